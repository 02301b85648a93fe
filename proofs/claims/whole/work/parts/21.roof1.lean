set_option maxHeartbeats 4000000 in
set_option maxRecDepth 100000 in
theorem c_X3_isClass (l : Launch) (g : va_G) (cI cJ cZ : ClassId) (v : Int32)  : kR l g (kty cI cJ cZ) yX3_isClass wsX3_isClass ({ frames := 0, cells := 0, slots := 0, locals := 0 }) [.int v] [] (bI (nI 1 ≤ v ∧ v ≤ nI 24)) := by
  refine Met.ofW (cc := cX3_isClass) (maxL := 1) (ret := (some .boolean)) (by decide) rfl ?_
  intro p e s m args below meth c s₁ B hml hv
  obtain ⟨rfl, hP, hk⟩ := hv
  have hx := B.exec
  have hb := B.bytes
  have hr := B.returns
  have hts := atoms_spec (ws := wsX3_isClass) B.pre
  have hown : s.vm.findClass RX3 = some m.cls := findClass_of_methodNamed B.named
  have hlocks := B.notSynchronized
  have hK := hk.1
  have hl := lv_entry ([.int v]) (n := 1) (Nat.le_of_ble_eq_true rfl)
  rw [lg_entry_eq]
  generalize (lg_sl ([.int v]) ++ List.replicate (1 - (lg_sl ([.int v])).length) Slot.unset).toArray = ls at hl ⊢
  have hl : lv_has ls 1 [(0, .int v)] := hl
  refine lv_iload_n hx hb dX3_isClass_0 rfl (lv_at hl 0 rfl) ?_
  refine lv_iconst (v := nI 1) hx hb dX3_isClass_1 (by decide) ?_
  refine lv_icmp_lt (tgt := 15) hx hb dX3_isClass_2 (by decide) (fun c1 => ?_) (fun c1 => ?_)
  · skip
    refine lv_iconst (v := nI 0) hx hb dX3_isClass_15 (by decide) ?_
    exact k_retRZ (v := nI 0) hx hb hr hlocks (by decide) (by rw [bI_f (fun q => Int32.not_le.mpr c1 q.1)]) dX3_isClass_16
  · skip
    refine lv_iload_n hx hb dX3_isClass_5 rfl (lv_at hl 0 rfl) ?_
    refine lv_bipush (v := nI 24) hx hb dX3_isClass_6 (by decide) ?_
    refine lv_icmp_gt (tgt := 15) hx hb dX3_isClass_8 (by decide) (fun c2 => ?_) (fun c2 => ?_)
    · skip
      refine lv_iconst (v := nI 0) hx hb dX3_isClass_15 (by decide) ?_
      exact k_retRZ (v := nI 0) hx hb hr hlocks (by decide) (by rw [bI_f (fun q => Int32.not_le.mpr c2 q.2)]) dX3_isClass_16
    · skip
      refine lv_iconst (v := nI 1) hx hb dX3_isClass_11 (by decide) ?_
      refine lv_goto (tgt := 16) hx hb dX3_isClass_12 (by decide) ?_
      exact k_retRZ (v := nI 1) hx hb hr hlocks (by decide) (by rw [bI_t ⟨Int32.not_lt.mp c1, Int32.not_lt.mp c2⟩]) dX3_isClass_16
set_option maxHeartbeats 4000000 in
set_option maxRecDepth 100000 in
theorem c_X3_isSize (l : Launch) (g : va_G) (cI cJ cZ : ClassId) (v : Int32)  : kR l g (kty cI cJ cZ) yX3_isSize wsX3_isSize ({ frames := 0, cells := 0, slots := 0, locals := 0 }) [.int v] [] (bI (nI 4 ≤ v ∧ v ≤ nI 4194304)) := by
  refine Met.ofW (cc := cX3_isSize) (maxL := 1) (ret := (some .boolean)) (by decide) rfl ?_
  intro p e s m args below meth c s₁ B hml hv
  obtain ⟨rfl, hP, hk⟩ := hv
  have hx := B.exec
  have hb := B.bytes
  have hr := B.returns
  have hts := atoms_spec (ws := wsX3_isSize) B.pre
  have hown : s.vm.findClass RX3 = some m.cls := findClass_of_methodNamed B.named
  have hlocks := B.notSynchronized
  have hK := hk.1
  have hl := lv_entry ([.int v]) (n := 1) (Nat.le_of_ble_eq_true rfl)
  rw [lg_entry_eq]
  generalize (lg_sl ([.int v]) ++ List.replicate (1 - (lg_sl ([.int v])).length) Slot.unset).toArray = ls at hl ⊢
  have hl : lv_has ls 1 [(0, .int v)] := hl
  refine lv_iload_n hx hb dX3_isSize_0 rfl (lv_at hl 0 rfl) ?_
  refine lv_iconst (v := nI 4) hx hb dX3_isSize_1 (by decide) ?_
  refine lv_icmp_lt (tgt := 15) hx hb dX3_isSize_2 (by decide) (fun c1 => ?_) (fun c1 => ?_)
  · skip
    refine lv_iconst (v := nI 0) hx hb dX3_isSize_15 (by decide) ?_
    exact k_retRZ (v := nI 0) hx hb hr hlocks (by decide) (by rw [bI_f (fun q => Int32.not_le.mpr c1 q.1)]) dX3_isSize_16
  · skip
    refine lv_iload_n hx hb dX3_isSize_5 rfl (lv_at hl 0 rfl) ?_
    refine lv_ldc hx hb (v := 4194304) hown (hts (.constant RX3 223 4194304) (by decide +kernel)) dX3_isSize_6 ?_
    refine n_top _ (nI 4194304) (by decide) ?_
    refine lv_icmp_gt (tgt := 15) hx hb dX3_isSize_8 (by decide) (fun c2 => ?_) (fun c2 => ?_)
    · skip
      refine lv_iconst (v := nI 0) hx hb dX3_isSize_15 (by decide) ?_
      exact k_retRZ (v := nI 0) hx hb hr hlocks (by decide) (by rw [bI_f (fun q => Int32.not_le.mpr c2 q.2)]) dX3_isSize_16
    · skip
      refine lv_iconst (v := nI 1) hx hb dX3_isSize_11 (by decide) ?_
      refine lv_goto (tgt := 16) hx hb dX3_isSize_12 (by decide) ?_
      exact k_retRZ (v := nI 1) hx hb hr hlocks (by decide) (by rw [bI_t ⟨Int32.not_lt.mp c1, Int32.not_lt.mp c2⟩]) dX3_isSize_16
set_option maxHeartbeats 4000000 in
set_option maxRecDepth 100000 in
theorem c_X3_requireClass (l : Launch) (g : va_G) (cI cJ cZ : ClassId) (v : Int32) (hv : nI 1 ≤ v ∧ v ≤ nI 24) : kV l g (kty cI cJ cZ) yX3_requireClass wsX3_requireClass ({ frames := 1, cells := 0, slots := 0, locals := 20 }) [.int v] [] (S := Unit) (fun _ => True) (fun u => []) 0 0 := by
  intro sz
  refine Met.ofW (cc := cX3_requireClass) (maxL := 1) (ret := none) (by decide) rfl ?_
  intro p e s m args below meth c s₁ B hml hv
  obtain ⟨rfl, hsz, hP, hk, hD0⟩ := hv
  subst hsz
  have hx := B.exec
  have hb := B.bytes
  have hr := B.returns
  have hts := atoms_spec (ws := wsX3_requireClass) B.pre
  have hown : s.vm.findClass RX3 = some m.cls := findClass_of_methodNamed B.named
  have hlocks := B.notSynchronized
  have hK := hk.1
  obtain ⟨A, hAe⟩ : ∃ A, va_A [] s.heap.size = A := ⟨_, rfl⟩
  have hD := hD0.self (sz := s.heap.size)
  rw [hAe] at hD
  have hA : ∀ q : Nat, s.heap.size ≤ q → A q := fun q h => by rw [← hAe]; exact Or.inr h
  have hS : va_S A s.heap s.heap [] := va_S.rf
  have hl := lv_entry ([.int v]) (n := 1) (Nat.le_of_ble_eq_true rfl)
  rw [lg_entry_eq]
  generalize (lg_sl ([.int v]) ++ List.replicate (1 - (lg_sl ([.int v])).length) Slot.unset).toArray = ls at hl ⊢
  have hl : lv_has ls 1 [(0, .int v)] := hl
  refine lv_iload_n hx hb dX3_requireClass_0 rfl (lv_at hl 0 rfl) ?_
  refine k_goR (W.runS (As := [.int v]) (rest := []) ⟨hx, hb, hml, hown, hts⟩ (c_X3_isClass l g cI cJ cZ  v ) (va_cwS 1 hts gX3_requireClass_X3_isClass rfl rfl rfl (by decide +kernel) ⟨Nat.le_of_ble_eq_true rfl, Nat.le_of_ble_eq_true rfl⟩) (k_preRS hk hP [] rfl) rfl rfl hl.1 rfl (lv_room (Nat.le_of_ble_eq_true rfl)) dX3_requireClass_1 ⟨by first | exact Nat.zero_le _ | omega, by first | exact Nat.zero_le _ | omega⟩) ?_
  refine k_ifne (tgt := 17) hx hb dX3_requireClass_4 (by decide) (fun c1 => ?_) (fun c1 => ?_)
  · skip
    refine W.widen (k := 0) (n := 0) (by first | exact Nat.le_refl _ | omega) (by first | exact Nat.le_refl _ | omega) ?_
    exact k_retV (sz := 0) hx hb hr hlocks hAe hS hP hD () (rfl) (trivial) dX3_requireClass_17
  · exact (by exact absurd hv c1)
set_option maxHeartbeats 4000000 in
set_option maxRecDepth 100000 in
theorem c_X3_requireClass_t (l : Launch) (g : va_G) (cI cJ cZ : ClassId) (hst : l.stackTraces = false) (v : Int32) (hv : ¬ (nI 1 ≤ v ∧ v ≤ nI 24)) : kT l g (kty cI cJ cZ) yX3_requireClass wsX3_requireClass ({ frames := 6, cells := 1, slots := 6, locals := 90 }) [.int v] [] [] xA := by
  intro sz
  refine vx_ofW (cc := cX3_requireClass) (maxL := 1) (ret := none) (by decide) rfl ?_
  intro p e s m args below meth c s₁ B hml htab hv
  obtain ⟨rfl, ⟨hsz, hP, hk, hD0⟩, hxT, hxZ⟩ := hv
  subst hsz
  have hx := B.exec
  have hb := B.bytes
  have hr := B.returns
  have hts := atoms_spec (ws := wsX3_requireClass) B.pre
  have hown : s.vm.findClass RX3 = some m.cls := findClass_of_methodNamed B.named
  have hlocks := B.notSynchronized
  have hK := hk.1
  obtain ⟨A, hAe⟩ : ∃ A, va_A [] s.heap.size = A := ⟨_, rfl⟩
  have hD := hD0.self (sz := s.heap.size)
  rw [hAe] at hD hxZ
  have hA : ∀ q : Nat, s.heap.size ≤ q → A q := fun q h => by rw [← hAe]; exact Or.inr h
  have hS : va_S A s.heap s.heap [] := va_S.rf
  have hl := lv_entry ([.int v]) (n := 1) (Nat.le_of_ble_eq_true rfl)
  rw [lg_entry_eq]
  generalize (lg_sl ([.int v]) ++ List.replicate (1 - (lg_sl ([.int v])).length) Slot.unset).toArray = ls at hl ⊢
  have hl : lv_has ls 1 [(0, .int v)] := hl
  refine lv_iload_n hx hb dX3_requireClass_0 rfl (lv_at hl 0 rfl) ?_
  refine k_goR (W.runS (As := [.int v]) (rest := []) ⟨hx, hb, hml, hown, hts⟩ (c_X3_isClass l g cI cJ cZ  v ) (va_cwS 1 hts gX3_requireClass_X3_isClass rfl rfl rfl (by decide +kernel) ⟨Nat.le_of_ble_eq_true rfl, Nat.le_of_ble_eq_true rfl⟩) (k_preRS hk hP [] rfl) rfl rfl hl.1 rfl (lv_room (Nat.le_of_ble_eq_true rfl)) dX3_requireClass_1 ⟨by first | exact Nat.zero_le _ | omega, by first | exact Nat.zero_le _ | omega⟩) ?_
  refine k_ifne (tgt := 17) hx hb dX3_requireClass_4 (by decide) (fun c1 => ?_) (fun c1 => ?_)
  · exact (by exact absurd c1 hv)
  · skip
    exact k_throw (E := xA) (text := "classes are 1 to 24") hx hb hst hown (by decide +kernel) (hts (.classLink RX3 42 "java/lang/IllegalArgumentException") (by decide +kernel)) (hts (.initialized "java/lang/IllegalArgumentException") (by decide +kernel)) hxT (by decide +kernel) (fun w hw => hts w (List.mem_cons_of_mem _ (List.mem_append_right _ hw))) (by decide +kernel) (by decide +kernel) hxZ hAe hS (hl.1.trans hml.symm) dX3_requireClass_7 dX3_requireClass_10 dX3_requireClass_11 dX3_requireClass_13 dX3_requireClass_16 htab (Nat.le_of_ble_eq_true rfl) (Nat.le_of_ble_eq_true rfl) (Nat.le_of_ble_eq_true rfl) (Nat.le_of_ble_eq_true rfl) hlocks (hP.sub [] rfl) (hD.sub [] rfl rfl) (Nat.le_refl _) (Nat.le_refl _)
set_option maxHeartbeats 4000000 in
set_option maxRecDepth 100000 in
theorem c_X3_requireWords (l : Launch) (g : va_G) (cI cJ cZ : ClassId) (v : Int32) (hv : nI 1 ≤ v) : kV l g (kty cI cJ cZ) yX3_requireWords wsX3_requireWords ({ frames := 0, cells := 0, slots := 0, locals := 0 }) [.int v] [] (S := Unit) (fun _ => True) (fun u => []) 0 0 := by
  intro sz
  refine Met.ofW (cc := cX3_requireWords) (maxL := 1) (ret := none) (by decide) rfl ?_
  intro p e s m args below meth c s₁ B hml hv
  obtain ⟨rfl, hsz, hP, hk, hD0⟩ := hv
  subst hsz
  have hx := B.exec
  have hb := B.bytes
  have hr := B.returns
  have hts := atoms_spec (ws := wsX3_requireWords) B.pre
  have hown : s.vm.findClass RX3 = some m.cls := findClass_of_methodNamed B.named
  have hlocks := B.notSynchronized
  have hK := hk.1
  obtain ⟨A, hAe⟩ : ∃ A, va_A [] s.heap.size = A := ⟨_, rfl⟩
  have hD := hD0.self (sz := s.heap.size)
  rw [hAe] at hD
  have hA : ∀ q : Nat, s.heap.size ≤ q → A q := fun q h => by rw [← hAe]; exact Or.inr h
  have hS : va_S A s.heap s.heap [] := va_S.rf
  have hl := lv_entry ([.int v]) (n := 1) (Nat.le_of_ble_eq_true rfl)
  rw [lg_entry_eq]
  generalize (lg_sl ([.int v]) ++ List.replicate (1 - (lg_sl ([.int v])).length) Slot.unset).toArray = ls at hl ⊢
  have hl : lv_has ls 1 [(0, .int v)] := hl
  refine lv_iload_n hx hb dX3_requireWords_0 rfl (lv_at hl 0 rfl) ?_
  refine lv_iconst (v := nI 1) hx hb dX3_requireWords_1 (by decide) ?_
  refine lv_icmp_ge (tgt := 15) hx hb dX3_requireWords_2 (by decide) (fun c1 => ?_) (fun c1 => ?_)
  · skip
    refine W.widen (k := 0) (n := 0) (by first | exact Nat.le_refl _ | omega) (by first | exact Nat.le_refl _ | omega) ?_
    exact k_retV (sz := 0) hx hb hr hlocks hAe hS hP hD () (rfl) (trivial) dX3_requireWords_15
  · exact (by exact absurd hv c1)
set_option maxHeartbeats 4000000 in
set_option maxRecDepth 100000 in
theorem c_X3_requireWords_t (l : Launch) (g : va_G) (cI cJ cZ : ClassId) (hst : l.stackTraces = false) (v : Int32) (hv : ¬ nI 1 ≤ v) : kT l g (kty cI cJ cZ) yX3_requireWords wsX3_requireWords ({ frames := 6, cells := 1, slots := 6, locals := 90 }) [.int v] [] [] xA := by
  intro sz
  refine vx_ofW (cc := cX3_requireWords) (maxL := 1) (ret := none) (by decide) rfl ?_
  intro p e s m args below meth c s₁ B hml htab hv
  obtain ⟨rfl, ⟨hsz, hP, hk, hD0⟩, hxT, hxZ⟩ := hv
  subst hsz
  have hx := B.exec
  have hb := B.bytes
  have hr := B.returns
  have hts := atoms_spec (ws := wsX3_requireWords) B.pre
  have hown : s.vm.findClass RX3 = some m.cls := findClass_of_methodNamed B.named
  have hlocks := B.notSynchronized
  have hK := hk.1
  obtain ⟨A, hAe⟩ : ∃ A, va_A [] s.heap.size = A := ⟨_, rfl⟩
  have hD := hD0.self (sz := s.heap.size)
  rw [hAe] at hD hxZ
  have hA : ∀ q : Nat, s.heap.size ≤ q → A q := fun q h => by rw [← hAe]; exact Or.inr h
  have hS : va_S A s.heap s.heap [] := va_S.rf
  have hl := lv_entry ([.int v]) (n := 1) (Nat.le_of_ble_eq_true rfl)
  rw [lg_entry_eq]
  generalize (lg_sl ([.int v]) ++ List.replicate (1 - (lg_sl ([.int v])).length) Slot.unset).toArray = ls at hl ⊢
  have hl : lv_has ls 1 [(0, .int v)] := hl
  refine lv_iload_n hx hb dX3_requireWords_0 rfl (lv_at hl 0 rfl) ?_
  refine lv_iconst (v := nI 1) hx hb dX3_requireWords_1 (by decide) ?_
  refine lv_icmp_ge (tgt := 15) hx hb dX3_requireWords_2 (by decide) (fun c1 => ?_) (fun c1 => ?_)
  · exact (by exact absurd c1 hv)
  · skip
    exact k_throw (E := xA) (text := "a request is of 1 word at least") hx hb hst hown (by decide +kernel) (hts (.classLink RX3 42 "java/lang/IllegalArgumentException") (by decide +kernel)) (hts (.initialized "java/lang/IllegalArgumentException") (by decide +kernel)) hxT (by decide +kernel) (fun w hw => hts w (List.mem_cons_of_mem _ (List.mem_append_right _ hw))) (by decide +kernel) (by decide +kernel) hxZ hAe hS (hl.1.trans hml.symm) dX3_requireWords_5 dX3_requireWords_8 dX3_requireWords_9 dX3_requireWords_11 dX3_requireWords_14 htab (Nat.le_of_ble_eq_true rfl) (Nat.le_of_ble_eq_true rfl) (Nat.le_of_ble_eq_true rfl) (Nat.le_of_ble_eq_true rfl) hlocks (hP.sub [] rfl) (hD.sub [] rfl rfl) (Nat.le_refl _) (Nat.le_refl _)
