set_option maxHeartbeats 4000000 in
set_option maxRecDepth 100000 in
theorem c_X1_tell (l : Launch) (g : va_G) (cI cJ cZ : ClassId) (k r1 r2 r3 r4 : Nat) (sz lf rt tr : Nat → Int32) (i : Nat) (a b d : Int32) (hi : i < 25) : kV l g (kty cI cJ cZ) yX1_tell wsX1_tell ({ frames := 0, cells := 0, slots := 0, locals := 0 }) [.ref k, .int (nI i), .int a, .int b, .int d] [(k, .inr (1, [.ref r1, .ref r2, .ref r3, .ref r4])), (r1, .inl (cI, 25, .inl sz)), (r2, .inl (cI, 25, .inl lf)), (r3, .inl (cI, 25, .inl rt)), (r4, .inl (cI, 25, .inl tr))] (S := Unit) (fun _ => True) (fun u => [(k, .inr (1, [.ref r1, .ref r2, .ref r3, .ref r4])), (r1, .inl (cI, 25, .inl (upd sz i a))), (r2, .inl (cI, 25, .inl (upd lf i b))), (r3, .inl (cI, 25, .inl (upd rt i d))), (r4, .inl (cI, 25, .inl tr))]) 0 0 := by
  intro sz
  refine Met.ofW (cc := cX1_tell) (maxL := 5) (ret := none) (by decide) rfl ?_
  intro p e s m args below meth c s₁ B hml hv
  obtain ⟨rfl, hsz, hP, hk, hD0⟩ := hv
  subst hsz
  have hx := B.exec
  have hb := B.bytes
  have hr := B.returns
  have hts := atoms_spec (ws := wsX1_tell) B.pre
  have hown : s.vm.findClass RX1 = some m.cls := findClass_of_methodNamed B.named
  have hlocks := B.notSynchronized
  have hK := hk.1
  have hinX1 : ∀ w ∈ wsX10, w ∈ wsX1_tell := by decide +kernel
  obtain ⟨A, hAe⟩ : ∃ A, va_A [(k, .inr (1, [.ref r1, .ref r2, .ref r3, .ref r4])), (r1, .inl (cI, 25, .inl sz)), (r2, .inl (cI, 25, .inl lf)), (r3, .inl (cI, 25, .inl rt)), (r4, .inl (cI, 25, .inl tr))] s.heap.size = A := ⟨_, rfl⟩
  have hD := hD0.self (sz := s.heap.size)
  rw [hAe] at hD
  have hA : ∀ q : Nat, s.heap.size ≤ q → A q := fun q h => by rw [← hAe]; exact Or.inr h
  have hS : va_S A s.heap s.heap [] := va_S.rf
  have hl := lv_entry ([.ref k, .int (nI i), .int a, .int b, .int d]) (n := 5) (Nat.le_of_ble_eq_true rfl)
  rw [lg_entry_eq]
  generalize (lg_sl ([.ref k, .int (nI i), .int a, .int b, .int d]) ++ List.replicate (5 - (lg_sl ([.ref k, .int (nI i), .int a, .int b, .int d])).length) Slot.unset).toArray = ls at hl ⊢
  have hl : lv_has ls 5 [(0, .ref k), (1, .int (nI i)), (2, .int a), (3, .int b), (4, .int d)] := hl
  refine lv_aload_n hx hb dX1_tell_0 rfl (lv_at hl 0 rfl) ?_
  refine va_get (D := g) (ci := 1) (v := .ref r1) (C := RX1) (T := TX1) (N := 4) hx hb hts hinX1 hown hK hP 0 rfl rfl 0 (by decide) (hts (.fieldLink RX1 9 "BuddyRoof$Rule" "size" "[I") (by decide +kernel)) (fun _ h9 => h9) rfl dX1_tell_1 ?_
  refine lv_iload_n hx hb dX1_tell_4 rfl (lv_at hl 1 rfl) ?_
  refine lv_iload_n hx hb dX1_tell_5 rfl (lv_at hl 2 rfl) ?_
  refine n_astI hx hb hK hP hD hS 1 0 rfl rfl (i := i) (v := a) (by first | assumption | omega) (by first | assumption | omega) dX1_tell_6 (fun H locs hP hD hS => ?_)
  have hP : va_P g vwCl [(k, .inr (1, [.ref r1, .ref r2, .ref r3, .ref r4])), (r1, .inl (cI, 25, .inl (upd sz i a))), (r2, .inl (cI, 25, .inl lf)), (r3, .inl (cI, 25, .inl rt)), (r4, .inl (cI, 25, .inl tr))] H := hP
  have hD : va_D A [(k, .inr (1, [.ref r1, .ref r2, .ref r3, .ref r4])), (r1, .inl (cI, 25, .inl (upd sz i a))), (r2, .inl (cI, 25, .inl lf)), (r3, .inl (cI, 25, .inl rt)), (r4, .inl (cI, 25, .inl tr))] := hD
  refine lv_aload_n hx hb dX1_tell_7 rfl (lv_at hl 0 rfl) ?_
  refine va_get (D := g) (ci := 1) (v := .ref r2) (C := RX1) (T := TX1) (N := 4) hx hb hts hinX1 hown hK hP 0 rfl rfl 1 (by decide) (hts (.fieldLink RX1 15 "BuddyRoof$Rule" "left" "[I") (by decide +kernel)) (fun _ h9 => h9) rfl dX1_tell_8 ?_
  refine lv_iload_n hx hb dX1_tell_11 rfl (lv_at hl 1 rfl) ?_
  refine lv_iload_n hx hb dX1_tell_12 rfl (lv_at hl 3 rfl) ?_
  refine n_astI hx hb hK hP hD hS 2 0 rfl rfl (i := i) (v := b) (by first | assumption | omega) (by first | assumption | omega) dX1_tell_13 (fun H locs hP hD hS => ?_)
  have hP : va_P g vwCl [(k, .inr (1, [.ref r1, .ref r2, .ref r3, .ref r4])), (r1, .inl (cI, 25, .inl (upd sz i a))), (r2, .inl (cI, 25, .inl (upd lf i b))), (r3, .inl (cI, 25, .inl rt)), (r4, .inl (cI, 25, .inl tr))] H := hP
  have hD : va_D A [(k, .inr (1, [.ref r1, .ref r2, .ref r3, .ref r4])), (r1, .inl (cI, 25, .inl (upd sz i a))), (r2, .inl (cI, 25, .inl (upd lf i b))), (r3, .inl (cI, 25, .inl rt)), (r4, .inl (cI, 25, .inl tr))] := hD
  refine lv_aload_n hx hb dX1_tell_14 rfl (lv_at hl 0 rfl) ?_
  refine va_get (D := g) (ci := 1) (v := .ref r3) (C := RX1) (T := TX1) (N := 4) hx hb hts hinX1 hown hK hP 0 rfl rfl 2 (by decide) (hts (.fieldLink RX1 18 "BuddyRoof$Rule" "right" "[I") (by decide +kernel)) (fun _ h9 => h9) rfl dX1_tell_15 ?_
  refine lv_iload_n hx hb dX1_tell_18 rfl (lv_at hl 1 rfl) ?_
  refine lv_iload hx hb dX1_tell_19 (lv_at hl 4 rfl) ?_
  refine n_astI hx hb hK hP hD hS 3 0 rfl rfl (i := i) (v := d) (by first | assumption | omega) (by first | assumption | omega) dX1_tell_21 (fun H locs hP hD hS => ?_)
  have hP : va_P g vwCl [(k, .inr (1, [.ref r1, .ref r2, .ref r3, .ref r4])), (r1, .inl (cI, 25, .inl (upd sz i a))), (r2, .inl (cI, 25, .inl (upd lf i b))), (r3, .inl (cI, 25, .inl (upd rt i d))), (r4, .inl (cI, 25, .inl tr))] H := hP
  have hD : va_D A [(k, .inr (1, [.ref r1, .ref r2, .ref r3, .ref r4])), (r1, .inl (cI, 25, .inl (upd sz i a))), (r2, .inl (cI, 25, .inl (upd lf i b))), (r3, .inl (cI, 25, .inl (upd rt i d))), (r4, .inl (cI, 25, .inl tr))] := hD
  refine W.widen (k := 0) (n := 0) (by first | exact Nat.le_refl _ | omega) (by first | exact Nat.le_refl _ | omega) ?_
  exact k_retV (sz := 0) hx hb hr hlocks hAe hS hP hD () (rfl) (trivial) dX1_tell_22
set_option maxHeartbeats 4000000 in
set_option maxRecDepth 100000 in
theorem c_X3_row (l : Launch) (g : va_G) (cI cJ cZ : ClassId) (x mm sc ga : Nat) (bu : Int32) (k r1 r2 r3 r4 : Nat) (sz lf rt tr : Nat → Int32) (i : Nat) (a b d : Int32) (hi : 1 ≤ i ∧ i ≤ 24) : kV l g (kty cI cJ cZ) yX3_row wsX3_row ({ frames := 2, cells := 0, slots := 0, locals := 40 }) [.ref x, .int (nI i), .int a, .int b, .int d] [(x, .inr (3, [.ref k, .ref mm, .ref sc, .ref ga, .int bu])), (k, .inr (1, [.ref r1, .ref r2, .ref r3, .ref r4])), (r1, .inl (cI, 25, .inl sz)), (r2, .inl (cI, 25, .inl lf)), (r3, .inl (cI, 25, .inl rt)), (r4, .inl (cI, 25, .inl tr))] (S := Unit) (fun _ => True) (fun u => [(x, .inr (3, [.ref k, .ref mm, .ref sc, .ref ga, .int bu])), (k, .inr (1, [.ref r1, .ref r2, .ref r3, .ref r4])), (r1, .inl (cI, 25, .inl (upd sz i a))), (r2, .inl (cI, 25, .inl (upd lf i b))), (r3, .inl (cI, 25, .inl (upd rt i d))), (r4, .inl (cI, 25, .inl tr))]) 0 0 := by
  intro sz
  refine Met.ofW (cc := cX3_row) (maxL := 5) (ret := none) (by decide) rfl ?_
  intro p e s m args below meth c s₁ B hml hv
  obtain ⟨rfl, hsz, hP, hk, hD0⟩ := hv
  subst hsz
  have hx := B.exec
  have hb := B.bytes
  have hr := B.returns
  have hts := atoms_spec (ws := wsX3_row) B.pre
  have hown : s.vm.findClass RX3 = some m.cls := findClass_of_methodNamed B.named
  have hlocks := B.notSynchronized
  have hK := hk.1
  have hinX3 : ∀ w ∈ wsX30, w ∈ wsX3_row := by decide +kernel
  obtain ⟨A, hAe⟩ : ∃ A, va_A [(x, .inr (3, [.ref k, .ref mm, .ref sc, .ref ga, .int bu])), (k, .inr (1, [.ref r1, .ref r2, .ref r3, .ref r4])), (r1, .inl (cI, 25, .inl sz)), (r2, .inl (cI, 25, .inl lf)), (r3, .inl (cI, 25, .inl rt)), (r4, .inl (cI, 25, .inl tr))] s.heap.size = A := ⟨_, rfl⟩
  have hD := hD0.self (sz := s.heap.size)
  rw [hAe] at hD
  have hA : ∀ q : Nat, s.heap.size ≤ q → A q := fun q h => by rw [← hAe]; exact Or.inr h
  have hS : va_S A s.heap s.heap [] := va_S.rf
  have hl := lv_entry ([.ref x, .int (nI i), .int a, .int b, .int d]) (n := 5) (Nat.le_of_ble_eq_true rfl)
  rw [lg_entry_eq]
  generalize (lg_sl ([.ref x, .int (nI i), .int a, .int b, .int d]) ++ List.replicate (5 - (lg_sl ([.ref x, .int (nI i), .int a, .int b, .int d])).length) Slot.unset).toArray = ls at hl ⊢
  have hl : lv_has ls 5 [(0, .ref x), (1, .int (nI i)), (2, .int a), (3, .int b), (4, .int d)] := hl
  refine lv_iload_n hx hb dX3_row_0 rfl (lv_at hl 1 rfl) ?_
  refine k_goV (wr := [(x, .inr (3, [.ref k, .ref mm, .ref sc, .ref ga, .int bu])), (k, .inr (1, [.ref r1, .ref r2, .ref r3, .ref r4])), (r1, .inl (cI, 25, .inl sz)), (r2, .inl (cI, 25, .inl lf)), (r3, .inl (cI, 25, .inl rt)), (r4, .inl (cI, 25, .inl tr))]) (va_runS (As := [.int (nI i)]) (rest := []) ⟨hx, hb, hml, hown, hts⟩ (c_X3_requireClass l g cI cJ cZ  (nI i) ⟨nI_le hi.1 (by omega), nI_le hi.2 (by decide)⟩ _) (va_cwS 1 hts gX3_row_X3_requireClass rfl rfl rfl (by decide +kernel) ⟨Nat.le_of_ble_eq_true rfl, Nat.le_of_ble_eq_true rfl⟩) (k_preS hk hP hD [] rfl rfl) rfl rfl hl.1 rfl (lv_room (Nat.le_of_ble_eq_true rfl)) dX3_row_1 ⟨by first | exact Nat.zero_le _ | omega, by first | exact Nat.zero_le _ | omega⟩) hP hD hS hA [] [0, 1, 2, 3, 4, 5] rfl rfl rfl (by decide) (fun _ H locs hu hP hD hS => ?_)
  have hP : va_P g vwCl [(x, .inr (3, [.ref k, .ref mm, .ref sc, .ref ga, .int bu])), (k, .inr (1, [.ref r1, .ref r2, .ref r3, .ref r4])), (r1, .inl (cI, 25, .inl sz)), (r2, .inl (cI, 25, .inl lf)), (r3, .inl (cI, 25, .inl rt)), (r4, .inl (cI, 25, .inl tr))] H := hP
  have hD : va_D A [(x, .inr (3, [.ref k, .ref mm, .ref sc, .ref ga, .int bu])), (k, .inr (1, [.ref r1, .ref r2, .ref r3, .ref r4])), (r1, .inl (cI, 25, .inl sz)), (r2, .inl (cI, 25, .inl lf)), (r3, .inl (cI, 25, .inl rt)), (r4, .inl (cI, 25, .inl tr))] := hD
  refine lv_aload_n hx hb dX3_row_4 rfl (lv_at hl 0 rfl) ?_
  refine va_get (D := g) (ci := 3) (v := .ref k) (C := RX3) (T := TX3) (N := 5) hx hb hts hinX3 hown hK hP 0 rfl rfl 0 (by decide) (hts (.fieldLink RX3 12 "BuddyRoof" "told" "LBuddyRoof$Rule;") (by decide +kernel)) (fun _ h9 => h9) rfl dX3_row_5 ?_
  refine lv_iload_n hx hb dX3_row_8 rfl (lv_at hl 1 rfl) ?_
  refine lv_iload_n hx hb dX3_row_9 rfl (lv_at hl 2 rfl) ?_
  refine lv_iload_n hx hb dX3_row_10 rfl (lv_at hl 3 rfl) ?_
  refine lv_iload hx hb dX3_row_11 (lv_at hl 4 rfl) ?_
  refine k_goV (wr := [(x, .inr (3, [.ref k, .ref mm, .ref sc, .ref ga, .int bu]))]) (va_runV (As := [.int (nI i), .int a, .int b, .int d]) (rest := []) ⟨hx, hb, hml, hown, hts⟩ (c_X1_tell l g cI cJ cZ k r1 r2 r3 r4 sz lf rt tr i a b d (by omega) _) (cwV 4 hts gX3_row_X1_tell rfl rfl rfl (by decide +kernel) ⟨Nat.le_of_ble_eq_true rfl, Nat.le_of_ble_eq_true rfl⟩) (k_preV hk hP hD [1, 2, 3, 4, 5] rfl rfl (ci := 1) (q0 := 0) rfl rfl) rfl rfl hl.1 rfl (lv_room (Nat.le_of_ble_eq_true rfl)) dX3_row_13 ⟨by first | exact Nat.zero_le _ | omega, by first | exact Nat.zero_le _ | omega⟩) hP hD hS hA [1, 2, 3, 4, 5] [0] rfl rfl rfl (by decide) (fun _ H locs hu hP hD hS => ?_)
  have hP : va_P g vwCl [(x, .inr (3, [.ref k, .ref mm, .ref sc, .ref ga, .int bu])), (k, .inr (1, [.ref r1, .ref r2, .ref r3, .ref r4])), (r1, .inl (cI, 25, .inl (upd sz i a))), (r2, .inl (cI, 25, .inl (upd lf i b))), (r3, .inl (cI, 25, .inl (upd rt i d))), (r4, .inl (cI, 25, .inl tr))] H := hP
  have hD : va_D A [(x, .inr (3, [.ref k, .ref mm, .ref sc, .ref ga, .int bu])), (k, .inr (1, [.ref r1, .ref r2, .ref r3, .ref r4])), (r1, .inl (cI, 25, .inl (upd sz i a))), (r2, .inl (cI, 25, .inl (upd lf i b))), (r3, .inl (cI, 25, .inl (upd rt i d))), (r4, .inl (cI, 25, .inl tr))] := hD
  refine W.widen (k := 0) (n := 0) (by first | exact Nat.le_refl _ | omega) (by first | exact Nat.le_refl _ | omega) ?_
  exact k_retV (sz := 0) hx hb hr hlocks hAe hS hP hD () (rfl) (trivial) dX3_row_16
set_option maxHeartbeats 4000000 in
set_option maxRecDepth 100000 in
theorem c_X3_row_t (l : Launch) (g : va_G) (cI cJ cZ : ClassId) (hst : l.stackTraces = false) (x mm sc ga : Nat) (bu : Int32) (k r1 r2 r3 r4 : Nat) (sz lf rt tr : Nat → Int32) (v a b d : Int32) (hv : ¬ (nI 1 ≤ v ∧ v ≤ nI 24)) : kT l g (kty cI cJ cZ) yX3_row wsX3_row ({ frames := 7, cells := 1, slots := 6, locals := 110 }) [.ref x, .int v, .int a, .int b, .int d] [(x, .inr (3, [.ref k, .ref mm, .ref sc, .ref ga, .int bu])), (k, .inr (1, [.ref r1, .ref r2, .ref r3, .ref r4])), (r1, .inl (cI, 25, .inl sz)), (r2, .inl (cI, 25, .inl lf)), (r3, .inl (cI, 25, .inl rt)), (r4, .inl (cI, 25, .inl tr))] [(x, .inr (3, [.ref k, .ref mm, .ref sc, .ref ga, .int bu])), (k, .inr (1, [.ref r1, .ref r2, .ref r3, .ref r4])), (r1, .inl (cI, 25, .inl sz)), (r2, .inl (cI, 25, .inl lf)), (r3, .inl (cI, 25, .inl rt)), (r4, .inl (cI, 25, .inl tr))] xA := by
  intro sz
  refine vx_ofW (cc := cX3_row) (maxL := 5) (ret := none) (by decide) rfl ?_
  intro p e s m args below meth c s₁ B hml htab hv
  obtain ⟨rfl, ⟨hsz, hP, hk, hD0⟩, hxT, hxZ⟩ := hv
  subst hsz
  have hx := B.exec
  have hb := B.bytes
  have hr := B.returns
  have hts := atoms_spec (ws := wsX3_row) B.pre
  have hown : s.vm.findClass RX3 = some m.cls := findClass_of_methodNamed B.named
  have hlocks := B.notSynchronized
  have hK := hk.1
  obtain ⟨A, hAe⟩ : ∃ A, va_A [(x, .inr (3, [.ref k, .ref mm, .ref sc, .ref ga, .int bu])), (k, .inr (1, [.ref r1, .ref r2, .ref r3, .ref r4])), (r1, .inl (cI, 25, .inl sz)), (r2, .inl (cI, 25, .inl lf)), (r3, .inl (cI, 25, .inl rt)), (r4, .inl (cI, 25, .inl tr))] s.heap.size = A := ⟨_, rfl⟩
  have hD := hD0.self (sz := s.heap.size)
  rw [hAe] at hD hxZ
  have hA : ∀ q : Nat, s.heap.size ≤ q → A q := fun q h => by rw [← hAe]; exact Or.inr h
  have hS : va_S A s.heap s.heap [] := va_S.rf
  have hl := lv_entry ([.ref x, .int v, .int a, .int b, .int d]) (n := 5) (Nat.le_of_ble_eq_true rfl)
  rw [lg_entry_eq]
  generalize (lg_sl ([.ref x, .int v, .int a, .int b, .int d]) ++ List.replicate (5 - (lg_sl ([.ref x, .int v, .int a, .int b, .int d])).length) Slot.unset).toArray = ls at hl ⊢
  have hl : lv_has ls 5 [(0, .ref x), (1, .int v), (2, .int a), (3, .int b), (4, .int d)] := hl
  refine lv_iload_n hx hb dX3_row_0 rfl (lv_at hl 1 rfl) ?_
  refine k_goT (wr := [(x, .inr (3, [.ref k, .ref mm, .ref sc, .ref ga, .int bu])), (k, .inr (1, [.ref r1, .ref r2, .ref r3, .ref r4])), (r1, .inl (cI, 25, .inl sz)), (r2, .inl (cI, 25, .inl lf)), (r3, .inl (cI, 25, .inl rt)), (r4, .inl (cI, 25, .inl tr))]) (vx_runS (As := [.int v]) (rest := []) ⟨hx, hb, hml, hown, hts⟩ (c_X3_requireClass_t l g cI cJ cZ hst  v hv _) (va_cwS 1 hts gX3_row_X3_requireClass rfl rfl rfl (by decide +kernel) ⟨Nat.le_of_ble_eq_true rfl, Nat.le_of_ble_eq_true rfl⟩) (k_preSx hk hxT (hxZ.kept (fun a h1 h2 => hS.2.1 a h1 h2)) hP hD hS hA [] rfl rfl) rfl rfl hl.1 rfl (lv_room (Nat.le_of_ble_eq_true rfl)) dX3_row_1 ⟨Nat.le_of_ble_eq_true rfl, Nat.le_of_ble_eq_true rfl⟩) hP hD hS hA [] [0, 1, 2, 3, 4, 5] rfl rfl rfl (by decide) (fun ce q9 H locs hP hD hS hkp hce hcv hcl => ?_)
  have hP : va_P g vwCl [(x, .inr (3, [.ref k, .ref mm, .ref sc, .ref ga, .int bu])), (k, .inr (1, [.ref r1, .ref r2, .ref r3, .ref r4])), (r1, .inl (cI, 25, .inl sz)), (r2, .inl (cI, 25, .inl lf)), (r3, .inl (cI, 25, .inl rt)), (r4, .inl (cI, 25, .inl tr))] H := hP
  have hD : va_D A [(x, .inr (3, [.ref k, .ref mm, .ref sc, .ref ga, .int bu])), (k, .inr (1, [.ref r1, .ref r2, .ref r3, .ref r4])), (r1, .inl (cI, 25, .inl sz)), (r2, .inl (cI, 25, .inl lf)), (r3, .inl (cI, 25, .inl rt)), (r4, .inl (cI, 25, .inl tr))] := hD
  exact k_out htab hlocks hce hcv hcl (hP.sub [0, 1, 2, 3, 4, 5] rfl) (hD.sub [0, 1, 2, 3, 4, 5] rfl rfl) hAe hS (Nat.le_refl _) (Nat.le_refl _)
