set_option maxHeartbeats 4000000 in
set_option maxRecDepth 100000 in
theorem c_X3_requireMemory (l : Launch) (g : va_G) (cI cJ cZ : ClassId) (x tk sc ga : Nat) (mh : Nat)  : kV l g (kty cI cJ cZ) yX3_requireMemory wsX3_requireMemory ({ frames := 0, cells := 0, slots := 0, locals := 0 }) [.ref x] [(x, .inr (3, [.ref tk, .ref mh, .ref sc, .ref ga, .int (nI 1)]))] (S := Unit) (fun _ => True) (fun u => [(x, .inr (3, [.ref tk, .ref mh, .ref sc, .ref ga, .int (nI 1)]))]) 0 0 := by
  intro sz
  refine Met.ofW (cc := cX3_requireMemory) (maxL := 1) (ret := none) (by decide) rfl ?_
  intro p e s m args below meth c s₁ B hml hv
  obtain ⟨rfl, hsz, hP, hk, hD0⟩ := hv
  subst hsz
  have hx := B.exec
  have hb := B.bytes
  have hr := B.returns
  have hts := atoms_spec (ws := wsX3_requireMemory) B.pre
  have hown : s.vm.findClass RX3 = some m.cls := findClass_of_methodNamed B.named
  have hlocks := B.notSynchronized
  have hK := hk.1
  have hinX3 : ∀ w ∈ wsX30, w ∈ wsX3_requireMemory := by decide +kernel
  obtain ⟨A, hAe⟩ : ∃ A, va_A [(x, .inr (3, [.ref tk, .ref mh, .ref sc, .ref ga, .int (nI 1)]))] s.heap.size = A := ⟨_, rfl⟩
  have hD := hD0.self (sz := s.heap.size)
  rw [hAe] at hD
  have hA : ∀ q : Nat, s.heap.size ≤ q → A q := fun q h => by rw [← hAe]; exact Or.inr h
  have hS : va_S A s.heap s.heap [] := va_S.rf
  have hl := lv_entry ([.ref x]) (n := 1) (Nat.le_of_ble_eq_true rfl)
  rw [lg_entry_eq]
  generalize (lg_sl ([.ref x]) ++ List.replicate (1 - (lg_sl ([.ref x])).length) Slot.unset).toArray = ls at hl ⊢
  have hl : lv_has ls 1 [(0, .ref x)] := hl
  refine lv_aload_n hx hb dX3_requireMemory_0 rfl (lv_at hl 0 rfl) ?_
  refine va_get (D := g) (ci := 3) (v := .int (nI 1)) (C := RX3) (T := TX3) (N := 5) hx hb hts hinX3 hown hK hP 0 rfl rfl 4 (by decide) (hts (.fieldLink RX3 30 "BuddyRoof" "built" "Z") (by decide +kernel)) (fun _ h9 => h9) rfl dX3_requireMemory_1 ?_
  refine n_if_ne (tgt := 17) hx hb dX3_requireMemory_4 (by decide) (by first | assumption | omega) (fun c1 => ?_) (fun c1 => ?_)
  · skip
    refine W.widen (k := 0) (n := 0) (by first | exact Nat.le_refl _ | omega) (by first | exact Nat.le_refl _ | omega) ?_
    exact k_retV (sz := 0) hx hb hr hlocks hAe hS hP hD () (rfl) (trivial) dX3_requireMemory_17
  · exact (by exact absurd c1 (by decide))
set_option maxHeartbeats 4000000 in
set_option maxRecDepth 100000 in
theorem c_X3_requireMemory_t (l : Launch) (g : va_G) (cI cJ cZ : ClassId) (hst : l.stackTraces = false) (x tk sc ga : Nat) (mh : Nat)  : kT l g (kty cI cJ cZ) yX3_requireMemory wsX3_requireMemory ({ frames := 6, cells := 1, slots := 6, locals := 90 }) [.ref x] [(x, .inr (3, [.ref tk, .ref mh, .ref sc, .ref ga, .int (nI 0)]))] [(x, .inr (3, [.ref tk, .ref mh, .ref sc, .ref ga, .int (nI 0)]))] xI := by
  intro sz
  refine vx_ofW (cc := cX3_requireMemory) (maxL := 1) (ret := none) (by decide) rfl ?_
  intro p e s m args below meth c s₁ B hml htab hv
  obtain ⟨rfl, ⟨hsz, hP, hk, hD0⟩, hxT, hxZ⟩ := hv
  subst hsz
  have hx := B.exec
  have hb := B.bytes
  have hr := B.returns
  have hts := atoms_spec (ws := wsX3_requireMemory) B.pre
  have hown : s.vm.findClass RX3 = some m.cls := findClass_of_methodNamed B.named
  have hlocks := B.notSynchronized
  have hK := hk.1
  have hinX3 : ∀ w ∈ wsX30, w ∈ wsX3_requireMemory := by decide +kernel
  obtain ⟨A, hAe⟩ : ∃ A, va_A [(x, .inr (3, [.ref tk, .ref mh, .ref sc, .ref ga, .int (nI 0)]))] s.heap.size = A := ⟨_, rfl⟩
  have hD := hD0.self (sz := s.heap.size)
  rw [hAe] at hD hxZ
  have hA : ∀ q : Nat, s.heap.size ≤ q → A q := fun q h => by rw [← hAe]; exact Or.inr h
  have hS : va_S A s.heap s.heap [] := va_S.rf
  have hl := lv_entry ([.ref x]) (n := 1) (Nat.le_of_ble_eq_true rfl)
  rw [lg_entry_eq]
  generalize (lg_sl ([.ref x]) ++ List.replicate (1 - (lg_sl ([.ref x])).length) Slot.unset).toArray = ls at hl ⊢
  have hl : lv_has ls 1 [(0, .ref x)] := hl
  refine lv_aload_n hx hb dX3_requireMemory_0 rfl (lv_at hl 0 rfl) ?_
  refine va_get (D := g) (ci := 3) (v := .int (nI 0)) (C := RX3) (T := TX3) (N := 5) hx hb hts hinX3 hown hK hP 0 rfl rfl 4 (by decide) (hts (.fieldLink RX3 30 "BuddyRoof" "built" "Z") (by decide +kernel)) (fun _ h9 => h9) rfl dX3_requireMemory_1 ?_
  refine n_if_ne (tgt := 17) hx hb dX3_requireMemory_4 (by decide) (by first | assumption | omega) (fun c1 => ?_) (fun c1 => ?_)
  · exact (by exact absurd c1 (by decide))
  · skip
    exact k_throw (E := xI) (text := "there is no memory") hx hb hst hown (by decide +kernel) (hts (.classLink RX3 84 "java/lang/IllegalStateException") (by decide +kernel)) (hts (.initialized "java/lang/IllegalStateException") (by decide +kernel)) hxT (by decide +kernel) (fun w hw => hts w (List.mem_cons_of_mem _ (List.mem_append_right _ hw))) (by decide +kernel) (by decide +kernel) hxZ hAe hS (hl.1.trans hml.symm) dX3_requireMemory_7 dX3_requireMemory_10 dX3_requireMemory_11 dX3_requireMemory_13 dX3_requireMemory_16 htab (Nat.le_of_ble_eq_true rfl) (Nat.le_of_ble_eq_true rfl) (Nat.le_of_ble_eq_true rfl) (Nat.le_of_ble_eq_true rfl) hlocks (hP.sub [0] rfl) (hD.sub [0] rfl rfl) (Nat.le_refl _) (Nat.le_refl _)
set_option maxHeartbeats 4000000 in
set_option maxRecDepth 100000 in
theorem c_X3_addressOrNone (l : Launch) (g : va_G) (cI cJ cZ : ClassId) (x tk sc ga : Nat) (mh kr kq fq bq gq : Nat) (rcv ncl bl rd hd jn sn : Nat) (fo : Nat → Nat) (h q1 q2 q3 q4 q5 q6 q7 n : Nat) (pa ch kd ad ra su un : Nat → Nat) (mk sv : Nat) (top : Nat) (S L R : Nat → Nat) (rc : Nat → Bool) (sp : Nat → Bool) (rq nu : Nat → Nat) (y : Nat) (hn : n < 2 ^ 25) (hI : wI top S L R sp rq nu ([]) n mk sv pa ch kd ad ra su un fo bl rd hd) (hy : y ≠ 0 → ex sp y) : kR l g (kty cI cJ cZ) yX3_addressOrNone wsX3_addressOrNone ({ frames := 1, cells := 0, slots := 0, locals := 21 }) [.ref x, .int (nI (nz nu y))] [(x, .inr (3, [.ref tk, .ref mh, .ref sc, .ref ga, .int (nI 1)])), (mh, .inr (0, [.ref kr, .ref h, .ref kq, .ref fq, .ref bq, .ref gq, .int (nI rcv), .int (nI ncl), .int (nI bl), .int (nI rd), .int (nI hd), .int (nI jn), .int (nI sn)])), (h, .inr (2, [.ref q1, .ref q2, .ref q3, .ref q4, .ref q5, .ref q6, .ref q7, .int (nI mk), .int (nI sv)])), (q1, .inl (cI, n, .inl (fun j => nI (pa j)))), (q2, .inl (cI, n, .inl (fun j => nI (ch j)))), (q3, .inl (cI, n, .inl (fun j => nI (kd j)))), (q4, .inl (cI, n, .inl (fun j => nI (ad j)))), (q5, .inl (cI, n, .inl (fun j => nI (ra j)))), (q6, .inl (cI, n, .inl (fun j => nI (su j)))), (q7, .inl (cI, n, .inl (fun j => nI (un j))))] (if y = 0 then -1 else nI (adr top S L R y)) := by
  refine Met.ofW (cc := cX3_addressOrNone) (maxL := 2) (ret := (some .int)) (by decide) rfl ?_
  intro p e s m args below meth c s₁ B hml hv
  obtain ⟨rfl, hP, hk⟩ := hv
  have hx := B.exec
  have hb := B.bytes
  have hr := B.returns
  have hts := atoms_spec (ws := wsX3_addressOrNone) B.pre
  have hown : s.vm.findClass RX3 = some m.cls := findClass_of_methodNamed B.named
  have hlocks := B.notSynchronized
  have hK := hk.1
  have hinX0 : ∀ w ∈ wsX00, w ∈ wsX3_addressOrNone := by decide +kernel
  have hinX3 : ∀ w ∈ wsX30, w ∈ wsX3_addressOrNone := by decide +kernel
  have hl := lv_entry ([.ref x, .int (nI (nz nu y))]) (n := 2) (Nat.le_of_ble_eq_true rfl)
  rw [lg_entry_eq]
  generalize (lg_sl ([.ref x, .int (nI (nz nu y))]) ++ List.replicate (2 - (lg_sl ([.ref x, .int (nI (nz nu y))])).length) Slot.unset).toArray = ls at hl ⊢
  have hl : lv_has ls 2 [(0, .ref x), (1, .int (nI (nz nu y)))] := hl
  have hn31 : n < 2 ^ 31 := by omega
  refine lv_iload_n hx hb dX3_addressOrNone_0 rfl (lv_at hl 1 rfl) ?_
  refine n_if_ne (tgt := 8) hx hb dX3_addressOrNone_1 (by decide) (by exact Nat.lt_trans (nz_lt hI hy) hn31) (fun c1 => ?_) (fun c1 => ?_)
  · skip
    have h0 : y ≠ 0 := nz_ne (nu := nu) (by omega)
    have hyn := wI_nu hI (hy h0)
    rw [nz_s h0] at hl
    refine lv_aload_n hx hb dX3_addressOrNone_8 rfl (lv_at hl 0 rfl) ?_
    refine va_get (D := g) (ci := 3) (v := .ref mh) (C := RX3) (T := TX3) (N := 5) hx hb hts hinX3 hown hK hP 0 rfl rfl 1 (by decide) (hts (.fieldLink RX3 19 "BuddyRoof" "memory" "LBuddyRoof$Memory;") (by decide +kernel)) (fun _ h9 => h9) rfl dX3_addressOrNone_9 ?_
    refine va_getN (D := g) (host := "BuddyRoof") (ci := 0) (v := .ref h) (C := RX0) (T := TX0) (N := 13) hx hb hts hinX0 hown hK hP 1 rfl rfl 1 (by decide) (hk.2.f (h := "BuddyRoof") (by decide +kernel)) (fun _ h9 => h9) rfl dX3_addressOrNone_12 ?_
    refine lv_iload_n hx hb dX3_addressOrNone_15 rfl (lv_at hl 1 rfl) ?_
    refine k_goR (W.runV (As := [.int (nI (nu y))]) (rest := []) ⟨hx, hb, hml, hown, hts⟩ (c_X2_addressOf l g cI cJ cZ h q1 q2 q3 q4 q5 q6 q7 n pa ch kd ad ra su un mk sv (nu y) hn31 hyn.2.1) (cwV 1 hts gX3_addressOrNone_X2_addressOf rfl rfl rfl (by decide +kernel) ⟨Nat.le_of_ble_eq_true rfl, Nat.le_of_ble_eq_true rfl⟩) (k_preRV hk hP [2, 3, 4, 5, 6, 7, 8, 9] rfl (ci := 2) (q0 := 0) rfl rfl) rfl rfl hl.1 rfl (lv_room (Nat.le_of_ble_eq_true rfl)) dX3_addressOrNone_16 ⟨by first | exact Nat.zero_le _ | omega, by first | exact Nat.zero_le _ | omega⟩) ?_
    refine n_top _ (nI (adr top S L R y)) (by rw [hyn.2.2.2.1]) ?_
    exact k_retR (v := nI (adr top S L R y)) hx hb hr hlocks (by rw [if_neg h0]) dX3_addressOrNone_19
  · skip
    have h0 : y = 0 := nz_0 hI hy (by omega)
    refine lv_iconst (v := (-1)) hx hb dX3_addressOrNone_4 (by decide) ?_
    refine lv_goto (tgt := 19) hx hb dX3_addressOrNone_5 (by decide) ?_
    exact k_retR (v := -1) hx hb hr hlocks (by rw [if_pos h0]) dX3_addressOrNone_19
set_option maxHeartbeats 4000000 in
set_option maxRecDepth 100000 in
theorem c_X3_requireBlock (l : Launch) (g : va_G) (cI cJ cZ : ClassId) (x tk sc ga : Nat) (mh kr kq fq bq gq : Nat) (rcv ncl bl rd hd jn sn : Nat) (fo : Nat → Nat) (h q1 q2 q3 q4 q5 q6 q7 n : Nat) (pa ch kd ad ra su un : Nat → Nat) (mk sv : Nat) (top : Nat) (S L R : Nat → Nat) (rc : Nat → Bool) (sp : Nat → Bool) (rq nu : Nat → Nat) (v : Int32) (hn : n < 2 ^ 25) (hR : RuleOK S L R rc top) (hI : wI top S L R sp rq nu ([]) n mk sv pa ch kd ad ra su un fo bl rd hd) (hb0 : blk (adr top S L R) rq (lvs sp 1) v ≠ 0) : kI l g (kty cI cJ cZ) yX3_requireBlock wsX3_requireBlock ({ frames := 1, cells := 0, slots := 0, locals := 24 }) [.ref x, .int v] [(x, .inr (3, [.ref tk, .ref mh, .ref sc, .ref ga, .int (nI 1)])), (mh, .inr (0, [.ref kr, .ref h, .ref kq, .ref fq, .ref bq, .ref gq, .int (nI rcv), .int (nI ncl), .int (nI bl), .int (nI rd), .int (nI hd), .int (nI jn), .int (nI sn)])), (h, .inr (2, [.ref q1, .ref q2, .ref q3, .ref q4, .ref q5, .ref q6, .ref q7, .int (nI mk), .int (nI sv)])), (q1, .inl (cI, n, .inl (fun j => nI (pa j)))), (q2, .inl (cI, n, .inl (fun j => nI (ch j)))), (q3, .inl (cI, n, .inl (fun j => nI (kd j)))), (q4, .inl (cI, n, .inl (fun j => nI (ad j)))), (q5, .inl (cI, n, .inl (fun j => nI (ra j)))), (q6, .inl (cI, n, .inl (fun j => nI (su j)))), (q7, .inl (cI, n, .inl (fun j => nI (un j))))] (S := Unit) (fun r _ => r = nI (nu (blk (adr top S L R) rq (lvs sp 1) v))) (fun u => [(x, .inr (3, [.ref tk, .ref mh, .ref sc, .ref ga, .int (nI 1)])), (mh, .inr (0, [.ref kr, .ref h, .ref kq, .ref fq, .ref bq, .ref gq, .int (nI rcv), .int (nI ncl), .int (nI bl), .int (nI rd), .int (nI hd), .int (nI jn), .int (nI sn)])), (h, .inr (2, [.ref q1, .ref q2, .ref q3, .ref q4, .ref q5, .ref q6, .ref q7, .int (nI mk), .int (nI sv)])), (q1, .inl (cI, n, .inl (fun j => nI (pa j)))), (q2, .inl (cI, n, .inl (fun j => nI (ch j)))), (q3, .inl (cI, n, .inl (fun j => nI (kd j)))), (q4, .inl (cI, n, .inl (fun j => nI (ad j)))), (q5, .inl (cI, n, .inl (fun j => nI (ra j)))), (q6, .inl (cI, n, .inl (fun j => nI (su j)))), (q7, .inl (cI, n, .inl (fun j => nI (un j))))]) 0 0 := by
  intro sz
  refine Met.ofW (cc := cX3_requireBlock) (maxL := 3) (ret := (some .int)) (by decide) rfl ?_
  intro p e s m args below meth c s₁ B hml hv
  obtain ⟨rfl, hsz, hP, hk, hD0⟩ := hv
  subst hsz
  have hx := B.exec
  have hb := B.bytes
  have hr := B.returns
  have hts := atoms_spec (ws := wsX3_requireBlock) B.pre
  have hown : s.vm.findClass RX3 = some m.cls := findClass_of_methodNamed B.named
  have hlocks := B.notSynchronized
  have hK := hk.1
  have hinX0 : ∀ w ∈ wsX00, w ∈ wsX3_requireBlock := by decide +kernel
  have hinX3 : ∀ w ∈ wsX30, w ∈ wsX3_requireBlock := by decide +kernel
  obtain ⟨A, hAe⟩ : ∃ A, va_A [(x, .inr (3, [.ref tk, .ref mh, .ref sc, .ref ga, .int (nI 1)])), (mh, .inr (0, [.ref kr, .ref h, .ref kq, .ref fq, .ref bq, .ref gq, .int (nI rcv), .int (nI ncl), .int (nI bl), .int (nI rd), .int (nI hd), .int (nI jn), .int (nI sn)])), (h, .inr (2, [.ref q1, .ref q2, .ref q3, .ref q4, .ref q5, .ref q6, .ref q7, .int (nI mk), .int (nI sv)])), (q1, .inl (cI, n, .inl (fun j => nI (pa j)))), (q2, .inl (cI, n, .inl (fun j => nI (ch j)))), (q3, .inl (cI, n, .inl (fun j => nI (kd j)))), (q4, .inl (cI, n, .inl (fun j => nI (ad j)))), (q5, .inl (cI, n, .inl (fun j => nI (ra j)))), (q6, .inl (cI, n, .inl (fun j => nI (su j)))), (q7, .inl (cI, n, .inl (fun j => nI (un j))))] s.heap.size = A := ⟨_, rfl⟩
  have hD := hD0.self (sz := s.heap.size)
  rw [hAe] at hD
  have hA : ∀ q : Nat, s.heap.size ≤ q → A q := fun q h => by rw [← hAe]; exact Or.inr h
  have hS : va_S A s.heap s.heap [] := va_S.rf
  have hl := lv_entry ([.ref x, .int v]) (n := 3) (Nat.le_of_ble_eq_true rfl)
  rw [lg_entry_eq]
  generalize (lg_sl ([.ref x, .int v]) ++ List.replicate (3 - (lg_sl ([.ref x, .int v])).length) Slot.unset).toArray = ls at hl ⊢
  have hl : lv_has ls 3 [(0, .ref x), (1, .int v)] := hl
  obtain ⟨a1, a2, a3, a4, a5, a6, a7, a8, -⟩ := hI.1.2.2.2.2.1
  have hn31 : n < 2 ^ 31 := by omega
  have hml9 := mk_len hI
  have hy := blk_leaf hR hI.1.1 hb0
  have hyn := wI_nu hI hy.2.1
  refine lv_aload_n hx hb dX3_requireBlock_0 rfl (lv_at hl 0 rfl) ?_
  refine k_goV (wr := [(mh, .inr (0, [.ref kr, .ref h, .ref kq, .ref fq, .ref bq, .ref gq, .int (nI rcv), .int (nI ncl), .int (nI bl), .int (nI rd), .int (nI hd), .int (nI jn), .int (nI sn)])), (h, .inr (2, [.ref q1, .ref q2, .ref q3, .ref q4, .ref q5, .ref q6, .ref q7, .int (nI mk), .int (nI sv)])), (q1, .inl (cI, n, .inl (fun j => nI (pa j)))), (q2, .inl (cI, n, .inl (fun j => nI (ch j)))), (q3, .inl (cI, n, .inl (fun j => nI (kd j)))), (q4, .inl (cI, n, .inl (fun j => nI (ad j)))), (q5, .inl (cI, n, .inl (fun j => nI (ra j)))), (q6, .inl (cI, n, .inl (fun j => nI (su j)))), (q7, .inl (cI, n, .inl (fun j => nI (un j))))]) (va_runV (As := []) (rest := []) ⟨hx, hb, hml, hown, hts⟩ (c_X3_requireMemory l g cI cJ cZ x tk sc ga mh   _) (cwV 0 hts gX3_requireBlock_X3_requireMemory rfl rfl rfl (by decide +kernel) ⟨Nat.le_of_ble_eq_true rfl, Nat.le_of_ble_eq_true rfl⟩) (k_preV hk hP hD [0] rfl rfl (ci := 3) (q0 := 0) rfl rfl) rfl rfl hl.1 rfl (lv_room (Nat.le_of_ble_eq_true rfl)) dX3_requireBlock_1 ⟨by first | exact Nat.zero_le _ | omega, by first | exact Nat.zero_le _ | omega⟩) hP hD hS hA [0] [1, 2, 3, 4, 5, 6, 7, 8, 9] rfl rfl rfl (by decide) (fun _ H locs hu hP hD hS => ?_)
  have hP : va_P g vwCl [(mh, .inr (0, [.ref kr, .ref h, .ref kq, .ref fq, .ref bq, .ref gq, .int (nI rcv), .int (nI ncl), .int (nI bl), .int (nI rd), .int (nI hd), .int (nI jn), .int (nI sn)])), (h, .inr (2, [.ref q1, .ref q2, .ref q3, .ref q4, .ref q5, .ref q6, .ref q7, .int (nI mk), .int (nI sv)])), (q1, .inl (cI, n, .inl (fun j => nI (pa j)))), (q2, .inl (cI, n, .inl (fun j => nI (ch j)))), (q3, .inl (cI, n, .inl (fun j => nI (kd j)))), (q4, .inl (cI, n, .inl (fun j => nI (ad j)))), (q5, .inl (cI, n, .inl (fun j => nI (ra j)))), (q6, .inl (cI, n, .inl (fun j => nI (su j)))), (q7, .inl (cI, n, .inl (fun j => nI (un j)))), (x, .inr (3, [.ref tk, .ref mh, .ref sc, .ref ga, .int (nI 1)]))] H := hP
  have hD : va_D A [(mh, .inr (0, [.ref kr, .ref h, .ref kq, .ref fq, .ref bq, .ref gq, .int (nI rcv), .int (nI ncl), .int (nI bl), .int (nI rd), .int (nI hd), .int (nI jn), .int (nI sn)])), (h, .inr (2, [.ref q1, .ref q2, .ref q3, .ref q4, .ref q5, .ref q6, .ref q7, .int (nI mk), .int (nI sv)])), (q1, .inl (cI, n, .inl (fun j => nI (pa j)))), (q2, .inl (cI, n, .inl (fun j => nI (ch j)))), (q3, .inl (cI, n, .inl (fun j => nI (kd j)))), (q4, .inl (cI, n, .inl (fun j => nI (ad j)))), (q5, .inl (cI, n, .inl (fun j => nI (ra j)))), (q6, .inl (cI, n, .inl (fun j => nI (su j)))), (q7, .inl (cI, n, .inl (fun j => nI (un j)))), (x, .inr (3, [.ref tk, .ref mh, .ref sc, .ref ga, .int (nI 1)]))] := hD
  refine lv_aload_n hx hb dX3_requireBlock_4 rfl (lv_at hl 0 rfl) ?_
  refine va_get (D := g) (ci := 3) (v := .ref mh) (C := RX3) (T := TX3) (N := 5) hx hb hts hinX3 hown hK hP 9 rfl rfl 1 (by decide) (hts (.fieldLink RX3 19 "BuddyRoof" "memory" "LBuddyRoof$Memory;") (by decide +kernel)) (fun _ h9 => h9) rfl dX3_requireBlock_5 ?_
  refine va_getN (D := g) (host := "BuddyRoof") (ci := 0) (v := .ref h) (C := RX0) (T := TX0) (N := 13) hx hb hts hinX0 hown hK hP 0 rfl rfl 1 (by decide) (hk.2.f (h := "BuddyRoof") (by decide +kernel)) (fun _ h9 => h9) rfl dX3_requireBlock_8 ?_
  refine lv_iload_n hx hb dX3_requireBlock_11 rfl (lv_at hl 1 rfl) ?_
  refine k_goR (W.runV (As := [.int v]) (rest := []) ⟨hx, hb, hml, hown, hts⟩ (c_X2_liveAt l g cI cJ cZ h q1 q2 q3 q4 q5 q6 q7 n pa ch kd ad ra su un mk sv v hn31 (by omega) a2 a6) (cwV 1 hts gX3_requireBlock_X2_liveAt rfl rfl rfl (by decide +kernel) ⟨Nat.le_of_ble_eq_true rfl, Nat.le_of_ble_eq_true rfl⟩) (k_preRV hk hP [1, 2, 3, 4, 5, 6, 7, 8] rfl (ci := 2) (q0 := 0) rfl rfl) rfl rfl hl.1 rfl (lv_room (Nat.le_of_ble_eq_true rfl)) dX3_requireBlock_12 ⟨by first | exact Nat.zero_le _ | omega, by first | exact Nat.zero_le _ | omega⟩) ?_
  refine n_top _ (nI (nz nu (blk (adr top S L R) rq (lvs sp 1) v))) (by exact blk_cls hR hI v) ?_
  refine lv_istore_n (lv' := [(2, .int (nI (nz nu (blk (adr top S L R) rq (lvs sp 1) v)))), (0, .ref x), (1, .int v)]) hx hb dX3_requireBlock_15 rfl hl (by decide) rfl (fun ls hl => ?_)
  refine lv_iload_n hx hb dX3_requireBlock_16 rfl (lv_at hl 0 rfl) ?_
  refine n_if_ne (tgt := 30) hx hb dX3_requireBlock_17 (by decide) (by rw [nz_s hb0]; omega) (fun c1 => ?_) (fun c1 => ?_)
  · skip
    rw [nz_s hb0] at hl
    refine lv_iload_n hx hb dX3_requireBlock_30 rfl (lv_at hl 0 rfl) ?_
    have hP := hP.sub (ws' := [(x, .inr (3, [.ref tk, .ref mh, .ref sc, .ref ga, .int (nI 1)])), (mh, .inr (0, [.ref kr, .ref h, .ref kq, .ref fq, .ref bq, .ref gq, .int (nI rcv), .int (nI ncl), .int (nI bl), .int (nI rd), .int (nI hd), .int (nI jn), .int (nI sn)])), (h, .inr (2, [.ref q1, .ref q2, .ref q3, .ref q4, .ref q5, .ref q6, .ref q7, .int (nI mk), .int (nI sv)])), (q1, .inl (cI, n, .inl (fun j => nI (pa j)))), (q2, .inl (cI, n, .inl (fun j => nI (ch j)))), (q3, .inl (cI, n, .inl (fun j => nI (kd j)))), (q4, .inl (cI, n, .inl (fun j => nI (ad j)))), (q5, .inl (cI, n, .inl (fun j => nI (ra j)))), (q6, .inl (cI, n, .inl (fun j => nI (su j)))), (q7, .inl (cI, n, .inl (fun j => nI (un j))))]) [9, 0, 1, 2, 3, 4, 5, 6, 7, 8] rfl
    have hD := hD.sub (ws' := [(x, .inr (3, [.ref tk, .ref mh, .ref sc, .ref ga, .int (nI 1)])), (mh, .inr (0, [.ref kr, .ref h, .ref kq, .ref fq, .ref bq, .ref gq, .int (nI rcv), .int (nI ncl), .int (nI bl), .int (nI rd), .int (nI hd), .int (nI jn), .int (nI sn)])), (h, .inr (2, [.ref q1, .ref q2, .ref q3, .ref q4, .ref q5, .ref q6, .ref q7, .int (nI mk), .int (nI sv)])), (q1, .inl (cI, n, .inl (fun j => nI (pa j)))), (q2, .inl (cI, n, .inl (fun j => nI (ch j)))), (q3, .inl (cI, n, .inl (fun j => nI (kd j)))), (q4, .inl (cI, n, .inl (fun j => nI (ad j)))), (q5, .inl (cI, n, .inl (fun j => nI (ra j)))), (q6, .inl (cI, n, .inl (fun j => nI (su j)))), (q7, .inl (cI, n, .inl (fun j => nI (un j))))]) [9, 0, 1, 2, 3, 4, 5, 6, 7, 8] rfl rfl
    refine W.widen (k := 0) (n := 0) (by first | exact Nat.le_refl _ | omega) (by first | exact Nat.le_refl _ | omega) ?_
    exact k_retI (sz := 0) (v := nI (nu (blk (adr top S L R) rq (lvs sp 1) v))) hx hb hr hlocks hAe hS hP hD () (rfl) (rfl) dX3_requireBlock_31
  · exact (by rw [nz_s hb0] at c1; omega)
set_option maxHeartbeats 4000000 in
set_option maxRecDepth 100000 in
theorem c_X3_requireBlock_tM (l : Launch) (g : va_G) (cI cJ cZ : ClassId) (hst : l.stackTraces = false) (x tk sc ga : Nat) (mh : Nat) (v : Int32)  : kT l g (kty cI cJ cZ) yX3_requireBlock wsX3_requireBlock ({ frames := 7, cells := 1, slots := 6, locals := 110 }) [.ref x, .int v] [(x, .inr (3, [.ref tk, .ref mh, .ref sc, .ref ga, .int (nI 0)]))] [(x, .inr (3, [.ref tk, .ref mh, .ref sc, .ref ga, .int (nI 0)]))] xI := by
  intro sz
  refine vx_ofW (cc := cX3_requireBlock) (maxL := 3) (ret := (some .int)) (by decide) rfl ?_
  intro p e s m args below meth c s₁ B hml htab hv
  obtain ⟨rfl, ⟨hsz, hP, hk, hD0⟩, hxT, hxZ⟩ := hv
  subst hsz
  have hx := B.exec
  have hb := B.bytes
  have hr := B.returns
  have hts := atoms_spec (ws := wsX3_requireBlock) B.pre
  have hown : s.vm.findClass RX3 = some m.cls := findClass_of_methodNamed B.named
  have hlocks := B.notSynchronized
  have hK := hk.1
  obtain ⟨A, hAe⟩ : ∃ A, va_A [(x, .inr (3, [.ref tk, .ref mh, .ref sc, .ref ga, .int (nI 0)]))] s.heap.size = A := ⟨_, rfl⟩
  have hD := hD0.self (sz := s.heap.size)
  rw [hAe] at hD hxZ
  have hA : ∀ q : Nat, s.heap.size ≤ q → A q := fun q h => by rw [← hAe]; exact Or.inr h
  have hS : va_S A s.heap s.heap [] := va_S.rf
  have hl := lv_entry ([.ref x, .int v]) (n := 3) (Nat.le_of_ble_eq_true rfl)
  rw [lg_entry_eq]
  generalize (lg_sl ([.ref x, .int v]) ++ List.replicate (3 - (lg_sl ([.ref x, .int v])).length) Slot.unset).toArray = ls at hl ⊢
  have hl : lv_has ls 3 [(0, .ref x), (1, .int v)] := hl
  refine lv_aload_n hx hb dX3_requireBlock_0 rfl (lv_at hl 0 rfl) ?_
  refine k_goT (wr := []) (vx_runV (As := []) (rest := []) ⟨hx, hb, hml, hown, hts⟩ (c_X3_requireMemory_t l g cI cJ cZ hst x tk sc ga mh   _) (cwV 0 hts gX3_requireBlock_X3_requireMemory rfl rfl rfl (by decide +kernel) ⟨Nat.le_of_ble_eq_true rfl, Nat.le_of_ble_eq_true rfl⟩) (k_preVx hk hxT (hxZ.kept (fun a h1 h2 => hS.2.1 a h1 h2)) hP hD hS hA [0] rfl rfl (ci := 3) (q0 := 0) rfl rfl) rfl rfl hl.1 rfl (lv_room (Nat.le_of_ble_eq_true rfl)) dX3_requireBlock_1 ⟨Nat.le_of_ble_eq_true rfl, Nat.le_of_ble_eq_true rfl⟩) hP hD hS hA [0] [] rfl rfl rfl (by decide) (fun ce q9 H locs hP hD hS hkp hce hcv hcl => ?_)
  have hP : va_P g vwCl [(x, .inr (3, [.ref tk, .ref mh, .ref sc, .ref ga, .int (nI 0)]))] H := hP
  have hD : va_D A [(x, .inr (3, [.ref tk, .ref mh, .ref sc, .ref ga, .int (nI 0)]))] := hD
  exact k_out htab hlocks hce hcv hcl (hP.sub [0] rfl) (hD.sub [0] rfl rfl) hAe hS (Nat.le_refl _) (Nat.le_refl _)
set_option maxHeartbeats 4000000 in
set_option maxRecDepth 100000 in
theorem c_X3_requireBlock_tA (l : Launch) (g : va_G) (cI cJ cZ : ClassId) (hst : l.stackTraces = false) (x tk sc ga : Nat) (mh kr kq fq bq gq : Nat) (rcv ncl bl rd hd jn sn : Nat) (fo : Nat → Nat) (h q1 q2 q3 q4 q5 q6 q7 n : Nat) (pa ch kd ad ra su un : Nat → Nat) (mk sv : Nat) (top : Nat) (S L R : Nat → Nat) (rc : Nat → Bool) (sp : Nat → Bool) (rq nu : Nat → Nat) (v : Int32) (hn : n < 2 ^ 25) (hR : RuleOK S L R rc top) (hI : wI top S L R sp rq nu ([]) n mk sv pa ch kd ad ra su un fo bl rd hd) (hb0 : blk (adr top S L R) rq (lvs sp 1) v = 0) : kT l g (kty cI cJ cZ) yX3_requireBlock wsX3_requireBlock ({ frames := 6, cells := 1, slots := 6, locals := 90 }) [.ref x, .int v] [(x, .inr (3, [.ref tk, .ref mh, .ref sc, .ref ga, .int (nI 1)])), (mh, .inr (0, [.ref kr, .ref h, .ref kq, .ref fq, .ref bq, .ref gq, .int (nI rcv), .int (nI ncl), .int (nI bl), .int (nI rd), .int (nI hd), .int (nI jn), .int (nI sn)])), (h, .inr (2, [.ref q1, .ref q2, .ref q3, .ref q4, .ref q5, .ref q6, .ref q7, .int (nI mk), .int (nI sv)])), (q1, .inl (cI, n, .inl (fun j => nI (pa j)))), (q2, .inl (cI, n, .inl (fun j => nI (ch j)))), (q3, .inl (cI, n, .inl (fun j => nI (kd j)))), (q4, .inl (cI, n, .inl (fun j => nI (ad j)))), (q5, .inl (cI, n, .inl (fun j => nI (ra j)))), (q6, .inl (cI, n, .inl (fun j => nI (su j)))), (q7, .inl (cI, n, .inl (fun j => nI (un j))))] [(x, .inr (3, [.ref tk, .ref mh, .ref sc, .ref ga, .int (nI 1)])), (mh, .inr (0, [.ref kr, .ref h, .ref kq, .ref fq, .ref bq, .ref gq, .int (nI rcv), .int (nI ncl), .int (nI bl), .int (nI rd), .int (nI hd), .int (nI jn), .int (nI sn)])), (h, .inr (2, [.ref q1, .ref q2, .ref q3, .ref q4, .ref q5, .ref q6, .ref q7, .int (nI mk), .int (nI sv)])), (q1, .inl (cI, n, .inl (fun j => nI (pa j)))), (q2, .inl (cI, n, .inl (fun j => nI (ch j)))), (q3, .inl (cI, n, .inl (fun j => nI (kd j)))), (q4, .inl (cI, n, .inl (fun j => nI (ad j)))), (q5, .inl (cI, n, .inl (fun j => nI (ra j)))), (q6, .inl (cI, n, .inl (fun j => nI (su j)))), (q7, .inl (cI, n, .inl (fun j => nI (un j))))] xA := by
  intro sz
  refine vx_ofW (cc := cX3_requireBlock) (maxL := 3) (ret := (some .int)) (by decide) rfl ?_
  intro p e s m args below meth c s₁ B hml htab hv
  obtain ⟨rfl, ⟨hsz, hP, hk, hD0⟩, hxT, hxZ⟩ := hv
  subst hsz
  have hx := B.exec
  have hb := B.bytes
  have hr := B.returns
  have hts := atoms_spec (ws := wsX3_requireBlock) B.pre
  have hown : s.vm.findClass RX3 = some m.cls := findClass_of_methodNamed B.named
  have hlocks := B.notSynchronized
  have hK := hk.1
  have hinX0 : ∀ w ∈ wsX00, w ∈ wsX3_requireBlock := by decide +kernel
  have hinX3 : ∀ w ∈ wsX30, w ∈ wsX3_requireBlock := by decide +kernel
  obtain ⟨A, hAe⟩ : ∃ A, va_A [(x, .inr (3, [.ref tk, .ref mh, .ref sc, .ref ga, .int (nI 1)])), (mh, .inr (0, [.ref kr, .ref h, .ref kq, .ref fq, .ref bq, .ref gq, .int (nI rcv), .int (nI ncl), .int (nI bl), .int (nI rd), .int (nI hd), .int (nI jn), .int (nI sn)])), (h, .inr (2, [.ref q1, .ref q2, .ref q3, .ref q4, .ref q5, .ref q6, .ref q7, .int (nI mk), .int (nI sv)])), (q1, .inl (cI, n, .inl (fun j => nI (pa j)))), (q2, .inl (cI, n, .inl (fun j => nI (ch j)))), (q3, .inl (cI, n, .inl (fun j => nI (kd j)))), (q4, .inl (cI, n, .inl (fun j => nI (ad j)))), (q5, .inl (cI, n, .inl (fun j => nI (ra j)))), (q6, .inl (cI, n, .inl (fun j => nI (su j)))), (q7, .inl (cI, n, .inl (fun j => nI (un j))))] s.heap.size = A := ⟨_, rfl⟩
  have hD := hD0.self (sz := s.heap.size)
  rw [hAe] at hD hxZ
  have hA : ∀ q : Nat, s.heap.size ≤ q → A q := fun q h => by rw [← hAe]; exact Or.inr h
  have hS : va_S A s.heap s.heap [] := va_S.rf
  have hl := lv_entry ([.ref x, .int v]) (n := 3) (Nat.le_of_ble_eq_true rfl)
  rw [lg_entry_eq]
  generalize (lg_sl ([.ref x, .int v]) ++ List.replicate (3 - (lg_sl ([.ref x, .int v])).length) Slot.unset).toArray = ls at hl ⊢
  have hl : lv_has ls 3 [(0, .ref x), (1, .int v)] := hl
  obtain ⟨a1, a2, a3, a4, a5, a6, a7, a8, -⟩ := hI.1.2.2.2.2.1
  have hn31 : n < 2 ^ 31 := by omega
  have hml9 := mk_len hI
  refine lv_aload_n hx hb dX3_requireBlock_0 rfl (lv_at hl 0 rfl) ?_
  refine k_goV (wr := [(mh, .inr (0, [.ref kr, .ref h, .ref kq, .ref fq, .ref bq, .ref gq, .int (nI rcv), .int (nI ncl), .int (nI bl), .int (nI rd), .int (nI hd), .int (nI jn), .int (nI sn)])), (h, .inr (2, [.ref q1, .ref q2, .ref q3, .ref q4, .ref q5, .ref q6, .ref q7, .int (nI mk), .int (nI sv)])), (q1, .inl (cI, n, .inl (fun j => nI (pa j)))), (q2, .inl (cI, n, .inl (fun j => nI (ch j)))), (q3, .inl (cI, n, .inl (fun j => nI (kd j)))), (q4, .inl (cI, n, .inl (fun j => nI (ad j)))), (q5, .inl (cI, n, .inl (fun j => nI (ra j)))), (q6, .inl (cI, n, .inl (fun j => nI (su j)))), (q7, .inl (cI, n, .inl (fun j => nI (un j))))]) (va_runV (As := []) (rest := []) ⟨hx, hb, hml, hown, hts⟩ (c_X3_requireMemory l g cI cJ cZ x tk sc ga mh   _) (cwV 0 hts gX3_requireBlock_X3_requireMemory rfl rfl rfl (by decide +kernel) ⟨Nat.le_of_ble_eq_true rfl, Nat.le_of_ble_eq_true rfl⟩) (k_preV hk hP hD [0] rfl rfl (ci := 3) (q0 := 0) rfl rfl) rfl rfl hl.1 rfl (lv_room (Nat.le_of_ble_eq_true rfl)) dX3_requireBlock_1 ⟨by first | exact Nat.zero_le _ | omega, by first | exact Nat.zero_le _ | omega⟩) hP hD hS hA [0] [1, 2, 3, 4, 5, 6, 7, 8, 9] rfl rfl rfl (by decide) (fun _ H locs hu hP hD hS => ?_)
  have hP : va_P g vwCl [(mh, .inr (0, [.ref kr, .ref h, .ref kq, .ref fq, .ref bq, .ref gq, .int (nI rcv), .int (nI ncl), .int (nI bl), .int (nI rd), .int (nI hd), .int (nI jn), .int (nI sn)])), (h, .inr (2, [.ref q1, .ref q2, .ref q3, .ref q4, .ref q5, .ref q6, .ref q7, .int (nI mk), .int (nI sv)])), (q1, .inl (cI, n, .inl (fun j => nI (pa j)))), (q2, .inl (cI, n, .inl (fun j => nI (ch j)))), (q3, .inl (cI, n, .inl (fun j => nI (kd j)))), (q4, .inl (cI, n, .inl (fun j => nI (ad j)))), (q5, .inl (cI, n, .inl (fun j => nI (ra j)))), (q6, .inl (cI, n, .inl (fun j => nI (su j)))), (q7, .inl (cI, n, .inl (fun j => nI (un j)))), (x, .inr (3, [.ref tk, .ref mh, .ref sc, .ref ga, .int (nI 1)]))] H := hP
  have hD : va_D A [(mh, .inr (0, [.ref kr, .ref h, .ref kq, .ref fq, .ref bq, .ref gq, .int (nI rcv), .int (nI ncl), .int (nI bl), .int (nI rd), .int (nI hd), .int (nI jn), .int (nI sn)])), (h, .inr (2, [.ref q1, .ref q2, .ref q3, .ref q4, .ref q5, .ref q6, .ref q7, .int (nI mk), .int (nI sv)])), (q1, .inl (cI, n, .inl (fun j => nI (pa j)))), (q2, .inl (cI, n, .inl (fun j => nI (ch j)))), (q3, .inl (cI, n, .inl (fun j => nI (kd j)))), (q4, .inl (cI, n, .inl (fun j => nI (ad j)))), (q5, .inl (cI, n, .inl (fun j => nI (ra j)))), (q6, .inl (cI, n, .inl (fun j => nI (su j)))), (q7, .inl (cI, n, .inl (fun j => nI (un j)))), (x, .inr (3, [.ref tk, .ref mh, .ref sc, .ref ga, .int (nI 1)]))] := hD
  refine lv_aload_n hx hb dX3_requireBlock_4 rfl (lv_at hl 0 rfl) ?_
  refine va_get (D := g) (ci := 3) (v := .ref mh) (C := RX3) (T := TX3) (N := 5) hx hb hts hinX3 hown hK hP 9 rfl rfl 1 (by decide) (hts (.fieldLink RX3 19 "BuddyRoof" "memory" "LBuddyRoof$Memory;") (by decide +kernel)) (fun _ h9 => h9) rfl dX3_requireBlock_5 ?_
  refine va_getN (D := g) (host := "BuddyRoof") (ci := 0) (v := .ref h) (C := RX0) (T := TX0) (N := 13) hx hb hts hinX0 hown hK hP 0 rfl rfl 1 (by decide) (hk.2.f (h := "BuddyRoof") (by decide +kernel)) (fun _ h9 => h9) rfl dX3_requireBlock_8 ?_
  refine lv_iload_n hx hb dX3_requireBlock_11 rfl (lv_at hl 1 rfl) ?_
  refine k_goR (W.runV (As := [.int v]) (rest := []) ⟨hx, hb, hml, hown, hts⟩ (c_X2_liveAt l g cI cJ cZ h q1 q2 q3 q4 q5 q6 q7 n pa ch kd ad ra su un mk sv v hn31 (by omega) a2 a6) (cwV 1 hts gX3_requireBlock_X2_liveAt rfl rfl rfl (by decide +kernel) ⟨Nat.le_of_ble_eq_true rfl, Nat.le_of_ble_eq_true rfl⟩) (k_preRV hk hP [1, 2, 3, 4, 5, 6, 7, 8] rfl (ci := 2) (q0 := 0) rfl rfl) rfl rfl hl.1 rfl (lv_room (Nat.le_of_ble_eq_true rfl)) dX3_requireBlock_12 ⟨by first | exact Nat.zero_le _ | omega, by first | exact Nat.zero_le _ | omega⟩) ?_
  refine n_top _ (nI (nz nu (blk (adr top S L R) rq (lvs sp 1) v))) (by exact blk_cls hR hI v) ?_
  refine lv_istore_n (lv' := [(2, .int (nI (nz nu (blk (adr top S L R) rq (lvs sp 1) v)))), (0, .ref x), (1, .int v)]) hx hb dX3_requireBlock_15 rfl hl (by decide) rfl (fun ls hl => ?_)
  refine lv_iload_n hx hb dX3_requireBlock_16 rfl (lv_at hl 0 rfl) ?_
  refine n_if_ne (tgt := 30) hx hb dX3_requireBlock_17 (by decide) (by rw [hb0]; exact (show 0 < 2 ^ 31 by decide)) (fun c1 => ?_) (fun c1 => ?_)
  · exact (by rw [hb0] at c1; exact absurd (show 0 < 0 from c1) (by decide))
  · skip
    exact k_throw (E := xA) (text := "no block begins there") hx hb hst hown (by decide +kernel) (hts (.classLink RX3 42 "java/lang/IllegalArgumentException") (by decide +kernel)) (hts (.initialized "java/lang/IllegalArgumentException") (by decide +kernel)) hxT (by decide +kernel) (fun w hw => hts w (List.mem_cons_of_mem _ (List.mem_append_left _ (List.mem_append_right _ hw)))) (by decide +kernel) (by decide +kernel) hxZ hAe hS (hl.1.trans hml.symm) dX3_requireBlock_20 dX3_requireBlock_23 dX3_requireBlock_24 dX3_requireBlock_26 dX3_requireBlock_29 htab (Nat.le_of_ble_eq_true rfl) (Nat.le_of_ble_eq_true rfl) (Nat.le_of_ble_eq_true rfl) (Nat.le_of_ble_eq_true rfl) hlocks (hP.sub [9, 0, 1, 2, 3, 4, 5, 6, 7, 8] rfl) (hD.sub [9, 0, 1, 2, 3, 4, 5, 6, 7, 8] rfl rfl) (Nat.le_refl _) (Nat.le_refl _)
set_option maxHeartbeats 4000000 in
set_option maxRecDepth 100000 in
theorem c_X3_requireReached (l : Launch) (g : va_G) (cI cJ cZ : ClassId) (x tk sc ga : Nat) (mh kr kq fq bq gq : Nat) (rcv ncl bl rd hd jn sn : Nat) (fo : Nat → Nat) (h : Nat) (i : Nat) (hrv : rcv < 2 ^ 31) (hi : 1 ≤ i ∧ i ≤ 24) (hrc : rcv / 2 ^ i &&& 1 = 1) : kV l g (kty cI cJ cZ) yX3_requireReached wsX3_requireReached ({ frames := 1, cells := 0, slots := 0, locals := 21 }) [.ref x, .int (nI i)] [(x, .inr (3, [.ref tk, .ref mh, .ref sc, .ref ga, .int (nI 1)])), (mh, .inr (0, [.ref kr, .ref h, .ref kq, .ref fq, .ref bq, .ref gq, .int (nI rcv), .int (nI ncl), .int (nI bl), .int (nI rd), .int (nI hd), .int (nI jn), .int (nI sn)]))] (S := Unit) (fun _ => True) (fun u => [(x, .inr (3, [.ref tk, .ref mh, .ref sc, .ref ga, .int (nI 1)])), (mh, .inr (0, [.ref kr, .ref h, .ref kq, .ref fq, .ref bq, .ref gq, .int (nI rcv), .int (nI ncl), .int (nI bl), .int (nI rd), .int (nI hd), .int (nI jn), .int (nI sn)]))]) 0 0 := by
  intro sz
  refine Met.ofW (cc := cX3_requireReached) (maxL := 2) (ret := none) (by decide) rfl ?_
  intro p e s m args below meth c s₁ B hml hv
  obtain ⟨rfl, hsz, hP, hk, hD0⟩ := hv
  subst hsz
  have hx := B.exec
  have hb := B.bytes
  have hr := B.returns
  have hts := atoms_spec (ws := wsX3_requireReached) B.pre
  have hown : s.vm.findClass RX3 = some m.cls := findClass_of_methodNamed B.named
  have hlocks := B.notSynchronized
  have hK := hk.1
  have hinX3 : ∀ w ∈ wsX30, w ∈ wsX3_requireReached := by decide +kernel
  obtain ⟨A, hAe⟩ : ∃ A, va_A [(x, .inr (3, [.ref tk, .ref mh, .ref sc, .ref ga, .int (nI 1)])), (mh, .inr (0, [.ref kr, .ref h, .ref kq, .ref fq, .ref bq, .ref gq, .int (nI rcv), .int (nI ncl), .int (nI bl), .int (nI rd), .int (nI hd), .int (nI jn), .int (nI sn)]))] s.heap.size = A := ⟨_, rfl⟩
  have hD := hD0.self (sz := s.heap.size)
  rw [hAe] at hD
  have hA : ∀ q : Nat, s.heap.size ≤ q → A q := fun q h => by rw [← hAe]; exact Or.inr h
  have hS : va_S A s.heap s.heap [] := va_S.rf
  have hl := lv_entry ([.ref x, .int (nI i)]) (n := 2) (Nat.le_of_ble_eq_true rfl)
  rw [lg_entry_eq]
  generalize (lg_sl ([.ref x, .int (nI i)]) ++ List.replicate (2 - (lg_sl ([.ref x, .int (nI i)])).length) Slot.unset).toArray = ls at hl ⊢
  have hl : lv_has ls 2 [(0, .ref x), (1, .int (nI i))] := hl
  refine lv_iload_n hx hb dX3_requireReached_0 rfl (lv_at hl 1 rfl) ?_
  refine k_goR (W.runS (As := [.int (nI i)]) (rest := []) ⟨hx, hb, hml, hown, hts⟩ (c_X3_isClass l g cI cJ cZ  (nI i) ) (va_cwS 1 hts gX3_requireReached_X3_isClass rfl rfl rfl (by decide +kernel) ⟨Nat.le_of_ble_eq_true rfl, Nat.le_of_ble_eq_true rfl⟩) (k_preRS hk hP [] rfl) rfl rfl hl.1 rfl (lv_room (Nat.le_of_ble_eq_true rfl)) dX3_requireReached_1 ⟨by first | exact Nat.zero_le _ | omega, by first | exact Nat.zero_le _ | omega⟩) ?_
  refine k_ifeq (tgt := 18) hx hb dX3_requireReached_4 (by decide) (fun c1 => ?_) (fun c1 => ?_)
  · exact (by exact absurd ⟨nI_le hi.1 (by omega), nI_le hi.2 (by decide)⟩ c1)
  · skip
    refine lv_aload_n hx hb dX3_requireReached_7 rfl (lv_at hl 0 rfl) ?_
    refine va_get (D := g) (ci := 3) (v := .ref mh) (C := RX3) (T := TX3) (N := 5) hx hb hts hinX3 hown hK hP 0 rfl rfl 1 (by decide) (hts (.fieldLink RX3 19 "BuddyRoof" "memory" "LBuddyRoof$Memory;") (by decide +kernel)) (fun _ h9 => h9) rfl dX3_requireReached_8 ?_
    refine lv_iload_n hx hb dX3_requireReached_11 rfl (lv_at hl 1 rfl) ?_
    refine k_goR (W.runV (As := [.int (nI i)]) (rest := []) ⟨hx, hb, hml, hown, hts⟩ (c_X0_reaches l g cI cJ cZ mh kr kq fq bq gq rcv ncl bl rd hd jn sn fo h i hrv (by omega)) (cwV 1 hts gX3_requireReached_X0_reaches rfl rfl rfl (by decide +kernel) ⟨Nat.le_of_ble_eq_true rfl, Nat.le_of_ble_eq_true rfl⟩) (k_preRV hk hP [1] rfl (ci := 0) (q0 := 0) rfl rfl) rfl rfl hl.1 rfl (lv_room (Nat.le_of_ble_eq_true rfl)) dX3_requireReached_12 ⟨by first | exact Nat.zero_le _ | omega, by first | exact Nat.zero_le _ | omega⟩) ?_
    refine k_ifne (tgt := 28) hx hb dX3_requireReached_15 (by decide) (fun c2 => ?_) (fun c2 => ?_)
    · skip
      refine W.widen (k := 0) (n := 0) (by first | exact Nat.le_refl _ | omega) (by first | exact Nat.le_refl _ | omega) ?_
      exact k_retV (sz := 0) hx hb hr hlocks hAe hS hP hD () (rfl) (trivial) dX3_requireReached_28
    · exact (by exact absurd hrc c2)
set_option maxHeartbeats 4000000 in
set_option maxRecDepth 100000 in
theorem c_X3_requireReached_t (l : Launch) (g : va_G) (cI cJ cZ : ClassId) (hst : l.stackTraces = false) (x tk sc ga : Nat) (mh kr kq fq bq gq : Nat) (rcv ncl bl rd hd jn sn : Nat) (fo : Nat → Nat) (h : Nat) (v : Int32) (hrv : rcv < 2 ^ 31) (hv : ∀ i, 1 ≤ i → i ≤ 24 → v = nI i → ¬ rcv / 2 ^ i &&& 1 = 1) : kT l g (kty cI cJ cZ) yX3_requireReached wsX3_requireReached ({ frames := 6, cells := 1, slots := 6, locals := 90 }) [.ref x, .int v] [(x, .inr (3, [.ref tk, .ref mh, .ref sc, .ref ga, .int (nI 1)])), (mh, .inr (0, [.ref kr, .ref h, .ref kq, .ref fq, .ref bq, .ref gq, .int (nI rcv), .int (nI ncl), .int (nI bl), .int (nI rd), .int (nI hd), .int (nI jn), .int (nI sn)]))] [(x, .inr (3, [.ref tk, .ref mh, .ref sc, .ref ga, .int (nI 1)])), (mh, .inr (0, [.ref kr, .ref h, .ref kq, .ref fq, .ref bq, .ref gq, .int (nI rcv), .int (nI ncl), .int (nI bl), .int (nI rd), .int (nI hd), .int (nI jn), .int (nI sn)]))] xA := by
  intro sz
  refine vx_ofW (cc := cX3_requireReached) (maxL := 2) (ret := none) (by decide) rfl ?_
  intro p e s m args below meth c s₁ B hml htab hv
  obtain ⟨rfl, ⟨hsz, hP, hk, hD0⟩, hxT, hxZ⟩ := hv
  subst hsz
  have hx := B.exec
  have hb := B.bytes
  have hr := B.returns
  have hts := atoms_spec (ws := wsX3_requireReached) B.pre
  have hown : s.vm.findClass RX3 = some m.cls := findClass_of_methodNamed B.named
  have hlocks := B.notSynchronized
  have hK := hk.1
  have hinX3 : ∀ w ∈ wsX30, w ∈ wsX3_requireReached := by decide +kernel
  obtain ⟨A, hAe⟩ : ∃ A, va_A [(x, .inr (3, [.ref tk, .ref mh, .ref sc, .ref ga, .int (nI 1)])), (mh, .inr (0, [.ref kr, .ref h, .ref kq, .ref fq, .ref bq, .ref gq, .int (nI rcv), .int (nI ncl), .int (nI bl), .int (nI rd), .int (nI hd), .int (nI jn), .int (nI sn)]))] s.heap.size = A := ⟨_, rfl⟩
  have hD := hD0.self (sz := s.heap.size)
  rw [hAe] at hD hxZ
  have hA : ∀ q : Nat, s.heap.size ≤ q → A q := fun q h => by rw [← hAe]; exact Or.inr h
  have hS : va_S A s.heap s.heap [] := va_S.rf
  have hl := lv_entry ([.ref x, .int v]) (n := 2) (Nat.le_of_ble_eq_true rfl)
  rw [lg_entry_eq]
  generalize (lg_sl ([.ref x, .int v]) ++ List.replicate (2 - (lg_sl ([.ref x, .int v])).length) Slot.unset).toArray = ls at hl ⊢
  have hl : lv_has ls 2 [(0, .ref x), (1, .int v)] := hl
  refine lv_iload_n hx hb dX3_requireReached_0 rfl (lv_at hl 1 rfl) ?_
  refine k_goR (W.runS (As := [.int v]) (rest := []) ⟨hx, hb, hml, hown, hts⟩ (c_X3_isClass l g cI cJ cZ  v ) (va_cwS 1 hts gX3_requireReached_X3_isClass rfl rfl rfl (by decide +kernel) ⟨Nat.le_of_ble_eq_true rfl, Nat.le_of_ble_eq_true rfl⟩) (k_preRS hk hP [] rfl) rfl rfl hl.1 rfl (lv_room (Nat.le_of_ble_eq_true rfl)) dX3_requireReached_1 ⟨by first | exact Nat.zero_le _ | omega, by first | exact Nat.zero_le _ | omega⟩) ?_
  refine k_ifeq (tgt := 18) hx hb dX3_requireReached_4 (by decide) (fun c1 => ?_) (fun c1 => ?_)
  · skip
    exact k_throw (E := xA) (text := "the class isn\'t reached") hx hb hst hown (by decide +kernel) (hts (.classLink RX3 42 "java/lang/IllegalArgumentException") (by decide +kernel)) (hts (.initialized "java/lang/IllegalArgumentException") (by decide +kernel)) hxT (by decide +kernel) (fun w hw => hts w (List.mem_cons_of_mem _ (List.mem_append_right _ hw))) (by decide +kernel) (by decide +kernel) hxZ hAe hS (hl.1.trans hml.symm) dX3_requireReached_18 dX3_requireReached_21 dX3_requireReached_22 dX3_requireReached_24 dX3_requireReached_27 htab (Nat.le_of_ble_eq_true rfl) (Nat.le_of_ble_eq_true rfl) (Nat.le_of_ble_eq_true rfl) (Nat.le_of_ble_eq_true rfl) hlocks (hP.sub [0, 1] rfl) (hD.sub [0, 1] rfl rfl) (Nat.le_refl _) (Nat.le_refl _)
  · skip
    obtain ⟨ii, i1, i2, i3, -⟩ := cls_of c1
    rw [i3] at hl
    refine lv_aload_n hx hb dX3_requireReached_7 rfl (lv_at hl 0 rfl) ?_
    refine va_get (D := g) (ci := 3) (v := .ref mh) (C := RX3) (T := TX3) (N := 5) hx hb hts hinX3 hown hK hP 0 rfl rfl 1 (by decide) (hts (.fieldLink RX3 19 "BuddyRoof" "memory" "LBuddyRoof$Memory;") (by decide +kernel)) (fun _ h9 => h9) rfl dX3_requireReached_8 ?_
    refine lv_iload_n hx hb dX3_requireReached_11 rfl (lv_at hl 1 rfl) ?_
    refine k_goR (W.runV (As := [.int (nI ii)]) (rest := []) ⟨hx, hb, hml, hown, hts⟩ (c_X0_reaches l g cI cJ cZ mh kr kq fq bq gq rcv ncl bl rd hd jn sn fo h ii hrv (by omega)) (cwV 1 hts gX3_requireReached_X0_reaches rfl rfl rfl (by decide +kernel) ⟨Nat.le_of_ble_eq_true rfl, Nat.le_of_ble_eq_true rfl⟩) (k_preRV hk hP [1] rfl (ci := 0) (q0 := 0) rfl rfl) rfl rfl hl.1 rfl (lv_room (Nat.le_of_ble_eq_true rfl)) dX3_requireReached_12 ⟨by first | exact Nat.zero_le _ | omega, by first | exact Nat.zero_le _ | omega⟩) ?_
    refine k_ifne (tgt := 28) hx hb dX3_requireReached_15 (by decide) (fun c2 => ?_) (fun c2 => ?_)
    · exact (by exact absurd c2 (hv ii i1 i2 i3))
    · skip
      exact k_throw (E := xA) (text := "the class isn\'t reached") hx hb hst hown (by decide +kernel) (hts (.classLink RX3 42 "java/lang/IllegalArgumentException") (by decide +kernel)) (hts (.initialized "java/lang/IllegalArgumentException") (by decide +kernel)) hxT (by decide +kernel) (fun w hw => hts w (List.mem_cons_of_mem _ (List.mem_append_right _ hw))) (by decide +kernel) (by decide +kernel) hxZ hAe hS (hl.1.trans hml.symm) dX3_requireReached_18 dX3_requireReached_21 dX3_requireReached_22 dX3_requireReached_24 dX3_requireReached_27 htab (Nat.le_of_ble_eq_true rfl) (Nat.le_of_ble_eq_true rfl) (Nat.le_of_ble_eq_true rfl) (Nat.le_of_ble_eq_true rfl) hlocks (hP.sub [0, 1] rfl) (hD.sub [0, 1] rfl rfl) (Nat.le_refl _) (Nat.le_refl _)
