set_option maxHeartbeats 4000000 in
set_option maxRecDepth 100000 in
theorem c_X3_join (l : Launch) (g : va_G) (cI cJ cZ : ClassId) (x tk sc ga : Nat) (mh kr kq fq bq gq : Nat) (rcv ncl bl rd hd jn sn : Nat) (fo : Nat → Nat) (h q1 q2 q3 q4 q5 q6 q7 n : Nat) (pa ch kd ad ra su un : Nat → Nat) (mk sv : Nat) (top : Nat) (S L R : Nat → Nat) (rc : Nat → Bool) (sp : Nat → Bool) (rq nu : Nat → Nat) (hn : n < 2 ^ 25) (hR : RuleOK S L R rc top) (hI : wI top S L R sp rq nu ([]) n mk sv pa ch kd ad ra su un fo bl rd hd) : kI l g (kty cI cJ cZ) yX3_join wsX3_join ({ frames := 4, cells := 0, slots := 0, locals := 90 }) [.ref x] [(x, .inr (3, [.ref tk, .ref mh, .ref sc, .ref ga, .int (nI 1)])), (mh, .inr (0, [.ref kr, .ref h, .ref kq, .ref fq, .ref bq, .ref gq, .int (nI rcv), .int (nI ncl), .int (nI bl), .int (nI rd), .int (nI hd), .int (nI jn), .int (nI sn)])), (fq, .inl (cI, 25, .inl (fun j => nI (fo j)))), (h, .inr (2, [.ref q1, .ref q2, .ref q3, .ref q4, .ref q5, .ref q6, .ref q7, .int (nI mk), .int (nI sv)])), (q1, .inl (cI, n, .inl (fun j => nI (pa j)))), (q2, .inl (cI, n, .inl (fun j => nI (ch j)))), (q3, .inl (cI, n, .inl (fun j => nI (kd j)))), (q4, .inl (cI, n, .inl (fun j => nI (ad j)))), (q5, .inl (cI, n, .inl (fun j => nI (ra j)))), (q6, .inl (cI, n, .inl (fun j => nI (su j)))), (q7, .inl (cI, n, .inl (fun j => nI (un j))))] (S := (Nat → Nat) × (Nat → Nat) × (Nat → Nat) × (Nat → Nat) × (Nat → Nat) × (Nat → Nat) × Nat) (fun r u => r = nI ((lvs sp 1).length - (lvs (jal sp rq) 1).length) ∧ wI top S L R (jal sp rq) rq nu ([]) n mk (u.2.2.2.2.2.2) (u.1) (u.2.1) kd ad (u.2.2.1) (u.2.2.2.1) (u.2.2.2.2.1) (u.2.2.2.2.2.1) bl rd hd) (fun u => [(x, .inr (3, [.ref tk, .ref mh, .ref sc, .ref ga, .int (nI 1)])), (mh, .inr (0, [.ref kr, .ref h, .ref kq, .ref fq, .ref bq, .ref gq, .int (nI rcv), .int (nI ncl), .int (nI bl), .int (nI rd), .int (nI hd), .int (nI (jn + ((lvs sp 1).length - (lvs (jal sp rq) 1).length))), .int (nI sn)])), (fq, .inl (cI, 25, .inl (fun j => nI (u.2.2.2.2.2.1 j)))), (h, .inr (2, [.ref q1, .ref q2, .ref q3, .ref q4, .ref q5, .ref q6, .ref q7, .int (nI mk), .int (nI (u.2.2.2.2.2.2))])), (q1, .inl (cI, n, .inl (fun j => nI (u.1 j)))), (q2, .inl (cI, n, .inl (fun j => nI (u.2.1 j)))), (q3, .inl (cI, n, .inl (fun j => nI (kd j)))), (q4, .inl (cI, n, .inl (fun j => nI (ad j)))), (q5, .inl (cI, n, .inl (fun j => nI (u.2.2.1 j)))), (q6, .inl (cI, n, .inl (fun j => nI (u.2.2.2.1 j)))), (q7, .inl (cI, n, .inl (fun j => nI (u.2.2.2.2.1 j))))]) 0 0 := by
  intro sz
  refine Met.ofW (cc := cX3_join) (maxL := 1) (ret := (some .int)) (by decide) rfl ?_
  intro p e s m args below meth c s₁ B hml hv
  obtain ⟨rfl, hsz, hP, hk, hD0⟩ := hv
  subst hsz
  have hx := B.exec
  have hb := B.bytes
  have hr := B.returns
  have hts := atoms_spec (ws := wsX3_join) B.pre
  have hown : s.vm.findClass RX3 = some m.cls := findClass_of_methodNamed B.named
  have hlocks := B.notSynchronized
  have hK := hk.1
  have hinX3 : ∀ w ∈ wsX30, w ∈ wsX3_join := by decide +kernel
  obtain ⟨A, hAe⟩ : ∃ A, va_A [(x, .inr (3, [.ref tk, .ref mh, .ref sc, .ref ga, .int (nI 1)])), (mh, .inr (0, [.ref kr, .ref h, .ref kq, .ref fq, .ref bq, .ref gq, .int (nI rcv), .int (nI ncl), .int (nI bl), .int (nI rd), .int (nI hd), .int (nI jn), .int (nI sn)])), (fq, .inl (cI, 25, .inl (fun j => nI (fo j)))), (h, .inr (2, [.ref q1, .ref q2, .ref q3, .ref q4, .ref q5, .ref q6, .ref q7, .int (nI mk), .int (nI sv)])), (q1, .inl (cI, n, .inl (fun j => nI (pa j)))), (q2, .inl (cI, n, .inl (fun j => nI (ch j)))), (q3, .inl (cI, n, .inl (fun j => nI (kd j)))), (q4, .inl (cI, n, .inl (fun j => nI (ad j)))), (q5, .inl (cI, n, .inl (fun j => nI (ra j)))), (q6, .inl (cI, n, .inl (fun j => nI (su j)))), (q7, .inl (cI, n, .inl (fun j => nI (un j))))] s.heap.size = A := ⟨_, rfl⟩
  have hD := hD0.self (sz := s.heap.size)
  rw [hAe] at hD
  have hA : ∀ q : Nat, s.heap.size ≤ q → A q := fun q h => by rw [← hAe]; exact Or.inr h
  have hS : va_S A s.heap s.heap [] := va_S.rf
  have hl := lv_entry ([.ref x]) (n := 1) (Nat.le_of_ble_eq_true rfl)
  rw [lg_entry_eq]
  generalize (lg_sl ([.ref x]) ++ List.replicate (1 - (lg_sl ([.ref x])).length) Slot.unset).toArray = ls at hl ⊢
  have hl : lv_has ls 1 [(0, .ref x)] := hl
  have hn25 := hn
  refine lv_aload_n hx hb dX3_join_0 rfl (lv_at hl 0 rfl) ?_
  refine k_goV (wr := [(mh, .inr (0, [.ref kr, .ref h, .ref kq, .ref fq, .ref bq, .ref gq, .int (nI rcv), .int (nI ncl), .int (nI bl), .int (nI rd), .int (nI hd), .int (nI jn), .int (nI sn)])), (fq, .inl (cI, 25, .inl (fun j => nI (fo j)))), (h, .inr (2, [.ref q1, .ref q2, .ref q3, .ref q4, .ref q5, .ref q6, .ref q7, .int (nI mk), .int (nI sv)])), (q1, .inl (cI, n, .inl (fun j => nI (pa j)))), (q2, .inl (cI, n, .inl (fun j => nI (ch j)))), (q3, .inl (cI, n, .inl (fun j => nI (kd j)))), (q4, .inl (cI, n, .inl (fun j => nI (ad j)))), (q5, .inl (cI, n, .inl (fun j => nI (ra j)))), (q6, .inl (cI, n, .inl (fun j => nI (su j)))), (q7, .inl (cI, n, .inl (fun j => nI (un j))))]) (va_runV (As := []) (rest := []) ⟨hx, hb, hml, hown, hts⟩ (c_X3_requireMemory l g cI cJ cZ x tk sc ga mh   _) (cwV 0 hts gX3_join_X3_requireMemory rfl rfl rfl (by decide +kernel) ⟨Nat.le_of_ble_eq_true rfl, Nat.le_of_ble_eq_true rfl⟩) (k_preV hk hP hD [0] rfl rfl (ci := 3) (q0 := 0) rfl rfl) rfl rfl hl.1 rfl (lv_room (Nat.le_of_ble_eq_true rfl)) dX3_join_1 ⟨by first | exact Nat.zero_le _ | omega, by first | exact Nat.zero_le _ | omega⟩) hP hD hS hA [0] [1, 2, 3, 4, 5, 6, 7, 8, 9, 10] rfl rfl rfl (by decide) (fun _ H locs hu hP hD hS => ?_)
  have hP : va_P g vwCl [(mh, .inr (0, [.ref kr, .ref h, .ref kq, .ref fq, .ref bq, .ref gq, .int (nI rcv), .int (nI ncl), .int (nI bl), .int (nI rd), .int (nI hd), .int (nI jn), .int (nI sn)])), (fq, .inl (cI, 25, .inl (fun j => nI (fo j)))), (h, .inr (2, [.ref q1, .ref q2, .ref q3, .ref q4, .ref q5, .ref q6, .ref q7, .int (nI mk), .int (nI sv)])), (q1, .inl (cI, n, .inl (fun j => nI (pa j)))), (q2, .inl (cI, n, .inl (fun j => nI (ch j)))), (q3, .inl (cI, n, .inl (fun j => nI (kd j)))), (q4, .inl (cI, n, .inl (fun j => nI (ad j)))), (q5, .inl (cI, n, .inl (fun j => nI (ra j)))), (q6, .inl (cI, n, .inl (fun j => nI (su j)))), (q7, .inl (cI, n, .inl (fun j => nI (un j)))), (x, .inr (3, [.ref tk, .ref mh, .ref sc, .ref ga, .int (nI 1)]))] H := hP
  have hD : va_D A [(mh, .inr (0, [.ref kr, .ref h, .ref kq, .ref fq, .ref bq, .ref gq, .int (nI rcv), .int (nI ncl), .int (nI bl), .int (nI rd), .int (nI hd), .int (nI jn), .int (nI sn)])), (fq, .inl (cI, 25, .inl (fun j => nI (fo j)))), (h, .inr (2, [.ref q1, .ref q2, .ref q3, .ref q4, .ref q5, .ref q6, .ref q7, .int (nI mk), .int (nI sv)])), (q1, .inl (cI, n, .inl (fun j => nI (pa j)))), (q2, .inl (cI, n, .inl (fun j => nI (ch j)))), (q3, .inl (cI, n, .inl (fun j => nI (kd j)))), (q4, .inl (cI, n, .inl (fun j => nI (ad j)))), (q5, .inl (cI, n, .inl (fun j => nI (ra j)))), (q6, .inl (cI, n, .inl (fun j => nI (su j)))), (q7, .inl (cI, n, .inl (fun j => nI (un j)))), (x, .inr (3, [.ref tk, .ref mh, .ref sc, .ref ga, .int (nI 1)]))] := hD
  refine lv_aload_n hx hb dX3_join_4 rfl (lv_at hl 0 rfl) ?_
  refine va_get (D := g) (ci := 3) (v := .ref mh) (C := RX3) (T := TX3) (N := 5) hx hb hts hinX3 hown hK hP 10 rfl rfl 1 (by decide) (hts (.fieldLink RX3 19 "BuddyRoof" "memory" "LBuddyRoof$Memory;") (by decide +kernel)) (fun _ h9 => h9) rfl dX3_join_5 ?_
  refine k_goI (wr := [(x, .inr (3, [.ref tk, .ref mh, .ref sc, .ref ga, .int (nI 1)]))]) (va_runV (As := []) (rest := []) ⟨hx, hb, hml, hown, hts⟩ (c_X0_uniteAll l g cI cJ cZ mh kr kq fq bq gq rcv ncl bl rd hd jn sn fo h q1 q2 q3 q4 q5 q6 q7 n pa ch kd ad ra su un mk sv top S L R rc sp rq nu  hn25 hR hI _) (cwV 0 hts gX3_join_X0_uniteAll rfl rfl rfl (by decide +kernel) ⟨Nat.le_of_ble_eq_true rfl, Nat.le_of_ble_eq_true rfl⟩) (k_preV hk hP hD [0, 1, 2, 3, 4, 5, 6, 7, 8, 9] rfl rfl (ci := 0) (q0 := 0) rfl rfl) rfl rfl hl.1 rfl (lv_room (Nat.le_of_ble_eq_true rfl)) dX3_join_8 ⟨by first | exact Nat.zero_le _ | omega, by first | exact Nat.zero_le _ | omega⟩) hP hD hS hA [0, 1, 2, 3, 4, 5, 6, 7, 8, 9] [10] rfl rfl rfl (by decide) (fun rv u H locs hu hP hD hS => ?_)
  obtain ⟨pa1, ch1, ra1, su1, un1, fo1, sv1⟩ := u
  obtain ⟨hrv, hI3⟩ := hu
  have hI3 : wI top S L R (jal sp rq) rq nu ([]) n mk sv1 pa1 ch1 kd ad ra1 su1 un1 fo1 bl rd hd := hI3
  subst hrv
  have hP : va_P g vwCl [(x, .inr (3, [.ref tk, .ref mh, .ref sc, .ref ga, .int (nI 1)])), (mh, .inr (0, [.ref kr, .ref h, .ref kq, .ref fq, .ref bq, .ref gq, .int (nI rcv), .int (nI ncl), .int (nI bl), .int (nI rd), .int (nI hd), .int (nI (jn + ((lvs sp 1).length - (lvs (jal sp rq) 1).length))), .int (nI sn)])), (fq, .inl (cI, 25, .inl (fun j => nI (fo1 j)))), (h, .inr (2, [.ref q1, .ref q2, .ref q3, .ref q4, .ref q5, .ref q6, .ref q7, .int (nI mk), .int (nI sv1)])), (q1, .inl (cI, n, .inl (fun j => nI (pa1 j)))), (q2, .inl (cI, n, .inl (fun j => nI (ch1 j)))), (q3, .inl (cI, n, .inl (fun j => nI (kd j)))), (q4, .inl (cI, n, .inl (fun j => nI (ad j)))), (q5, .inl (cI, n, .inl (fun j => nI (ra1 j)))), (q6, .inl (cI, n, .inl (fun j => nI (su1 j)))), (q7, .inl (cI, n, .inl (fun j => nI (un1 j))))] H := hP
  have hD : va_D A [(x, .inr (3, [.ref tk, .ref mh, .ref sc, .ref ga, .int (nI 1)])), (mh, .inr (0, [.ref kr, .ref h, .ref kq, .ref fq, .ref bq, .ref gq, .int (nI rcv), .int (nI ncl), .int (nI bl), .int (nI rd), .int (nI hd), .int (nI (jn + ((lvs sp 1).length - (lvs (jal sp rq) 1).length))), .int (nI sn)])), (fq, .inl (cI, 25, .inl (fun j => nI (fo1 j)))), (h, .inr (2, [.ref q1, .ref q2, .ref q3, .ref q4, .ref q5, .ref q6, .ref q7, .int (nI mk), .int (nI sv1)])), (q1, .inl (cI, n, .inl (fun j => nI (pa1 j)))), (q2, .inl (cI, n, .inl (fun j => nI (ch1 j)))), (q3, .inl (cI, n, .inl (fun j => nI (kd j)))), (q4, .inl (cI, n, .inl (fun j => nI (ad j)))), (q5, .inl (cI, n, .inl (fun j => nI (ra1 j)))), (q6, .inl (cI, n, .inl (fun j => nI (su1 j)))), (q7, .inl (cI, n, .inl (fun j => nI (un1 j))))] := hD
  have hP := hP.sub (ws' := [(x, .inr (3, [.ref tk, .ref mh, .ref sc, .ref ga, .int (nI 1)])), (mh, .inr (0, [.ref kr, .ref h, .ref kq, .ref fq, .ref bq, .ref gq, .int (nI rcv), .int (nI ncl), .int (nI bl), .int (nI rd), .int (nI hd), .int (nI (jn + ((lvs sp 1).length - (lvs (jal sp rq) 1).length))), .int (nI sn)])), (fq, .inl (cI, 25, .inl (fun j => nI (fo1 j)))), (h, .inr (2, [.ref q1, .ref q2, .ref q3, .ref q4, .ref q5, .ref q6, .ref q7, .int (nI mk), .int (nI sv1)])), (q1, .inl (cI, n, .inl (fun j => nI (pa1 j)))), (q2, .inl (cI, n, .inl (fun j => nI (ch1 j)))), (q3, .inl (cI, n, .inl (fun j => nI (kd j)))), (q4, .inl (cI, n, .inl (fun j => nI (ad j)))), (q5, .inl (cI, n, .inl (fun j => nI (ra1 j)))), (q6, .inl (cI, n, .inl (fun j => nI (su1 j)))), (q7, .inl (cI, n, .inl (fun j => nI (un1 j))))]) [0, 1, 2, 3, 4, 5, 6, 7, 8, 9, 10] rfl
  have hD := hD.sub (ws' := [(x, .inr (3, [.ref tk, .ref mh, .ref sc, .ref ga, .int (nI 1)])), (mh, .inr (0, [.ref kr, .ref h, .ref kq, .ref fq, .ref bq, .ref gq, .int (nI rcv), .int (nI ncl), .int (nI bl), .int (nI rd), .int (nI hd), .int (nI (jn + ((lvs sp 1).length - (lvs (jal sp rq) 1).length))), .int (nI sn)])), (fq, .inl (cI, 25, .inl (fun j => nI (fo1 j)))), (h, .inr (2, [.ref q1, .ref q2, .ref q3, .ref q4, .ref q5, .ref q6, .ref q7, .int (nI mk), .int (nI sv1)])), (q1, .inl (cI, n, .inl (fun j => nI (pa1 j)))), (q2, .inl (cI, n, .inl (fun j => nI (ch1 j)))), (q3, .inl (cI, n, .inl (fun j => nI (kd j)))), (q4, .inl (cI, n, .inl (fun j => nI (ad j)))), (q5, .inl (cI, n, .inl (fun j => nI (ra1 j)))), (q6, .inl (cI, n, .inl (fun j => nI (su1 j)))), (q7, .inl (cI, n, .inl (fun j => nI (un1 j))))]) [0, 1, 2, 3, 4, 5, 6, 7, 8, 9, 10] rfl rfl
  refine W.widen (k := 0) (n := 0) (by first | exact Nat.le_refl _ | omega) (by first | exact Nat.le_refl _ | omega) ?_
  exact k_retI (sz := 0) (v := nI ((lvs sp 1).length - (lvs (jal sp rq) 1).length)) hx hb hr hlocks hAe hS hP hD (pa1, ch1, ra1, su1, un1, fo1, sv1) (rfl) (⟨rfl, hI3⟩) dX3_join_11
set_option maxHeartbeats 4000000 in
set_option maxRecDepth 100000 in
theorem c_X3_join_tM (l : Launch) (g : va_G) (cI cJ cZ : ClassId) (hst : l.stackTraces = false) (x tk sc ga : Nat) (mh : Nat)   : kT l g (kty cI cJ cZ) yX3_join wsX3_join ({ frames := 7, cells := 1, slots := 6, locals := 110 }) [.ref x] [(x, .inr (3, [.ref tk, .ref mh, .ref sc, .ref ga, .int (nI 0)]))] [(x, .inr (3, [.ref tk, .ref mh, .ref sc, .ref ga, .int (nI 0)]))] xI := by
  intro sz
  refine vx_ofW (cc := cX3_join) (maxL := 1) (ret := (some .int)) (by decide) rfl ?_
  intro p e s m args below meth c s₁ B hml htab hv
  obtain ⟨rfl, ⟨hsz, hP, hk, hD0⟩, hxT, hxZ⟩ := hv
  subst hsz
  have hx := B.exec
  have hb := B.bytes
  have hr := B.returns
  have hts := atoms_spec (ws := wsX3_join) B.pre
  have hown : s.vm.findClass RX3 = some m.cls := findClass_of_methodNamed B.named
  have hlocks := B.notSynchronized
  have hK := hk.1
  obtain ⟨A, hAe⟩ : ∃ A, va_A [(x, .inr (3, [.ref tk, .ref mh, .ref sc, .ref ga, .int (nI 0)]))] s.heap.size = A := ⟨_, rfl⟩
  have hD := hD0.self (sz := s.heap.size)
  rw [hAe] at hD hxZ
  have hA : ∀ q : Nat, s.heap.size ≤ q → A q := fun q h => by rw [← hAe]; exact Or.inr h
  have hS : va_S A s.heap s.heap [] := va_S.rf
  have hl := lv_entry ([.ref x]) (n := 1) (Nat.le_of_ble_eq_true rfl)
  rw [lg_entry_eq]
  generalize (lg_sl ([.ref x]) ++ List.replicate (1 - (lg_sl ([.ref x])).length) Slot.unset).toArray = ls at hl ⊢
  have hl : lv_has ls 1 [(0, .ref x)] := hl
  refine lv_aload_n hx hb dX3_join_0 rfl (lv_at hl 0 rfl) ?_
  refine k_goT (wr := []) (vx_runV (As := []) (rest := []) ⟨hx, hb, hml, hown, hts⟩ (c_X3_requireMemory_t l g cI cJ cZ hst x tk sc ga mh   _) (cwV 0 hts gX3_join_X3_requireMemory rfl rfl rfl (by decide +kernel) ⟨Nat.le_of_ble_eq_true rfl, Nat.le_of_ble_eq_true rfl⟩) (k_preVx hk hxT (hxZ.kept (fun a h1 h2 => hS.2.1 a h1 h2)) hP hD hS hA [0] rfl rfl (ci := 3) (q0 := 0) rfl rfl) rfl rfl hl.1 rfl (lv_room (Nat.le_of_ble_eq_true rfl)) dX3_join_1 ⟨Nat.le_of_ble_eq_true rfl, Nat.le_of_ble_eq_true rfl⟩) hP hD hS hA [0] [] rfl rfl rfl (by decide) (fun ce q9 H locs hP hD hS hkp hce hcv hcl => ?_)
  have hP : va_P g vwCl [(x, .inr (3, [.ref tk, .ref mh, .ref sc, .ref ga, .int (nI 0)]))] H := hP
  have hD : va_D A [(x, .inr (3, [.ref tk, .ref mh, .ref sc, .ref ga, .int (nI 0)]))] := hD
  exact k_out htab hlocks hce hcv hcl (hP.sub [0] rfl) (hD.sub [0] rfl rfl) hAe hS (Nat.le_refl _) (Nat.le_refl _)
set_option maxHeartbeats 4000000 in
set_option maxRecDepth 100000 in
theorem c_X3_keep (l : Launch) (g : va_G) (cI cJ cZ : ClassId) (x tk sc ga : Nat) (mh kr kq fq bq gq h : Nat) (rcv ncl bl rd hd jn sn : Nat) (kp : Nat → Nat) (i mm : Nat) (hrv : rcv < 2 ^ 31) (hi : 1 ≤ i ∧ i ≤ 24) (hrc : rcv / 2 ^ i &&& 1 = 1) (hm : mm ≤ 255) : kV l g (kty cI cJ cZ) yX3_keep wsX3_keep ({ frames := 2, cells := 0, slots := 0, locals := 42 }) [.ref x, .int (nI i), .int (nI mm)] [(x, .inr (3, [.ref tk, .ref mh, .ref sc, .ref ga, .int (nI 1)])), (mh, .inr (0, [.ref kr, .ref h, .ref kq, .ref fq, .ref bq, .ref gq, .int (nI rcv), .int (nI ncl), .int (nI bl), .int (nI rd), .int (nI hd), .int (nI jn), .int (nI sn)])), (kq, .inl (cI, 25, .inl (fun j => nI (kp j))))] (S := Unit) (fun _ => True) (fun u => [(x, .inr (3, [.ref tk, .ref mh, .ref sc, .ref ga, .int (nI 1)])), (mh, .inr (0, [.ref kr, .ref h, .ref kq, .ref fq, .ref bq, .ref gq, .int (nI rcv), .int (nI ncl), .int (nI bl), .int (nI rd), .int (nI hd), .int (nI jn), .int (nI sn)])), (kq, .inl (cI, 25, .inl (fun j => nI ((upN kp i mm) j))))]) 0 0 := by
  intro sz
  refine Met.ofW (cc := cX3_keep) (maxL := 3) (ret := none) (by decide) rfl ?_
  intro p e s m args below meth c s₁ B hml hv
  obtain ⟨rfl, hsz, hP, hk, hD0⟩ := hv
  subst hsz
  have hx := B.exec
  have hb := B.bytes
  have hr := B.returns
  have hts := atoms_spec (ws := wsX3_keep) B.pre
  have hown : s.vm.findClass RX3 = some m.cls := findClass_of_methodNamed B.named
  have hlocks := B.notSynchronized
  have hK := hk.1
  have hinX0 : ∀ w ∈ wsX00, w ∈ wsX3_keep := by decide +kernel
  have hinX3 : ∀ w ∈ wsX30, w ∈ wsX3_keep := by decide +kernel
  obtain ⟨A, hAe⟩ : ∃ A, va_A [(x, .inr (3, [.ref tk, .ref mh, .ref sc, .ref ga, .int (nI 1)])), (mh, .inr (0, [.ref kr, .ref h, .ref kq, .ref fq, .ref bq, .ref gq, .int (nI rcv), .int (nI ncl), .int (nI bl), .int (nI rd), .int (nI hd), .int (nI jn), .int (nI sn)])), (kq, .inl (cI, 25, .inl (fun j => nI (kp j))))] s.heap.size = A := ⟨_, rfl⟩
  have hD := hD0.self (sz := s.heap.size)
  rw [hAe] at hD
  have hA : ∀ q : Nat, s.heap.size ≤ q → A q := fun q h => by rw [← hAe]; exact Or.inr h
  have hS : va_S A s.heap s.heap [] := va_S.rf
  have hl := lv_entry ([.ref x, .int (nI i), .int (nI mm)]) (n := 3) (Nat.le_of_ble_eq_true rfl)
  rw [lg_entry_eq]
  generalize (lg_sl ([.ref x, .int (nI i), .int (nI mm)]) ++ List.replicate (3 - (lg_sl ([.ref x, .int (nI i), .int (nI mm)])).length) Slot.unset).toArray = ls at hl ⊢
  have hl : lv_has ls 3 [(0, .ref x), (1, .int (nI i)), (2, .int (nI mm))] := hl
  refine lv_aload_n hx hb dX3_keep_0 rfl (lv_at hl 0 rfl) ?_
  refine k_goV (wr := [(mh, .inr (0, [.ref kr, .ref h, .ref kq, .ref fq, .ref bq, .ref gq, .int (nI rcv), .int (nI ncl), .int (nI bl), .int (nI rd), .int (nI hd), .int (nI jn), .int (nI sn)])), (kq, .inl (cI, 25, .inl (fun j => nI (kp j))))]) (va_runV (As := []) (rest := []) ⟨hx, hb, hml, hown, hts⟩ (c_X3_requireMemory l g cI cJ cZ x tk sc ga mh   _) (cwV 0 hts gX3_keep_X3_requireMemory rfl rfl rfl (by decide +kernel) ⟨Nat.le_of_ble_eq_true rfl, Nat.le_of_ble_eq_true rfl⟩) (k_preV hk hP hD [0] rfl rfl (ci := 3) (q0 := 0) rfl rfl) rfl rfl hl.1 rfl (lv_room (Nat.le_of_ble_eq_true rfl)) dX3_keep_1 ⟨by first | exact Nat.zero_le _ | omega, by first | exact Nat.zero_le _ | omega⟩) hP hD hS hA [0] [1, 2] rfl rfl rfl (by decide) (fun _ H locs hu hP hD hS => ?_)
  have hP : va_P g vwCl [(mh, .inr (0, [.ref kr, .ref h, .ref kq, .ref fq, .ref bq, .ref gq, .int (nI rcv), .int (nI ncl), .int (nI bl), .int (nI rd), .int (nI hd), .int (nI jn), .int (nI sn)])), (kq, .inl (cI, 25, .inl (fun j => nI (kp j)))), (x, .inr (3, [.ref tk, .ref mh, .ref sc, .ref ga, .int (nI 1)]))] H := hP
  have hD : va_D A [(mh, .inr (0, [.ref kr, .ref h, .ref kq, .ref fq, .ref bq, .ref gq, .int (nI rcv), .int (nI ncl), .int (nI bl), .int (nI rd), .int (nI hd), .int (nI jn), .int (nI sn)])), (kq, .inl (cI, 25, .inl (fun j => nI (kp j)))), (x, .inr (3, [.ref tk, .ref mh, .ref sc, .ref ga, .int (nI 1)]))] := hD
  refine lv_aload_n hx hb dX3_keep_4 rfl (lv_at hl 0 rfl) ?_
  refine lv_iload_n hx hb dX3_keep_5 rfl (lv_at hl 1 rfl) ?_
  refine k_goV (wr := [(kq, .inl (cI, 25, .inl (fun j => nI (kp j))))]) (va_runV (As := [.int (nI i)]) (rest := []) ⟨hx, hb, hml, hown, hts⟩ (c_X3_requireReached l g cI cJ cZ x tk sc ga mh kr kq fq bq gq rcv ncl bl rd hd jn sn (fun _ => 0) h i hrv hi hrc _) (cwV 1 hts gX3_keep_X3_requireReached rfl rfl rfl (by decide +kernel) ⟨Nat.le_of_ble_eq_true rfl, Nat.le_of_ble_eq_true rfl⟩) (k_preV hk hP hD [2, 0] rfl rfl (ci := 3) (q0 := 0) rfl rfl) rfl rfl hl.1 rfl (lv_room (Nat.le_of_ble_eq_true rfl)) dX3_keep_6 ⟨by first | exact Nat.zero_le _ | omega, by first | exact Nat.zero_le _ | omega⟩) hP hD hS hA [2, 0] [1] rfl rfl rfl (by decide) (fun _ H locs hu hP hD hS => ?_)
  have hP : va_P g vwCl [(kq, .inl (cI, 25, .inl (fun j => nI (kp j)))), (x, .inr (3, [.ref tk, .ref mh, .ref sc, .ref ga, .int (nI 1)])), (mh, .inr (0, [.ref kr, .ref h, .ref kq, .ref fq, .ref bq, .ref gq, .int (nI rcv), .int (nI ncl), .int (nI bl), .int (nI rd), .int (nI hd), .int (nI jn), .int (nI sn)]))] H := hP
  have hD : va_D A [(kq, .inl (cI, 25, .inl (fun j => nI (kp j)))), (x, .inr (3, [.ref tk, .ref mh, .ref sc, .ref ga, .int (nI 1)])), (mh, .inr (0, [.ref kr, .ref h, .ref kq, .ref fq, .ref bq, .ref gq, .int (nI rcv), .int (nI ncl), .int (nI bl), .int (nI rd), .int (nI hd), .int (nI jn), .int (nI sn)]))] := hD
  refine lv_iload_n hx hb dX3_keep_9 rfl (lv_at hl 2 rfl) ?_
  refine n_if_lt (tgt := 20) hx hb dX3_keep_10 (by decide) (by first | assumption | omega) ?_
  refine lv_iload_n hx hb dX3_keep_13 rfl (lv_at hl 2 rfl) ?_
  refine lv_sipush (v := nI 255) hx hb dX3_keep_14 (by decide) ?_
  refine n_icmp_le (tgt := 30) hx hb dX3_keep_17 (by decide) (by first | assumption | omega) (by first | assumption | omega) (fun c2 => ?_) (fun c2 => ?_)
  · skip
    refine lv_aload_n hx hb dX3_keep_30 rfl (lv_at hl 0 rfl) ?_
    refine va_get (D := g) (ci := 3) (v := .ref mh) (C := RX3) (T := TX3) (N := 5) hx hb hts hinX3 hown hK hP 1 rfl rfl 1 (by decide) (hts (.fieldLink RX3 19 "BuddyRoof" "memory" "LBuddyRoof$Memory;") (by decide +kernel)) (fun _ h9 => h9) rfl dX3_keep_31 ?_
    refine va_getN (D := g) (host := "BuddyRoof") (ci := 0) (v := .ref kq) (C := RX0) (T := TX0) (N := 13) hx hb hts hinX0 hown hK hP 2 rfl rfl 2 (by decide) (hk.2.f (h := "BuddyRoof") (by decide +kernel)) (fun _ h9 => h9) rfl dX3_keep_34 ?_
    refine lv_iload_n hx hb dX3_keep_37 rfl (lv_at hl 1 rfl) ?_
    refine lv_iload_n hx hb dX3_keep_38 rfl (lv_at hl 2 rfl) ?_
    refine n_ast hx hb hK hP hD hS 0 0 rfl rfl (i := i) (v := mm) (by omega) (by decide) dX3_keep_39 (fun H locs hP hD hS => ?_)
    have hP : va_P g vwCl [(kq, .inl (cI, 25, .inl (fun j => nI ((upN kp i mm) j)))), (x, .inr (3, [.ref tk, .ref mh, .ref sc, .ref ga, .int (nI 1)])), (mh, .inr (0, [.ref kr, .ref h, .ref kq, .ref fq, .ref bq, .ref gq, .int (nI rcv), .int (nI ncl), .int (nI bl), .int (nI rd), .int (nI hd), .int (nI jn), .int (nI sn)]))] H := hP
    have hD : va_D A [(kq, .inl (cI, 25, .inl (fun j => nI ((upN kp i mm) j)))), (x, .inr (3, [.ref tk, .ref mh, .ref sc, .ref ga, .int (nI 1)])), (mh, .inr (0, [.ref kr, .ref h, .ref kq, .ref fq, .ref bq, .ref gq, .int (nI rcv), .int (nI ncl), .int (nI bl), .int (nI rd), .int (nI hd), .int (nI jn), .int (nI sn)]))] := hD
    have hP := hP.sub (ws' := [(x, .inr (3, [.ref tk, .ref mh, .ref sc, .ref ga, .int (nI 1)])), (mh, .inr (0, [.ref kr, .ref h, .ref kq, .ref fq, .ref bq, .ref gq, .int (nI rcv), .int (nI ncl), .int (nI bl), .int (nI rd), .int (nI hd), .int (nI jn), .int (nI sn)])), (kq, .inl (cI, 25, .inl (fun j => nI ((upN kp i mm) j))))]) [1, 2, 0] rfl
    have hD := hD.sub (ws' := [(x, .inr (3, [.ref tk, .ref mh, .ref sc, .ref ga, .int (nI 1)])), (mh, .inr (0, [.ref kr, .ref h, .ref kq, .ref fq, .ref bq, .ref gq, .int (nI rcv), .int (nI ncl), .int (nI bl), .int (nI rd), .int (nI hd), .int (nI jn), .int (nI sn)])), (kq, .inl (cI, 25, .inl (fun j => nI ((upN kp i mm) j))))]) [1, 2, 0] rfl rfl
    refine W.widen (k := 0) (n := 0) (by first | exact Nat.le_refl _ | omega) (by first | exact Nat.le_refl _ | omega) ?_
    exact k_retV (sz := 0) hx hb hr hlocks hAe hS hP hD () (rfl) (trivial) dX3_keep_40
  · exact (by exfalso; omega)
set_option maxHeartbeats 4000000 in
set_option maxRecDepth 100000 in
theorem c_X3_keep_tM (l : Launch) (g : va_G) (cI cJ cZ : ClassId) (hst : l.stackTraces = false) (x tk sc ga : Nat) (mh : Nat) (v v2 : Int32)  : kT l g (kty cI cJ cZ) yX3_keep wsX3_keep ({ frames := 7, cells := 1, slots := 6, locals := 110 }) [.ref x, .int v, .int v2] [(x, .inr (3, [.ref tk, .ref mh, .ref sc, .ref ga, .int (nI 0)]))] [(x, .inr (3, [.ref tk, .ref mh, .ref sc, .ref ga, .int (nI 0)]))] xI := by
  intro sz
  refine vx_ofW (cc := cX3_keep) (maxL := 3) (ret := none) (by decide) rfl ?_
  intro p e s m args below meth c s₁ B hml htab hv
  obtain ⟨rfl, ⟨hsz, hP, hk, hD0⟩, hxT, hxZ⟩ := hv
  subst hsz
  have hx := B.exec
  have hb := B.bytes
  have hr := B.returns
  have hts := atoms_spec (ws := wsX3_keep) B.pre
  have hown : s.vm.findClass RX3 = some m.cls := findClass_of_methodNamed B.named
  have hlocks := B.notSynchronized
  have hK := hk.1
  obtain ⟨A, hAe⟩ : ∃ A, va_A [(x, .inr (3, [.ref tk, .ref mh, .ref sc, .ref ga, .int (nI 0)]))] s.heap.size = A := ⟨_, rfl⟩
  have hD := hD0.self (sz := s.heap.size)
  rw [hAe] at hD hxZ
  have hA : ∀ q : Nat, s.heap.size ≤ q → A q := fun q h => by rw [← hAe]; exact Or.inr h
  have hS : va_S A s.heap s.heap [] := va_S.rf
  have hl := lv_entry ([.ref x, .int v, .int v2]) (n := 3) (Nat.le_of_ble_eq_true rfl)
  rw [lg_entry_eq]
  generalize (lg_sl ([.ref x, .int v, .int v2]) ++ List.replicate (3 - (lg_sl ([.ref x, .int v, .int v2])).length) Slot.unset).toArray = ls at hl ⊢
  have hl : lv_has ls 3 [(0, .ref x), (1, .int v), (2, .int v2)] := hl
  refine lv_aload_n hx hb dX3_keep_0 rfl (lv_at hl 0 rfl) ?_
  refine k_goT (wr := []) (vx_runV (As := []) (rest := []) ⟨hx, hb, hml, hown, hts⟩ (c_X3_requireMemory_t l g cI cJ cZ hst x tk sc ga mh   _) (cwV 0 hts gX3_keep_X3_requireMemory rfl rfl rfl (by decide +kernel) ⟨Nat.le_of_ble_eq_true rfl, Nat.le_of_ble_eq_true rfl⟩) (k_preVx hk hxT (hxZ.kept (fun a h1 h2 => hS.2.1 a h1 h2)) hP hD hS hA [0] rfl rfl (ci := 3) (q0 := 0) rfl rfl) rfl rfl hl.1 rfl (lv_room (Nat.le_of_ble_eq_true rfl)) dX3_keep_1 ⟨Nat.le_of_ble_eq_true rfl, Nat.le_of_ble_eq_true rfl⟩) hP hD hS hA [0] [] rfl rfl rfl (by decide) (fun ce q9 H locs hP hD hS hkp hce hcv hcl => ?_)
  have hP : va_P g vwCl [(x, .inr (3, [.ref tk, .ref mh, .ref sc, .ref ga, .int (nI 0)]))] H := hP
  have hD : va_D A [(x, .inr (3, [.ref tk, .ref mh, .ref sc, .ref ga, .int (nI 0)]))] := hD
  exact k_out htab hlocks hce hcv hcl (hP.sub [0] rfl) (hD.sub [0] rfl rfl) hAe hS (Nat.le_refl _) (Nat.le_refl _)
set_option maxHeartbeats 4000000 in
set_option maxRecDepth 100000 in
theorem c_X3_keep_tR (l : Launch) (g : va_G) (cI cJ cZ : ClassId) (hst : l.stackTraces = false) (x tk sc ga : Nat) (mh kr kq fq bq gq h : Nat) (rcv ncl bl rd hd jn sn : Nat) (v v2 : Int32) (hrv : rcv < 2 ^ 31) (hv : ∀ i, 1 ≤ i → i ≤ 24 → v = nI i → ¬ rcv / 2 ^ i &&& 1 = 1) : kT l g (kty cI cJ cZ) yX3_keep wsX3_keep ({ frames := 7, cells := 1, slots := 6, locals := 111 }) [.ref x, .int v, .int v2] [(x, .inr (3, [.ref tk, .ref mh, .ref sc, .ref ga, .int (nI 1)])), (mh, .inr (0, [.ref kr, .ref h, .ref kq, .ref fq, .ref bq, .ref gq, .int (nI rcv), .int (nI ncl), .int (nI bl), .int (nI rd), .int (nI hd), .int (nI jn), .int (nI sn)]))] [(x, .inr (3, [.ref tk, .ref mh, .ref sc, .ref ga, .int (nI 1)])), (mh, .inr (0, [.ref kr, .ref h, .ref kq, .ref fq, .ref bq, .ref gq, .int (nI rcv), .int (nI ncl), .int (nI bl), .int (nI rd), .int (nI hd), .int (nI jn), .int (nI sn)]))] xA := by
  intro sz
  refine vx_ofW (cc := cX3_keep) (maxL := 3) (ret := none) (by decide) rfl ?_
  intro p e s m args below meth c s₁ B hml htab hv
  obtain ⟨rfl, ⟨hsz, hP, hk, hD0⟩, hxT, hxZ⟩ := hv
  subst hsz
  have hx := B.exec
  have hb := B.bytes
  have hr := B.returns
  have hts := atoms_spec (ws := wsX3_keep) B.pre
  have hown : s.vm.findClass RX3 = some m.cls := findClass_of_methodNamed B.named
  have hlocks := B.notSynchronized
  have hK := hk.1
  obtain ⟨A, hAe⟩ : ∃ A, va_A [(x, .inr (3, [.ref tk, .ref mh, .ref sc, .ref ga, .int (nI 1)])), (mh, .inr (0, [.ref kr, .ref h, .ref kq, .ref fq, .ref bq, .ref gq, .int (nI rcv), .int (nI ncl), .int (nI bl), .int (nI rd), .int (nI hd), .int (nI jn), .int (nI sn)]))] s.heap.size = A := ⟨_, rfl⟩
  have hD := hD0.self (sz := s.heap.size)
  rw [hAe] at hD hxZ
  have hA : ∀ q : Nat, s.heap.size ≤ q → A q := fun q h => by rw [← hAe]; exact Or.inr h
  have hS : va_S A s.heap s.heap [] := va_S.rf
  have hl := lv_entry ([.ref x, .int v, .int v2]) (n := 3) (Nat.le_of_ble_eq_true rfl)
  rw [lg_entry_eq]
  generalize (lg_sl ([.ref x, .int v, .int v2]) ++ List.replicate (3 - (lg_sl ([.ref x, .int v, .int v2])).length) Slot.unset).toArray = ls at hl ⊢
  have hl : lv_has ls 3 [(0, .ref x), (1, .int v), (2, .int v2)] := hl
  refine lv_aload_n hx hb dX3_keep_0 rfl (lv_at hl 0 rfl) ?_
  refine k_goV (wr := [(mh, .inr (0, [.ref kr, .ref h, .ref kq, .ref fq, .ref bq, .ref gq, .int (nI rcv), .int (nI ncl), .int (nI bl), .int (nI rd), .int (nI hd), .int (nI jn), .int (nI sn)]))]) (va_runV (As := []) (rest := []) ⟨hx, hb, hml, hown, hts⟩ (c_X3_requireMemory l g cI cJ cZ x tk sc ga mh   _) (cwV 0 hts gX3_keep_X3_requireMemory rfl rfl rfl (by decide +kernel) ⟨Nat.le_of_ble_eq_true rfl, Nat.le_of_ble_eq_true rfl⟩) (k_preV hk hP hD [0] rfl rfl (ci := 3) (q0 := 0) rfl rfl) rfl rfl hl.1 rfl (lv_room (Nat.le_of_ble_eq_true rfl)) dX3_keep_1 ⟨by first | exact Nat.zero_le _ | omega, by first | exact Nat.zero_le _ | omega⟩) hP hD hS hA [0] [1] rfl rfl rfl (by decide) (fun _ H locs hu hP hD hS => ?_)
  have hP : va_P g vwCl [(mh, .inr (0, [.ref kr, .ref h, .ref kq, .ref fq, .ref bq, .ref gq, .int (nI rcv), .int (nI ncl), .int (nI bl), .int (nI rd), .int (nI hd), .int (nI jn), .int (nI sn)])), (x, .inr (3, [.ref tk, .ref mh, .ref sc, .ref ga, .int (nI 1)]))] H := hP
  have hD : va_D A [(mh, .inr (0, [.ref kr, .ref h, .ref kq, .ref fq, .ref bq, .ref gq, .int (nI rcv), .int (nI ncl), .int (nI bl), .int (nI rd), .int (nI hd), .int (nI jn), .int (nI sn)])), (x, .inr (3, [.ref tk, .ref mh, .ref sc, .ref ga, .int (nI 1)]))] := hD
  refine lv_aload_n hx hb dX3_keep_4 rfl (lv_at hl 0 rfl) ?_
  refine lv_iload_n hx hb dX3_keep_5 rfl (lv_at hl 1 rfl) ?_
  refine k_goT (wr := []) (vx_runV (As := [.int v]) (rest := []) ⟨hx, hb, hml, hown, hts⟩ (c_X3_requireReached_t l g cI cJ cZ hst x tk sc ga mh kr kq fq bq gq rcv ncl bl rd hd jn sn (fun _ => 0) h v hrv hv _) (cwV 1 hts gX3_keep_X3_requireReached rfl rfl rfl (by decide +kernel) ⟨Nat.le_of_ble_eq_true rfl, Nat.le_of_ble_eq_true rfl⟩) (k_preVx hk hxT (hxZ.kept (fun a h1 h2 => hS.2.1 a h1 h2)) hP hD hS hA [1, 0] rfl rfl (ci := 3) (q0 := 0) rfl rfl) rfl rfl hl.1 rfl (lv_room (Nat.le_of_ble_eq_true rfl)) dX3_keep_6 ⟨Nat.le_of_ble_eq_true rfl, Nat.le_of_ble_eq_true rfl⟩) hP hD hS hA [1, 0] [] rfl rfl rfl (by decide) (fun ce q9 H locs hP hD hS hkp hce hcv hcl => ?_)
  have hP : va_P g vwCl [(x, .inr (3, [.ref tk, .ref mh, .ref sc, .ref ga, .int (nI 1)])), (mh, .inr (0, [.ref kr, .ref h, .ref kq, .ref fq, .ref bq, .ref gq, .int (nI rcv), .int (nI ncl), .int (nI bl), .int (nI rd), .int (nI hd), .int (nI jn), .int (nI sn)]))] H := hP
  have hD : va_D A [(x, .inr (3, [.ref tk, .ref mh, .ref sc, .ref ga, .int (nI 1)])), (mh, .inr (0, [.ref kr, .ref h, .ref kq, .ref fq, .ref bq, .ref gq, .int (nI rcv), .int (nI ncl), .int (nI bl), .int (nI rd), .int (nI hd), .int (nI jn), .int (nI sn)]))] := hD
  exact k_out htab hlocks hce hcv hcl (hP.sub [0, 1] rfl) (hD.sub [0, 1] rfl rfl) hAe hS (Nat.le_refl _) (Nat.le_refl _)
set_option maxHeartbeats 4000000 in
set_option maxRecDepth 100000 in
theorem c_X3_keep_tA (l : Launch) (g : va_G) (cI cJ cZ : ClassId) (hst : l.stackTraces = false) (x tk sc ga : Nat) (mh kr kq fq bq gq h : Nat) (rcv ncl bl rd hd jn sn : Nat) (i : Nat) (v2 : Int32) (hrv : rcv < 2 ^ 31) (hi : 1 ≤ i ∧ i ≤ 24) (hrc : rcv / 2 ^ i &&& 1 = 1) (hv2 : v2 < 0 ∨ ¬ v2 ≤ nI 255) : kT l g (kty cI cJ cZ) yX3_keep wsX3_keep ({ frames := 6, cells := 1, slots := 6, locals := 90 }) [.ref x, .int (nI i), .int v2] [(x, .inr (3, [.ref tk, .ref mh, .ref sc, .ref ga, .int (nI 1)])), (mh, .inr (0, [.ref kr, .ref h, .ref kq, .ref fq, .ref bq, .ref gq, .int (nI rcv), .int (nI ncl), .int (nI bl), .int (nI rd), .int (nI hd), .int (nI jn), .int (nI sn)]))] [(x, .inr (3, [.ref tk, .ref mh, .ref sc, .ref ga, .int (nI 1)])), (mh, .inr (0, [.ref kr, .ref h, .ref kq, .ref fq, .ref bq, .ref gq, .int (nI rcv), .int (nI ncl), .int (nI bl), .int (nI rd), .int (nI hd), .int (nI jn), .int (nI sn)]))] xA := by
  intro sz
  refine vx_ofW (cc := cX3_keep) (maxL := 3) (ret := none) (by decide) rfl ?_
  intro p e s m args below meth c s₁ B hml htab hv
  obtain ⟨rfl, ⟨hsz, hP, hk, hD0⟩, hxT, hxZ⟩ := hv
  subst hsz
  have hx := B.exec
  have hb := B.bytes
  have hr := B.returns
  have hts := atoms_spec (ws := wsX3_keep) B.pre
  have hown : s.vm.findClass RX3 = some m.cls := findClass_of_methodNamed B.named
  have hlocks := B.notSynchronized
  have hK := hk.1
  obtain ⟨A, hAe⟩ : ∃ A, va_A [(x, .inr (3, [.ref tk, .ref mh, .ref sc, .ref ga, .int (nI 1)])), (mh, .inr (0, [.ref kr, .ref h, .ref kq, .ref fq, .ref bq, .ref gq, .int (nI rcv), .int (nI ncl), .int (nI bl), .int (nI rd), .int (nI hd), .int (nI jn), .int (nI sn)]))] s.heap.size = A := ⟨_, rfl⟩
  have hD := hD0.self (sz := s.heap.size)
  rw [hAe] at hD hxZ
  have hA : ∀ q : Nat, s.heap.size ≤ q → A q := fun q h => by rw [← hAe]; exact Or.inr h
  have hS : va_S A s.heap s.heap [] := va_S.rf
  have hl := lv_entry ([.ref x, .int (nI i), .int v2]) (n := 3) (Nat.le_of_ble_eq_true rfl)
  rw [lg_entry_eq]
  generalize (lg_sl ([.ref x, .int (nI i), .int v2]) ++ List.replicate (3 - (lg_sl ([.ref x, .int (nI i), .int v2])).length) Slot.unset).toArray = ls at hl ⊢
  have hl : lv_has ls 3 [(0, .ref x), (1, .int (nI i)), (2, .int v2)] := hl
  refine lv_aload_n hx hb dX3_keep_0 rfl (lv_at hl 0 rfl) ?_
  refine k_goV (wr := [(mh, .inr (0, [.ref kr, .ref h, .ref kq, .ref fq, .ref bq, .ref gq, .int (nI rcv), .int (nI ncl), .int (nI bl), .int (nI rd), .int (nI hd), .int (nI jn), .int (nI sn)]))]) (va_runV (As := []) (rest := []) ⟨hx, hb, hml, hown, hts⟩ (c_X3_requireMemory l g cI cJ cZ x tk sc ga mh   _) (cwV 0 hts gX3_keep_X3_requireMemory rfl rfl rfl (by decide +kernel) ⟨Nat.le_of_ble_eq_true rfl, Nat.le_of_ble_eq_true rfl⟩) (k_preV hk hP hD [0] rfl rfl (ci := 3) (q0 := 0) rfl rfl) rfl rfl hl.1 rfl (lv_room (Nat.le_of_ble_eq_true rfl)) dX3_keep_1 ⟨by first | exact Nat.zero_le _ | omega, by first | exact Nat.zero_le _ | omega⟩) hP hD hS hA [0] [1] rfl rfl rfl (by decide) (fun _ H locs hu hP hD hS => ?_)
  have hP : va_P g vwCl [(mh, .inr (0, [.ref kr, .ref h, .ref kq, .ref fq, .ref bq, .ref gq, .int (nI rcv), .int (nI ncl), .int (nI bl), .int (nI rd), .int (nI hd), .int (nI jn), .int (nI sn)])), (x, .inr (3, [.ref tk, .ref mh, .ref sc, .ref ga, .int (nI 1)]))] H := hP
  have hD : va_D A [(mh, .inr (0, [.ref kr, .ref h, .ref kq, .ref fq, .ref bq, .ref gq, .int (nI rcv), .int (nI ncl), .int (nI bl), .int (nI rd), .int (nI hd), .int (nI jn), .int (nI sn)])), (x, .inr (3, [.ref tk, .ref mh, .ref sc, .ref ga, .int (nI 1)]))] := hD
  refine lv_aload_n hx hb dX3_keep_4 rfl (lv_at hl 0 rfl) ?_
  refine lv_iload_n hx hb dX3_keep_5 rfl (lv_at hl 1 rfl) ?_
  refine k_goV (wr := []) (va_runV (As := [.int (nI i)]) (rest := []) ⟨hx, hb, hml, hown, hts⟩ (c_X3_requireReached l g cI cJ cZ x tk sc ga mh kr kq fq bq gq rcv ncl bl rd hd jn sn (fun _ => 0) h i hrv hi hrc _) (cwV 1 hts gX3_keep_X3_requireReached rfl rfl rfl (by decide +kernel) ⟨Nat.le_of_ble_eq_true rfl, Nat.le_of_ble_eq_true rfl⟩) (k_preV hk hP hD [1, 0] rfl rfl (ci := 3) (q0 := 0) rfl rfl) rfl rfl hl.1 rfl (lv_room (Nat.le_of_ble_eq_true rfl)) dX3_keep_6 ⟨by first | exact Nat.zero_le _ | omega, by first | exact Nat.zero_le _ | omega⟩) hP hD hS hA [1, 0] [] rfl rfl rfl (by decide) (fun _ H locs hu hP hD hS => ?_)
  have hP : va_P g vwCl [(x, .inr (3, [.ref tk, .ref mh, .ref sc, .ref ga, .int (nI 1)])), (mh, .inr (0, [.ref kr, .ref h, .ref kq, .ref fq, .ref bq, .ref gq, .int (nI rcv), .int (nI ncl), .int (nI bl), .int (nI rd), .int (nI hd), .int (nI jn), .int (nI sn)]))] H := hP
  have hD : va_D A [(x, .inr (3, [.ref tk, .ref mh, .ref sc, .ref ga, .int (nI 1)])), (mh, .inr (0, [.ref kr, .ref h, .ref kq, .ref fq, .ref bq, .ref gq, .int (nI rcv), .int (nI ncl), .int (nI bl), .int (nI rd), .int (nI hd), .int (nI jn), .int (nI sn)]))] := hD
  refine lv_iload_n hx hb dX3_keep_9 rfl (lv_at hl 2 rfl) ?_
  refine lv_if_lt (tgt := 20) hx hb dX3_keep_10 (by decide) (fun c1 => ?_) (fun c1 => ?_)
  · skip
    exact k_throw (E := xA) (text := "so many can\'t be kept") hx hb hst hown (by decide +kernel) (hts (.classLink RX3 42 "java/lang/IllegalArgumentException") (by decide +kernel)) (hts (.initialized "java/lang/IllegalArgumentException") (by decide +kernel)) hxT (by decide +kernel) (fun w hw => hts w (List.mem_cons_of_mem _ (List.mem_append_left _ (List.mem_append_right _ hw)))) (by decide +kernel) (by decide +kernel) hxZ hAe hS (hl.1.trans hml.symm) dX3_keep_20 dX3_keep_23 dX3_keep_24 dX3_keep_26 dX3_keep_29 htab (Nat.le_of_ble_eq_true rfl) (Nat.le_of_ble_eq_true rfl) (Nat.le_of_ble_eq_true rfl) (Nat.le_of_ble_eq_true rfl) hlocks (hP.sub [0, 1] rfl) (hD.sub [0, 1] rfl rfl) (Nat.le_refl _) (Nat.le_refl _)
  · skip
    refine lv_iload_n hx hb dX3_keep_13 rfl (lv_at hl 2 rfl) ?_
    refine lv_sipush (v := nI 255) hx hb dX3_keep_14 (by decide) ?_
    refine lv_icmp_le (tgt := 30) hx hb dX3_keep_17 (by decide) (fun c2 => ?_) (fun c2 => ?_)
    · exact (by exact hv2.elim (fun q => absurd q c1) (fun q => absurd c2 q))
    · skip
      exact k_throw (E := xA) (text := "so many can\'t be kept") hx hb hst hown (by decide +kernel) (hts (.classLink RX3 42 "java/lang/IllegalArgumentException") (by decide +kernel)) (hts (.initialized "java/lang/IllegalArgumentException") (by decide +kernel)) hxT (by decide +kernel) (fun w hw => hts w (List.mem_cons_of_mem _ (List.mem_append_left _ (List.mem_append_right _ hw)))) (by decide +kernel) (by decide +kernel) hxZ hAe hS (hl.1.trans hml.symm) dX3_keep_20 dX3_keep_23 dX3_keep_24 dX3_keep_26 dX3_keep_29 htab (Nat.le_of_ble_eq_true rfl) (Nat.le_of_ble_eq_true rfl) (Nat.le_of_ble_eq_true rfl) (Nat.le_of_ble_eq_true rfl) hlocks (hP.sub [0, 1] rfl) (hD.sub [0, 1] rfl rfl) (Nat.le_refl _) (Nat.le_refl _)
set_option maxHeartbeats 4000000 in
set_option maxRecDepth 100000 in
theorem c_X3_room (l : Launch) (g : va_G) (cI cJ cZ : ClassId) (x tk sc ga : Nat) (mh kr kq fq bq gq : Nat) (rcv ncl bl rd hd jn sn : Nat) (fo : Nat → Nat) (bs gs0 : Nat → Nat) (r1 r2 r3 r4 : Nat) (sz lf rt tr : Nat → Int32) (h q1 q2 q3 q4 q5 q6 q7 n : Nat) (pa ch kd ad ra su un : Nat → Nat) (mk sv : Nat) (top : Nat) (S L R : Nat → Nat) (rc : Nat → Bool) (sp : Nat → Bool) (rq nu : Nat → Nat) (w : Nat) (hn : n < 2 ^ 25) (hR : RuleOK S L R rc top) (hrl : rOK S L R rc sz lf rt) (hbo : bOK S rc ncl bs) (hI : wI top S L R sp rq nu ([]) n mk sv pa ch kd ad ra su un fo bl rd hd) (hw1 : 1 ≤ w) (hw : w < 2 ^ 31) (hgs0 : gs0 0 = 0) : kI l g (kty cI cJ cZ) yX3_room wsX3_room ({ frames := 3, cells := 0, slots := 0, locals := 111 }) [.ref x, .int (nI w)] [(x, .inr (3, [.ref tk, .ref mh, .ref sc, .ref ga, .int (nI 1)])), (mh, .inr (0, [.ref kr, .ref h, .ref kq, .ref fq, .ref bq, .ref gq, .int (nI rcv), .int (nI ncl), .int (nI bl), .int (nI rd), .int (nI hd), .int (nI jn), .int (nI sn)])), (bq, .inl (cI, 24, .inl (fun j => nI (bs j)))), (gq, .inl (cI, 25, .inl (fun j => nI (gs0 j)))), (kr, .inr (1, [.ref r1, .ref r2, .ref r3, .ref r4])), (r1, .inl (cI, 25, .inl sz)), (r2, .inl (cI, 25, .inl lf)), (r3, .inl (cI, 25, .inl rt)), (r4, .inl (cI, 25, .inl tr)), (h, .inr (2, [.ref q1, .ref q2, .ref q3, .ref q4, .ref q5, .ref q6, .ref q7, .int (nI mk), .int (nI sv)])), (q1, .inl (cI, n, .inl (fun j => nI (pa j)))), (q2, .inl (cI, n, .inl (fun j => nI (ch j)))), (q3, .inl (cI, n, .inl (fun j => nI (kd j)))), (q4, .inl (cI, n, .inl (fun j => nI (ad j)))), (q5, .inl (cI, n, .inl (fun j => nI (ra j)))), (q6, .inl (cI, n, .inl (fun j => nI (su j)))), (q7, .inl (cI, n, .inl (fun j => nI (un j))))] (S := Nat → Nat) (fun r u => r = nI (rT S L R (cls top L R) sp rq w 1) ∧ u 0 = 0) (fun u => [(x, .inr (3, [.ref tk, .ref mh, .ref sc, .ref ga, .int (nI 1)])), (mh, .inr (0, [.ref kr, .ref h, .ref kq, .ref fq, .ref bq, .ref gq, .int (nI rcv), .int (nI ncl), .int (nI bl), .int (nI rd), .int (nI hd), .int (nI jn), .int (nI sn)])), (bq, .inl (cI, 24, .inl (fun j => nI (bs j)))), (gq, .inl (cI, 25, .inl (fun j => nI (u j)))), (kr, .inr (1, [.ref r1, .ref r2, .ref r3, .ref r4])), (r1, .inl (cI, 25, .inl sz)), (r2, .inl (cI, 25, .inl lf)), (r3, .inl (cI, 25, .inl rt)), (r4, .inl (cI, 25, .inl tr)), (h, .inr (2, [.ref q1, .ref q2, .ref q3, .ref q4, .ref q5, .ref q6, .ref q7, .int (nI mk), .int (nI sv)])), (q1, .inl (cI, n, .inl (fun j => nI (pa j)))), (q2, .inl (cI, n, .inl (fun j => nI (ch j)))), (q3, .inl (cI, n, .inl (fun j => nI (kd j)))), (q4, .inl (cI, n, .inl (fun j => nI (ad j)))), (q5, .inl (cI, n, .inl (fun j => nI (ra j)))), (q6, .inl (cI, n, .inl (fun j => nI (su j)))), (q7, .inl (cI, n, .inl (fun j => nI (un j))))]) 0 0 := by
  intro sz
  refine Met.ofW (cc := cX3_room) (maxL := 2) (ret := (some .int)) (by decide) rfl ?_
  intro p e s m args below meth c s₁ B hml hv
  obtain ⟨rfl, hsz, hP, hk, hD0⟩ := hv
  subst hsz
  have hx := B.exec
  have hb := B.bytes
  have hr := B.returns
  have hts := atoms_spec (ws := wsX3_room) B.pre
  have hown : s.vm.findClass RX3 = some m.cls := findClass_of_methodNamed B.named
  have hlocks := B.notSynchronized
  have hK := hk.1
  have hinX3 : ∀ w ∈ wsX30, w ∈ wsX3_room := by decide +kernel
  obtain ⟨A, hAe⟩ : ∃ A, va_A [(x, .inr (3, [.ref tk, .ref mh, .ref sc, .ref ga, .int (nI 1)])), (mh, .inr (0, [.ref kr, .ref h, .ref kq, .ref fq, .ref bq, .ref gq, .int (nI rcv), .int (nI ncl), .int (nI bl), .int (nI rd), .int (nI hd), .int (nI jn), .int (nI sn)])), (bq, .inl (cI, 24, .inl (fun j => nI (bs j)))), (gq, .inl (cI, 25, .inl (fun j => nI (gs0 j)))), (kr, .inr (1, [.ref r1, .ref r2, .ref r3, .ref r4])), (r1, .inl (cI, 25, .inl sz)), (r2, .inl (cI, 25, .inl lf)), (r3, .inl (cI, 25, .inl rt)), (r4, .inl (cI, 25, .inl tr)), (h, .inr (2, [.ref q1, .ref q2, .ref q3, .ref q4, .ref q5, .ref q6, .ref q7, .int (nI mk), .int (nI sv)])), (q1, .inl (cI, n, .inl (fun j => nI (pa j)))), (q2, .inl (cI, n, .inl (fun j => nI (ch j)))), (q3, .inl (cI, n, .inl (fun j => nI (kd j)))), (q4, .inl (cI, n, .inl (fun j => nI (ad j)))), (q5, .inl (cI, n, .inl (fun j => nI (ra j)))), (q6, .inl (cI, n, .inl (fun j => nI (su j)))), (q7, .inl (cI, n, .inl (fun j => nI (un j))))] s.heap.size = A := ⟨_, rfl⟩
  have hD := hD0.self (sz := s.heap.size)
  rw [hAe] at hD
  have hA : ∀ q : Nat, s.heap.size ≤ q → A q := fun q h => by rw [← hAe]; exact Or.inr h
  have hS : va_S A s.heap s.heap [] := va_S.rf
  have hl := lv_entry ([.ref x, .int (nI w)]) (n := 2) (Nat.le_of_ble_eq_true rfl)
  rw [lg_entry_eq]
  generalize (lg_sl ([.ref x, .int (nI w)]) ++ List.replicate (2 - (lg_sl ([.ref x, .int (nI w)])).length) Slot.unset).toArray = ls at hl ⊢
  have hl : lv_has ls 2 [(0, .ref x), (1, .int (nI w))] := hl
  refine lv_aload_n hx hb dX3_room_0 rfl (lv_at hl 0 rfl) ?_
  refine k_goV (wr := [(mh, .inr (0, [.ref kr, .ref h, .ref kq, .ref fq, .ref bq, .ref gq, .int (nI rcv), .int (nI ncl), .int (nI bl), .int (nI rd), .int (nI hd), .int (nI jn), .int (nI sn)])), (bq, .inl (cI, 24, .inl (fun j => nI (bs j)))), (gq, .inl (cI, 25, .inl (fun j => nI (gs0 j)))), (kr, .inr (1, [.ref r1, .ref r2, .ref r3, .ref r4])), (r1, .inl (cI, 25, .inl sz)), (r2, .inl (cI, 25, .inl lf)), (r3, .inl (cI, 25, .inl rt)), (r4, .inl (cI, 25, .inl tr)), (h, .inr (2, [.ref q1, .ref q2, .ref q3, .ref q4, .ref q5, .ref q6, .ref q7, .int (nI mk), .int (nI sv)])), (q1, .inl (cI, n, .inl (fun j => nI (pa j)))), (q2, .inl (cI, n, .inl (fun j => nI (ch j)))), (q3, .inl (cI, n, .inl (fun j => nI (kd j)))), (q4, .inl (cI, n, .inl (fun j => nI (ad j)))), (q5, .inl (cI, n, .inl (fun j => nI (ra j)))), (q6, .inl (cI, n, .inl (fun j => nI (su j)))), (q7, .inl (cI, n, .inl (fun j => nI (un j))))]) (va_runV (As := []) (rest := []) ⟨hx, hb, hml, hown, hts⟩ (c_X3_requireMemory l g cI cJ cZ x tk sc ga mh   _) (cwV 0 hts gX3_room_X3_requireMemory rfl rfl rfl (by decide +kernel) ⟨Nat.le_of_ble_eq_true rfl, Nat.le_of_ble_eq_true rfl⟩) (k_preV hk hP hD [0] rfl rfl (ci := 3) (q0 := 0) rfl rfl) rfl rfl hl.1 rfl (lv_room (Nat.le_of_ble_eq_true rfl)) dX3_room_1 ⟨by first | exact Nat.zero_le _ | omega, by first | exact Nat.zero_le _ | omega⟩) hP hD hS hA [0] [1, 2, 3, 4, 5, 6, 7, 8, 9, 10, 11, 12, 13, 14, 15, 16] rfl rfl rfl (by decide) (fun _ H locs hu hP hD hS => ?_)
  have hP : va_P g vwCl [(mh, .inr (0, [.ref kr, .ref h, .ref kq, .ref fq, .ref bq, .ref gq, .int (nI rcv), .int (nI ncl), .int (nI bl), .int (nI rd), .int (nI hd), .int (nI jn), .int (nI sn)])), (bq, .inl (cI, 24, .inl (fun j => nI (bs j)))), (gq, .inl (cI, 25, .inl (fun j => nI (gs0 j)))), (kr, .inr (1, [.ref r1, .ref r2, .ref r3, .ref r4])), (r1, .inl (cI, 25, .inl sz)), (r2, .inl (cI, 25, .inl lf)), (r3, .inl (cI, 25, .inl rt)), (r4, .inl (cI, 25, .inl tr)), (h, .inr (2, [.ref q1, .ref q2, .ref q3, .ref q4, .ref q5, .ref q6, .ref q7, .int (nI mk), .int (nI sv)])), (q1, .inl (cI, n, .inl (fun j => nI (pa j)))), (q2, .inl (cI, n, .inl (fun j => nI (ch j)))), (q3, .inl (cI, n, .inl (fun j => nI (kd j)))), (q4, .inl (cI, n, .inl (fun j => nI (ad j)))), (q5, .inl (cI, n, .inl (fun j => nI (ra j)))), (q6, .inl (cI, n, .inl (fun j => nI (su j)))), (q7, .inl (cI, n, .inl (fun j => nI (un j)))), (x, .inr (3, [.ref tk, .ref mh, .ref sc, .ref ga, .int (nI 1)]))] H := hP
  have hD : va_D A [(mh, .inr (0, [.ref kr, .ref h, .ref kq, .ref fq, .ref bq, .ref gq, .int (nI rcv), .int (nI ncl), .int (nI bl), .int (nI rd), .int (nI hd), .int (nI jn), .int (nI sn)])), (bq, .inl (cI, 24, .inl (fun j => nI (bs j)))), (gq, .inl (cI, 25, .inl (fun j => nI (gs0 j)))), (kr, .inr (1, [.ref r1, .ref r2, .ref r3, .ref r4])), (r1, .inl (cI, 25, .inl sz)), (r2, .inl (cI, 25, .inl lf)), (r3, .inl (cI, 25, .inl rt)), (r4, .inl (cI, 25, .inl tr)), (h, .inr (2, [.ref q1, .ref q2, .ref q3, .ref q4, .ref q5, .ref q6, .ref q7, .int (nI mk), .int (nI sv)])), (q1, .inl (cI, n, .inl (fun j => nI (pa j)))), (q2, .inl (cI, n, .inl (fun j => nI (ch j)))), (q3, .inl (cI, n, .inl (fun j => nI (kd j)))), (q4, .inl (cI, n, .inl (fun j => nI (ad j)))), (q5, .inl (cI, n, .inl (fun j => nI (ra j)))), (q6, .inl (cI, n, .inl (fun j => nI (su j)))), (q7, .inl (cI, n, .inl (fun j => nI (un j)))), (x, .inr (3, [.ref tk, .ref mh, .ref sc, .ref ga, .int (nI 1)]))] := hD
  refine lv_iload_n hx hb dX3_room_4 rfl (lv_at hl 1 rfl) ?_
  refine k_goV (wr := [(mh, .inr (0, [.ref kr, .ref h, .ref kq, .ref fq, .ref bq, .ref gq, .int (nI rcv), .int (nI ncl), .int (nI bl), .int (nI rd), .int (nI hd), .int (nI jn), .int (nI sn)])), (bq, .inl (cI, 24, .inl (fun j => nI (bs j)))), (gq, .inl (cI, 25, .inl (fun j => nI (gs0 j)))), (kr, .inr (1, [.ref r1, .ref r2, .ref r3, .ref r4])), (r1, .inl (cI, 25, .inl sz)), (r2, .inl (cI, 25, .inl lf)), (r3, .inl (cI, 25, .inl rt)), (r4, .inl (cI, 25, .inl tr)), (h, .inr (2, [.ref q1, .ref q2, .ref q3, .ref q4, .ref q5, .ref q6, .ref q7, .int (nI mk), .int (nI sv)])), (q1, .inl (cI, n, .inl (fun j => nI (pa j)))), (q2, .inl (cI, n, .inl (fun j => nI (ch j)))), (q3, .inl (cI, n, .inl (fun j => nI (kd j)))), (q4, .inl (cI, n, .inl (fun j => nI (ad j)))), (q5, .inl (cI, n, .inl (fun j => nI (ra j)))), (q6, .inl (cI, n, .inl (fun j => nI (su j)))), (q7, .inl (cI, n, .inl (fun j => nI (un j)))), (x, .inr (3, [.ref tk, .ref mh, .ref sc, .ref ga, .int (nI 1)]))]) (va_runS (As := [.int (nI w)]) (rest := []) ⟨hx, hb, hml, hown, hts⟩ (c_X3_requireWords l g cI cJ cZ  (nI w) (nI_le hw1 hw) _) (va_cwS 1 hts gX3_room_X3_requireWords rfl rfl rfl (by decide +kernel) ⟨Nat.le_of_ble_eq_true rfl, Nat.le_of_ble_eq_true rfl⟩) (k_preS hk hP hD [] rfl rfl) rfl rfl hl.1 rfl (lv_room (Nat.le_of_ble_eq_true rfl)) dX3_room_5 ⟨by first | exact Nat.zero_le _ | omega, by first | exact Nat.zero_le _ | omega⟩) hP hD hS hA [] [0, 1, 2, 3, 4, 5, 6, 7, 8, 9, 10, 11, 12, 13, 14, 15, 16] rfl rfl rfl (by decide) (fun _ H locs hu hP hD hS => ?_)
  have hP : va_P g vwCl [(mh, .inr (0, [.ref kr, .ref h, .ref kq, .ref fq, .ref bq, .ref gq, .int (nI rcv), .int (nI ncl), .int (nI bl), .int (nI rd), .int (nI hd), .int (nI jn), .int (nI sn)])), (bq, .inl (cI, 24, .inl (fun j => nI (bs j)))), (gq, .inl (cI, 25, .inl (fun j => nI (gs0 j)))), (kr, .inr (1, [.ref r1, .ref r2, .ref r3, .ref r4])), (r1, .inl (cI, 25, .inl sz)), (r2, .inl (cI, 25, .inl lf)), (r3, .inl (cI, 25, .inl rt)), (r4, .inl (cI, 25, .inl tr)), (h, .inr (2, [.ref q1, .ref q2, .ref q3, .ref q4, .ref q5, .ref q6, .ref q7, .int (nI mk), .int (nI sv)])), (q1, .inl (cI, n, .inl (fun j => nI (pa j)))), (q2, .inl (cI, n, .inl (fun j => nI (ch j)))), (q3, .inl (cI, n, .inl (fun j => nI (kd j)))), (q4, .inl (cI, n, .inl (fun j => nI (ad j)))), (q5, .inl (cI, n, .inl (fun j => nI (ra j)))), (q6, .inl (cI, n, .inl (fun j => nI (su j)))), (q7, .inl (cI, n, .inl (fun j => nI (un j)))), (x, .inr (3, [.ref tk, .ref mh, .ref sc, .ref ga, .int (nI 1)]))] H := hP
  have hD : va_D A [(mh, .inr (0, [.ref kr, .ref h, .ref kq, .ref fq, .ref bq, .ref gq, .int (nI rcv), .int (nI ncl), .int (nI bl), .int (nI rd), .int (nI hd), .int (nI jn), .int (nI sn)])), (bq, .inl (cI, 24, .inl (fun j => nI (bs j)))), (gq, .inl (cI, 25, .inl (fun j => nI (gs0 j)))), (kr, .inr (1, [.ref r1, .ref r2, .ref r3, .ref r4])), (r1, .inl (cI, 25, .inl sz)), (r2, .inl (cI, 25, .inl lf)), (r3, .inl (cI, 25, .inl rt)), (r4, .inl (cI, 25, .inl tr)), (h, .inr (2, [.ref q1, .ref q2, .ref q3, .ref q4, .ref q5, .ref q6, .ref q7, .int (nI mk), .int (nI sv)])), (q1, .inl (cI, n, .inl (fun j => nI (pa j)))), (q2, .inl (cI, n, .inl (fun j => nI (ch j)))), (q3, .inl (cI, n, .inl (fun j => nI (kd j)))), (q4, .inl (cI, n, .inl (fun j => nI (ad j)))), (q5, .inl (cI, n, .inl (fun j => nI (ra j)))), (q6, .inl (cI, n, .inl (fun j => nI (su j)))), (q7, .inl (cI, n, .inl (fun j => nI (un j)))), (x, .inr (3, [.ref tk, .ref mh, .ref sc, .ref ga, .int (nI 1)]))] := hD
  refine lv_aload_n hx hb dX3_room_8 rfl (lv_at hl 0 rfl) ?_
  refine va_get (D := g) (ci := 3) (v := .ref mh) (C := RX3) (T := TX3) (N := 5) hx hb hts hinX3 hown hK hP 16 rfl rfl 1 (by decide) (hts (.fieldLink RX3 19 "BuddyRoof" "memory" "LBuddyRoof$Memory;") (by decide +kernel)) (fun _ h9 => h9) rfl dX3_room_9 ?_
  refine lv_iload_n hx hb dX3_room_12 rfl (lv_at hl 1 rfl) ?_
  refine k_goI (wr := [(x, .inr (3, [.ref tk, .ref mh, .ref sc, .ref ga, .int (nI 1)]))]) (va_runV (As := [.int (nI w)]) (rest := []) ⟨hx, hb, hml, hown, hts⟩ (c_X0_grantsLeft l g cI cJ cZ mh kr kq fq bq gq rcv ncl bl rd hd jn sn fo bs gs0 r1 r2 r3 r4 sz lf rt tr h q1 q2 q3 q4 q5 q6 q7 n pa ch kd ad ra su un mk sv top S L R rc sp rq nu w  hn hR hrl hbo hI hw1 hw hgs0 _) (cwV 1 hts gX3_room_X0_grantsLeft rfl rfl rfl (by decide +kernel) ⟨Nat.le_of_ble_eq_true rfl, Nat.le_of_ble_eq_true rfl⟩) (k_preV hk hP hD [0, 1, 2, 3, 4, 5, 6, 7, 8, 9, 10, 11, 12, 13, 14, 15] rfl rfl (ci := 0) (q0 := 0) rfl rfl) rfl rfl hl.1 rfl (lv_room (Nat.le_of_ble_eq_true rfl)) dX3_room_13 ⟨by first | exact Nat.zero_le _ | omega, by first | exact Nat.zero_le _ | omega⟩) hP hD hS hA [0, 1, 2, 3, 4, 5, 6, 7, 8, 9, 10, 11, 12, 13, 14, 15] [16] rfl rfl rfl (by decide) (fun rv u H locs hu hP hD hS => ?_)
  obtain ⟨hrv, hu0⟩ := hu
  subst hrv
  have hP : va_P g vwCl [(x, .inr (3, [.ref tk, .ref mh, .ref sc, .ref ga, .int (nI 1)])), (mh, .inr (0, [.ref kr, .ref h, .ref kq, .ref fq, .ref bq, .ref gq, .int (nI rcv), .int (nI ncl), .int (nI bl), .int (nI rd), .int (nI hd), .int (nI jn), .int (nI sn)])), (bq, .inl (cI, 24, .inl (fun j => nI (bs j)))), (gq, .inl (cI, 25, .inl (fun j => nI (u j)))), (kr, .inr (1, [.ref r1, .ref r2, .ref r3, .ref r4])), (r1, .inl (cI, 25, .inl sz)), (r2, .inl (cI, 25, .inl lf)), (r3, .inl (cI, 25, .inl rt)), (r4, .inl (cI, 25, .inl tr)), (h, .inr (2, [.ref q1, .ref q2, .ref q3, .ref q4, .ref q5, .ref q6, .ref q7, .int (nI mk), .int (nI sv)])), (q1, .inl (cI, n, .inl (fun j => nI (pa j)))), (q2, .inl (cI, n, .inl (fun j => nI (ch j)))), (q3, .inl (cI, n, .inl (fun j => nI (kd j)))), (q4, .inl (cI, n, .inl (fun j => nI (ad j)))), (q5, .inl (cI, n, .inl (fun j => nI (ra j)))), (q6, .inl (cI, n, .inl (fun j => nI (su j)))), (q7, .inl (cI, n, .inl (fun j => nI (un j))))] H := hP
  have hD : va_D A [(x, .inr (3, [.ref tk, .ref mh, .ref sc, .ref ga, .int (nI 1)])), (mh, .inr (0, [.ref kr, .ref h, .ref kq, .ref fq, .ref bq, .ref gq, .int (nI rcv), .int (nI ncl), .int (nI bl), .int (nI rd), .int (nI hd), .int (nI jn), .int (nI sn)])), (bq, .inl (cI, 24, .inl (fun j => nI (bs j)))), (gq, .inl (cI, 25, .inl (fun j => nI (u j)))), (kr, .inr (1, [.ref r1, .ref r2, .ref r3, .ref r4])), (r1, .inl (cI, 25, .inl sz)), (r2, .inl (cI, 25, .inl lf)), (r3, .inl (cI, 25, .inl rt)), (r4, .inl (cI, 25, .inl tr)), (h, .inr (2, [.ref q1, .ref q2, .ref q3, .ref q4, .ref q5, .ref q6, .ref q7, .int (nI mk), .int (nI sv)])), (q1, .inl (cI, n, .inl (fun j => nI (pa j)))), (q2, .inl (cI, n, .inl (fun j => nI (ch j)))), (q3, .inl (cI, n, .inl (fun j => nI (kd j)))), (q4, .inl (cI, n, .inl (fun j => nI (ad j)))), (q5, .inl (cI, n, .inl (fun j => nI (ra j)))), (q6, .inl (cI, n, .inl (fun j => nI (su j)))), (q7, .inl (cI, n, .inl (fun j => nI (un j))))] := hD
  have hP := hP.sub (ws' := [(x, .inr (3, [.ref tk, .ref mh, .ref sc, .ref ga, .int (nI 1)])), (mh, .inr (0, [.ref kr, .ref h, .ref kq, .ref fq, .ref bq, .ref gq, .int (nI rcv), .int (nI ncl), .int (nI bl), .int (nI rd), .int (nI hd), .int (nI jn), .int (nI sn)])), (bq, .inl (cI, 24, .inl (fun j => nI (bs j)))), (gq, .inl (cI, 25, .inl (fun j => nI (u j)))), (kr, .inr (1, [.ref r1, .ref r2, .ref r3, .ref r4])), (r1, .inl (cI, 25, .inl sz)), (r2, .inl (cI, 25, .inl lf)), (r3, .inl (cI, 25, .inl rt)), (r4, .inl (cI, 25, .inl tr)), (h, .inr (2, [.ref q1, .ref q2, .ref q3, .ref q4, .ref q5, .ref q6, .ref q7, .int (nI mk), .int (nI sv)])), (q1, .inl (cI, n, .inl (fun j => nI (pa j)))), (q2, .inl (cI, n, .inl (fun j => nI (ch j)))), (q3, .inl (cI, n, .inl (fun j => nI (kd j)))), (q4, .inl (cI, n, .inl (fun j => nI (ad j)))), (q5, .inl (cI, n, .inl (fun j => nI (ra j)))), (q6, .inl (cI, n, .inl (fun j => nI (su j)))), (q7, .inl (cI, n, .inl (fun j => nI (un j))))]) [0, 1, 2, 3, 4, 5, 6, 7, 8, 9, 10, 11, 12, 13, 14, 15, 16] rfl
  have hD := hD.sub (ws' := [(x, .inr (3, [.ref tk, .ref mh, .ref sc, .ref ga, .int (nI 1)])), (mh, .inr (0, [.ref kr, .ref h, .ref kq, .ref fq, .ref bq, .ref gq, .int (nI rcv), .int (nI ncl), .int (nI bl), .int (nI rd), .int (nI hd), .int (nI jn), .int (nI sn)])), (bq, .inl (cI, 24, .inl (fun j => nI (bs j)))), (gq, .inl (cI, 25, .inl (fun j => nI (u j)))), (kr, .inr (1, [.ref r1, .ref r2, .ref r3, .ref r4])), (r1, .inl (cI, 25, .inl sz)), (r2, .inl (cI, 25, .inl lf)), (r3, .inl (cI, 25, .inl rt)), (r4, .inl (cI, 25, .inl tr)), (h, .inr (2, [.ref q1, .ref q2, .ref q3, .ref q4, .ref q5, .ref q6, .ref q7, .int (nI mk), .int (nI sv)])), (q1, .inl (cI, n, .inl (fun j => nI (pa j)))), (q2, .inl (cI, n, .inl (fun j => nI (ch j)))), (q3, .inl (cI, n, .inl (fun j => nI (kd j)))), (q4, .inl (cI, n, .inl (fun j => nI (ad j)))), (q5, .inl (cI, n, .inl (fun j => nI (ra j)))), (q6, .inl (cI, n, .inl (fun j => nI (su j)))), (q7, .inl (cI, n, .inl (fun j => nI (un j))))]) [0, 1, 2, 3, 4, 5, 6, 7, 8, 9, 10, 11, 12, 13, 14, 15, 16] rfl rfl
  refine W.widen (k := 0) (n := 0) (by first | exact Nat.le_refl _ | omega) (by first | exact Nat.le_refl _ | omega) ?_
  exact k_retI (sz := 0) (v := nI (rT S L R (cls top L R) sp rq w 1)) hx hb hr hlocks hAe hS hP hD u (rfl) (⟨rfl, hu0⟩) dX3_room_16
set_option maxHeartbeats 4000000 in
set_option maxRecDepth 100000 in
theorem c_X3_room_tM (l : Launch) (g : va_G) (cI cJ cZ : ClassId) (hst : l.stackTraces = false) (x tk sc ga : Nat) (mh : Nat) (v : Int32)  : kT l g (kty cI cJ cZ) yX3_room wsX3_room ({ frames := 7, cells := 1, slots := 6, locals := 110 }) [.ref x, .int v] [(x, .inr (3, [.ref tk, .ref mh, .ref sc, .ref ga, .int (nI 0)]))] [(x, .inr (3, [.ref tk, .ref mh, .ref sc, .ref ga, .int (nI 0)]))] xI := by
  intro sz
  refine vx_ofW (cc := cX3_room) (maxL := 2) (ret := (some .int)) (by decide) rfl ?_
  intro p e s m args below meth c s₁ B hml htab hv
  obtain ⟨rfl, ⟨hsz, hP, hk, hD0⟩, hxT, hxZ⟩ := hv
  subst hsz
  have hx := B.exec
  have hb := B.bytes
  have hr := B.returns
  have hts := atoms_spec (ws := wsX3_room) B.pre
  have hown : s.vm.findClass RX3 = some m.cls := findClass_of_methodNamed B.named
  have hlocks := B.notSynchronized
  have hK := hk.1
  obtain ⟨A, hAe⟩ : ∃ A, va_A [(x, .inr (3, [.ref tk, .ref mh, .ref sc, .ref ga, .int (nI 0)]))] s.heap.size = A := ⟨_, rfl⟩
  have hD := hD0.self (sz := s.heap.size)
  rw [hAe] at hD hxZ
  have hA : ∀ q : Nat, s.heap.size ≤ q → A q := fun q h => by rw [← hAe]; exact Or.inr h
  have hS : va_S A s.heap s.heap [] := va_S.rf
  have hl := lv_entry ([.ref x, .int v]) (n := 2) (Nat.le_of_ble_eq_true rfl)
  rw [lg_entry_eq]
  generalize (lg_sl ([.ref x, .int v]) ++ List.replicate (2 - (lg_sl ([.ref x, .int v])).length) Slot.unset).toArray = ls at hl ⊢
  have hl : lv_has ls 2 [(0, .ref x), (1, .int v)] := hl
  refine lv_aload_n hx hb dX3_room_0 rfl (lv_at hl 0 rfl) ?_
  refine k_goT (wr := []) (vx_runV (As := []) (rest := []) ⟨hx, hb, hml, hown, hts⟩ (c_X3_requireMemory_t l g cI cJ cZ hst x tk sc ga mh   _) (cwV 0 hts gX3_room_X3_requireMemory rfl rfl rfl (by decide +kernel) ⟨Nat.le_of_ble_eq_true rfl, Nat.le_of_ble_eq_true rfl⟩) (k_preVx hk hxT (hxZ.kept (fun a h1 h2 => hS.2.1 a h1 h2)) hP hD hS hA [0] rfl rfl (ci := 3) (q0 := 0) rfl rfl) rfl rfl hl.1 rfl (lv_room (Nat.le_of_ble_eq_true rfl)) dX3_room_1 ⟨Nat.le_of_ble_eq_true rfl, Nat.le_of_ble_eq_true rfl⟩) hP hD hS hA [0] [] rfl rfl rfl (by decide) (fun ce q9 H locs hP hD hS hkp hce hcv hcl => ?_)
  have hP : va_P g vwCl [(x, .inr (3, [.ref tk, .ref mh, .ref sc, .ref ga, .int (nI 0)]))] H := hP
  have hD : va_D A [(x, .inr (3, [.ref tk, .ref mh, .ref sc, .ref ga, .int (nI 0)]))] := hD
  exact k_out htab hlocks hce hcv hcl (hP.sub [0] rfl) (hD.sub [0] rfl rfl) hAe hS (Nat.le_refl _) (Nat.le_refl _)
set_option maxHeartbeats 4000000 in
set_option maxRecDepth 100000 in
theorem c_X3_room_tA (l : Launch) (g : va_G) (cI cJ cZ : ClassId) (hst : l.stackTraces = false) (x tk sc ga : Nat) (mh : Nat) (v : Int32) (hv : ¬ nI 1 ≤ v) : kT l g (kty cI cJ cZ) yX3_room wsX3_room ({ frames := 7, cells := 1, slots := 6, locals := 110 }) [.ref x, .int v] [(x, .inr (3, [.ref tk, .ref mh, .ref sc, .ref ga, .int (nI 1)]))] [(x, .inr (3, [.ref tk, .ref mh, .ref sc, .ref ga, .int (nI 1)]))] xA := by
  intro sz
  refine vx_ofW (cc := cX3_room) (maxL := 2) (ret := (some .int)) (by decide) rfl ?_
  intro p e s m args below meth c s₁ B hml htab hv
  obtain ⟨rfl, ⟨hsz, hP, hk, hD0⟩, hxT, hxZ⟩ := hv
  subst hsz
  have hx := B.exec
  have hb := B.bytes
  have hr := B.returns
  have hts := atoms_spec (ws := wsX3_room) B.pre
  have hown : s.vm.findClass RX3 = some m.cls := findClass_of_methodNamed B.named
  have hlocks := B.notSynchronized
  have hK := hk.1
  obtain ⟨A, hAe⟩ : ∃ A, va_A [(x, .inr (3, [.ref tk, .ref mh, .ref sc, .ref ga, .int (nI 1)]))] s.heap.size = A := ⟨_, rfl⟩
  have hD := hD0.self (sz := s.heap.size)
  rw [hAe] at hD hxZ
  have hA : ∀ q : Nat, s.heap.size ≤ q → A q := fun q h => by rw [← hAe]; exact Or.inr h
  have hS : va_S A s.heap s.heap [] := va_S.rf
  have hl := lv_entry ([.ref x, .int v]) (n := 2) (Nat.le_of_ble_eq_true rfl)
  rw [lg_entry_eq]
  generalize (lg_sl ([.ref x, .int v]) ++ List.replicate (2 - (lg_sl ([.ref x, .int v])).length) Slot.unset).toArray = ls at hl ⊢
  have hl : lv_has ls 2 [(0, .ref x), (1, .int v)] := hl
  refine lv_aload_n hx hb dX3_room_0 rfl (lv_at hl 0 rfl) ?_
  refine k_goV (wr := []) (va_runV (As := []) (rest := []) ⟨hx, hb, hml, hown, hts⟩ (c_X3_requireMemory l g cI cJ cZ x tk sc ga mh   _) (cwV 0 hts gX3_room_X3_requireMemory rfl rfl rfl (by decide +kernel) ⟨Nat.le_of_ble_eq_true rfl, Nat.le_of_ble_eq_true rfl⟩) (k_preV hk hP hD [0] rfl rfl (ci := 3) (q0 := 0) rfl rfl) rfl rfl hl.1 rfl (lv_room (Nat.le_of_ble_eq_true rfl)) dX3_room_1 ⟨by first | exact Nat.zero_le _ | omega, by first | exact Nat.zero_le _ | omega⟩) hP hD hS hA [0] [] rfl rfl rfl (by decide) (fun _ H locs hu hP hD hS => ?_)
  have hP : va_P g vwCl [(x, .inr (3, [.ref tk, .ref mh, .ref sc, .ref ga, .int (nI 1)]))] H := hP
  have hD : va_D A [(x, .inr (3, [.ref tk, .ref mh, .ref sc, .ref ga, .int (nI 1)]))] := hD
  refine lv_iload_n hx hb dX3_room_4 rfl (lv_at hl 1 rfl) ?_
  refine k_goT (wr := [(x, .inr (3, [.ref tk, .ref mh, .ref sc, .ref ga, .int (nI 1)]))]) (vx_runS (As := [.int v]) (rest := []) ⟨hx, hb, hml, hown, hts⟩ (c_X3_requireWords_t l g cI cJ cZ hst  v hv _) (va_cwS 1 hts gX3_room_X3_requireWords rfl rfl rfl (by decide +kernel) ⟨Nat.le_of_ble_eq_true rfl, Nat.le_of_ble_eq_true rfl⟩) (k_preSx hk hxT (hxZ.kept (fun a h1 h2 => hS.2.1 a h1 h2)) hP hD hS hA [] rfl rfl) rfl rfl hl.1 rfl (lv_room (Nat.le_of_ble_eq_true rfl)) dX3_room_5 ⟨Nat.le_of_ble_eq_true rfl, Nat.le_of_ble_eq_true rfl⟩) hP hD hS hA [] [0] rfl rfl rfl (by decide) (fun ce q9 H locs hP hD hS hkp hce hcv hcl => ?_)
  have hP : va_P g vwCl [(x, .inr (3, [.ref tk, .ref mh, .ref sc, .ref ga, .int (nI 1)]))] H := hP
  have hD : va_D A [(x, .inr (3, [.ref tk, .ref mh, .ref sc, .ref ga, .int (nI 1)]))] := hD
  exact k_out htab hlocks hce hcv hcl (hP.sub [0] rfl) (hD.sub [0] rfl rfl) hAe hS (Nat.le_refl _) (Nat.le_refl _)
set_option maxHeartbeats 4000000 in
set_option maxRecDepth 100000 in
theorem c_X3_load (l : Launch) (g : va_G) (cI cJ cZ : ClassId) (x tk sc ga : Nat) (mh bu : Nat) (scr : Nat → Int32) (i : Nat) (v : Int32) (hi : i < 256) : kV l g (kty cI cJ cZ) yX3_load wsX3_load ({ frames := 0, cells := 0, slots := 0, locals := 0 }) [.ref x, .int (nI i), .int v] [(x, .inr (3, [.ref tk, .ref mh, .ref sc, .ref ga, .int (nI bu)])), (sc, .inl (cI, 256, .inl scr))] (S := Unit) (fun _ => True) (fun u => [(x, .inr (3, [.ref tk, .ref mh, .ref sc, .ref ga, .int (nI bu)])), (sc, .inl (cI, 256, .inl (upd scr i v)))]) 0 0 := by
  intro sz
  refine Met.ofW (cc := cX3_load) (maxL := 3) (ret := none) (by decide) rfl ?_
  intro p e s m args below meth c s₁ B hml hv
  obtain ⟨rfl, hsz, hP, hk, hD0⟩ := hv
  subst hsz
  have hx := B.exec
  have hb := B.bytes
  have hr := B.returns
  have hts := atoms_spec (ws := wsX3_load) B.pre
  have hown : s.vm.findClass RX3 = some m.cls := findClass_of_methodNamed B.named
  have hlocks := B.notSynchronized
  have hK := hk.1
  have hinX3 : ∀ w ∈ wsX30, w ∈ wsX3_load := by decide +kernel
  obtain ⟨A, hAe⟩ : ∃ A, va_A [(x, .inr (3, [.ref tk, .ref mh, .ref sc, .ref ga, .int (nI bu)])), (sc, .inl (cI, 256, .inl scr))] s.heap.size = A := ⟨_, rfl⟩
  have hD := hD0.self (sz := s.heap.size)
  rw [hAe] at hD
  have hA : ∀ q : Nat, s.heap.size ≤ q → A q := fun q h => by rw [← hAe]; exact Or.inr h
  have hS : va_S A s.heap s.heap [] := va_S.rf
  have hl := lv_entry ([.ref x, .int (nI i), .int v]) (n := 3) (Nat.le_of_ble_eq_true rfl)
  rw [lg_entry_eq]
  generalize (lg_sl ([.ref x, .int (nI i), .int v]) ++ List.replicate (3 - (lg_sl ([.ref x, .int (nI i), .int v])).length) Slot.unset).toArray = ls at hl ⊢
  have hl : lv_has ls 3 [(0, .ref x), (1, .int (nI i)), (2, .int v)] := hl
  refine lv_iload_n hx hb dX3_load_0 rfl (lv_at hl 1 rfl) ?_
  refine n_if_lt (tgt := 11) hx hb dX3_load_1 (by decide) (by first | assumption | omega) ?_
  refine lv_iload_n hx hb dX3_load_4 rfl (lv_at hl 1 rfl) ?_
  refine lv_sipush (v := nI 256) hx hb dX3_load_5 (by decide) ?_
  refine n_icmp_lt (tgt := 21) hx hb dX3_load_8 (by decide) (by first | assumption | omega) (by first | assumption | omega) (fun c2 => ?_) (fun c2 => ?_)
  · skip
    refine lv_aload_n hx hb dX3_load_21 rfl (lv_at hl 0 rfl) ?_
    refine va_get (D := g) (ci := 3) (v := .ref sc) (C := RX3) (T := TX3) (N := 5) hx hb hts hinX3 hown hK hP 0 rfl rfl 2 (by decide) (hts (.fieldLink RX3 23 "BuddyRoof" "script" "[I") (by decide +kernel)) (fun _ h9 => h9) rfl dX3_load_22 ?_
    refine lv_iload_n hx hb dX3_load_25 rfl (lv_at hl 1 rfl) ?_
    refine lv_iload_n hx hb dX3_load_26 rfl (lv_at hl 2 rfl) ?_
    refine n_astI hx hb hK hP hD hS 1 0 rfl rfl (i := i) (v := v) (by omega) (by decide) dX3_load_27 (fun H locs hP hD hS => ?_)
    have hP : va_P g vwCl [(x, .inr (3, [.ref tk, .ref mh, .ref sc, .ref ga, .int (nI bu)])), (sc, .inl (cI, 256, .inl (upd scr i v)))] H := hP
    have hD : va_D A [(x, .inr (3, [.ref tk, .ref mh, .ref sc, .ref ga, .int (nI bu)])), (sc, .inl (cI, 256, .inl (upd scr i v)))] := hD
    refine W.widen (k := 0) (n := 0) (by first | exact Nat.le_refl _ | omega) (by first | exact Nat.le_refl _ | omega) ?_
    exact k_retV (sz := 0) hx hb hr hlocks hAe hS hP hD () (rfl) (trivial) dX3_load_28
  · exact (by exfalso; omega)
set_option maxHeartbeats 4000000 in
set_option maxRecDepth 100000 in
theorem c_X3_load_tA (l : Launch) (g : va_G) (cI cJ cZ : ClassId) (hst : l.stackTraces = false) (x tk sc ga : Nat) (mh bu : Nat) (v v2 : Int32) (hv : v < 0 ∨ ¬ v < nI 256) : kT l g (kty cI cJ cZ) yX3_load wsX3_load ({ frames := 6, cells := 1, slots := 6, locals := 90 }) [.ref x, .int v, .int v2] [(x, .inr (3, [.ref tk, .ref mh, .ref sc, .ref ga, .int (nI bu)]))] [(x, .inr (3, [.ref tk, .ref mh, .ref sc, .ref ga, .int (nI bu)]))] xA := by
  intro sz
  refine vx_ofW (cc := cX3_load) (maxL := 3) (ret := none) (by decide) rfl ?_
  intro p e s m args below meth c s₁ B hml htab hv
  obtain ⟨rfl, ⟨hsz, hP, hk, hD0⟩, hxT, hxZ⟩ := hv
  subst hsz
  have hx := B.exec
  have hb := B.bytes
  have hr := B.returns
  have hts := atoms_spec (ws := wsX3_load) B.pre
  have hown : s.vm.findClass RX3 = some m.cls := findClass_of_methodNamed B.named
  have hlocks := B.notSynchronized
  have hK := hk.1
  obtain ⟨A, hAe⟩ : ∃ A, va_A [(x, .inr (3, [.ref tk, .ref mh, .ref sc, .ref ga, .int (nI bu)]))] s.heap.size = A := ⟨_, rfl⟩
  have hD := hD0.self (sz := s.heap.size)
  rw [hAe] at hD hxZ
  have hA : ∀ q : Nat, s.heap.size ≤ q → A q := fun q h => by rw [← hAe]; exact Or.inr h
  have hS : va_S A s.heap s.heap [] := va_S.rf
  have hl := lv_entry ([.ref x, .int v, .int v2]) (n := 3) (Nat.le_of_ble_eq_true rfl)
  rw [lg_entry_eq]
  generalize (lg_sl ([.ref x, .int v, .int v2]) ++ List.replicate (3 - (lg_sl ([.ref x, .int v, .int v2])).length) Slot.unset).toArray = ls at hl ⊢
  have hl : lv_has ls 3 [(0, .ref x), (1, .int v), (2, .int v2)] := hl
  refine lv_iload_n hx hb dX3_load_0 rfl (lv_at hl 1 rfl) ?_
  refine lv_if_lt (tgt := 11) hx hb dX3_load_1 (by decide) (fun c1 => ?_) (fun c1 => ?_)
  · skip
    exact k_throw (E := xA) (text := "the script has entries 0 to 255") hx hb hst hown (by decide +kernel) (hts (.classLink RX3 42 "java/lang/IllegalArgumentException") (by decide +kernel)) (hts (.initialized "java/lang/IllegalArgumentException") (by decide +kernel)) hxT (by decide +kernel) (fun w hw => hts w (List.mem_cons_of_mem _ (List.mem_append_right _ hw))) (by decide +kernel) (by decide +kernel) hxZ hAe hS (hl.1.trans hml.symm) dX3_load_11 dX3_load_14 dX3_load_15 dX3_load_17 dX3_load_20 htab (Nat.le_of_ble_eq_true rfl) (Nat.le_of_ble_eq_true rfl) (Nat.le_of_ble_eq_true rfl) (Nat.le_of_ble_eq_true rfl) hlocks (hP.sub [0] rfl) (hD.sub [0] rfl rfl) (Nat.le_refl _) (Nat.le_refl _)
  · skip
    refine lv_iload_n hx hb dX3_load_4 rfl (lv_at hl 1 rfl) ?_
    refine lv_sipush (v := nI 256) hx hb dX3_load_5 (by decide) ?_
    refine lv_icmp_lt (tgt := 21) hx hb dX3_load_8 (by decide) (fun c2 => ?_) (fun c2 => ?_)
    · exact (by exact hv.elim (fun q => absurd q c1) (fun q => absurd c2 q))
    · skip
      exact k_throw (E := xA) (text := "the script has entries 0 to 255") hx hb hst hown (by decide +kernel) (hts (.classLink RX3 42 "java/lang/IllegalArgumentException") (by decide +kernel)) (hts (.initialized "java/lang/IllegalArgumentException") (by decide +kernel)) hxT (by decide +kernel) (fun w hw => hts w (List.mem_cons_of_mem _ (List.mem_append_right _ hw))) (by decide +kernel) (by decide +kernel) hxZ hAe hS (hl.1.trans hml.symm) dX3_load_11 dX3_load_14 dX3_load_15 dX3_load_17 dX3_load_20 htab (Nat.le_of_ble_eq_true rfl) (Nat.le_of_ble_eq_true rfl) (Nat.le_of_ble_eq_true rfl) (Nat.le_of_ble_eq_true rfl) hlocks (hP.sub [0] rfl) (hD.sub [0] rfl rfl) (Nat.le_refl _) (Nat.le_refl _)
set_option maxHeartbeats 4000000 in
set_option maxRecDepth 100000 in
theorem c_X3_block (l : Launch) (g : va_G) (cI cJ cZ : ClassId) (x tk sc ga : Nat) (mh kr kq fq bq gq : Nat) (rcv ncl bl rd hd jn sn : Nat) (fo : Nat → Nat) (h q1 q2 q3 q4 q5 q6 q7 n : Nat) (pa ch kd ad ra su un : Nat → Nat) (mk sv : Nat) (top : Nat) (S L R : Nat → Nat) (rc : Nat → Bool) (sp : Nat → Bool) (rq nu : Nat → Nat) (v v2 : Int32) (y : Nat) (hn : n < 2 ^ 25) (hR : RuleOK S L R rc top) (hI : wI top S L R sp rq nu ([]) n mk sv pa ch kd ad ra su un fo bl rd hd) (hyv : blk (adr top S L R) rq (lvs sp 1) v = y) (hy0 : y ≠ 0) (hv2 : v2 = nI 0 ∨ v2 = nI 1 ∨ v2 = nI 2) : kI l g (kty cI cJ cZ) yX3_block wsX3_block ({ frames := 2, cells := 0, slots := 0, locals := 46 }) [.ref x, .int v, .int v2] [(x, .inr (3, [.ref tk, .ref mh, .ref sc, .ref ga, .int (nI 1)])), (mh, .inr (0, [.ref kr, .ref h, .ref kq, .ref fq, .ref bq, .ref gq, .int (nI rcv), .int (nI ncl), .int (nI bl), .int (nI rd), .int (nI hd), .int (nI jn), .int (nI sn)])), (h, .inr (2, [.ref q1, .ref q2, .ref q3, .ref q4, .ref q5, .ref q6, .ref q7, .int (nI mk), .int (nI sv)])), (q1, .inl (cI, n, .inl (fun j => nI (pa j)))), (q2, .inl (cI, n, .inl (fun j => nI (ch j)))), (q3, .inl (cI, n, .inl (fun j => nI (kd j)))), (q4, .inl (cI, n, .inl (fun j => nI (ad j)))), (q5, .inl (cI, n, .inl (fun j => nI (ra j)))), (q6, .inl (cI, n, .inl (fun j => nI (su j)))), (q7, .inl (cI, n, .inl (fun j => nI (un j))))] (S := Unit) (fun r _ => r = if v2 = nI 0 then nI (cls top L R y) else if v2 = nI 1 then nI (rq y) else nI (dep y)) (fun u => [(x, .inr (3, [.ref tk, .ref mh, .ref sc, .ref ga, .int (nI 1)])), (mh, .inr (0, [.ref kr, .ref h, .ref kq, .ref fq, .ref bq, .ref gq, .int (nI rcv), .int (nI ncl), .int (nI bl), .int (nI rd), .int (nI hd), .int (nI jn), .int (nI sn)])), (h, .inr (2, [.ref q1, .ref q2, .ref q3, .ref q4, .ref q5, .ref q6, .ref q7, .int (nI mk), .int (nI sv)])), (q1, .inl (cI, n, .inl (fun j => nI (pa j)))), (q2, .inl (cI, n, .inl (fun j => nI (ch j)))), (q3, .inl (cI, n, .inl (fun j => nI (kd j)))), (q4, .inl (cI, n, .inl (fun j => nI (ad j)))), (q5, .inl (cI, n, .inl (fun j => nI (ra j)))), (q6, .inl (cI, n, .inl (fun j => nI (su j)))), (q7, .inl (cI, n, .inl (fun j => nI (un j))))]) 0 0 := by
  intro sz
  refine Met.ofW (cc := cX3_block) (maxL := 4) (ret := (some .int)) (by decide) rfl ?_
  intro p e s m args below meth c s₁ B hml hv
  obtain ⟨rfl, hsz, hP, hk, hD0⟩ := hv
  subst hsz
  have hx := B.exec
  have hb := B.bytes
  have hr := B.returns
  have hts := atoms_spec (ws := wsX3_block) B.pre
  have hown : s.vm.findClass RX3 = some m.cls := findClass_of_methodNamed B.named
  have hlocks := B.notSynchronized
  have hK := hk.1
  have hinX0 : ∀ w ∈ wsX00, w ∈ wsX3_block := by decide +kernel
  have hinX3 : ∀ w ∈ wsX30, w ∈ wsX3_block := by decide +kernel
  obtain ⟨A, hAe⟩ : ∃ A, va_A [(x, .inr (3, [.ref tk, .ref mh, .ref sc, .ref ga, .int (nI 1)])), (mh, .inr (0, [.ref kr, .ref h, .ref kq, .ref fq, .ref bq, .ref gq, .int (nI rcv), .int (nI ncl), .int (nI bl), .int (nI rd), .int (nI hd), .int (nI jn), .int (nI sn)])), (h, .inr (2, [.ref q1, .ref q2, .ref q3, .ref q4, .ref q5, .ref q6, .ref q7, .int (nI mk), .int (nI sv)])), (q1, .inl (cI, n, .inl (fun j => nI (pa j)))), (q2, .inl (cI, n, .inl (fun j => nI (ch j)))), (q3, .inl (cI, n, .inl (fun j => nI (kd j)))), (q4, .inl (cI, n, .inl (fun j => nI (ad j)))), (q5, .inl (cI, n, .inl (fun j => nI (ra j)))), (q6, .inl (cI, n, .inl (fun j => nI (su j)))), (q7, .inl (cI, n, .inl (fun j => nI (un j))))] s.heap.size = A := ⟨_, rfl⟩
  have hD := hD0.self (sz := s.heap.size)
  rw [hAe] at hD
  have hA : ∀ q : Nat, s.heap.size ≤ q → A q := fun q h => by rw [← hAe]; exact Or.inr h
  have hS : va_S A s.heap s.heap [] := va_S.rf
  have hl := lv_entry ([.ref x, .int v, .int v2]) (n := 4) (Nat.le_of_ble_eq_true rfl)
  rw [lg_entry_eq]
  generalize (lg_sl ([.ref x, .int v, .int v2]) ++ List.replicate (4 - (lg_sl ([.ref x, .int v, .int v2])).length) Slot.unset).toArray = ls at hl ⊢
  have hl : lv_has ls 4 [(0, .ref x), (1, .int v), (2, .int v2)] := hl
  have hn25 := hn
  obtain ⟨a1, a2, a3, a4, a5, a6, a7, a8, -⟩ := hI.1.2.2.2.2.1
  have hn31 : n < 2 ^ 31 := by omega
  have hyl := blk_leaf (v := v) hR hI.1.1 (by rw [hyv]; exact hy0)
  rw [hyv] at hyl
  obtain ⟨hym, hyx, hys, hyr, hya⟩ := hyl
  have hyn := wI_nu hI hyx
  refine lv_aload_n hx hb dX3_block_0 rfl (lv_at hl 0 rfl) ?_
  refine lv_iload_n hx hb dX3_block_1 rfl (lv_at hl 1 rfl) ?_
  refine k_goI (wr := []) (va_runV (As := [.int v]) (rest := []) ⟨hx, hb, hml, hown, hts⟩ (c_X3_requireBlock l g cI cJ cZ x tk sc ga mh kr kq fq bq gq rcv ncl bl rd hd jn sn fo h q1 q2 q3 q4 q5 q6 q7 n pa ch kd ad ra su un mk sv top S L R rc sp rq nu v hn25 hR hI (by rw [hyv]; exact hy0) _) (cwV 1 hts gX3_block_X3_requireBlock rfl rfl rfl (by decide +kernel) ⟨Nat.le_of_ble_eq_true rfl, Nat.le_of_ble_eq_true rfl⟩) (k_preV hk hP hD [0, 1, 2, 3, 4, 5, 6, 7, 8, 9] rfl rfl (ci := 3) (q0 := 0) rfl rfl) rfl rfl hl.1 rfl (lv_room (Nat.le_of_ble_eq_true rfl)) dX3_block_2 ⟨by first | exact Nat.zero_le _ | omega, by first | exact Nat.zero_le _ | omega⟩) hP hD hS hA [0, 1, 2, 3, 4, 5, 6, 7, 8, 9] [] rfl rfl rfl (by decide) (fun rv _ H locs hu hP hD hS => ?_)
  subst hu
  rw [hyv]
  have hP : va_P g vwCl [(x, .inr (3, [.ref tk, .ref mh, .ref sc, .ref ga, .int (nI 1)])), (mh, .inr (0, [.ref kr, .ref h, .ref kq, .ref fq, .ref bq, .ref gq, .int (nI rcv), .int (nI ncl), .int (nI bl), .int (nI rd), .int (nI hd), .int (nI jn), .int (nI sn)])), (h, .inr (2, [.ref q1, .ref q2, .ref q3, .ref q4, .ref q5, .ref q6, .ref q7, .int (nI mk), .int (nI sv)])), (q1, .inl (cI, n, .inl (fun j => nI (pa j)))), (q2, .inl (cI, n, .inl (fun j => nI (ch j)))), (q3, .inl (cI, n, .inl (fun j => nI (kd j)))), (q4, .inl (cI, n, .inl (fun j => nI (ad j)))), (q5, .inl (cI, n, .inl (fun j => nI (ra j)))), (q6, .inl (cI, n, .inl (fun j => nI (su j)))), (q7, .inl (cI, n, .inl (fun j => nI (un j))))] H := hP
  have hD : va_D A [(x, .inr (3, [.ref tk, .ref mh, .ref sc, .ref ga, .int (nI 1)])), (mh, .inr (0, [.ref kr, .ref h, .ref kq, .ref fq, .ref bq, .ref gq, .int (nI rcv), .int (nI ncl), .int (nI bl), .int (nI rd), .int (nI hd), .int (nI jn), .int (nI sn)])), (h, .inr (2, [.ref q1, .ref q2, .ref q3, .ref q4, .ref q5, .ref q6, .ref q7, .int (nI mk), .int (nI sv)])), (q1, .inl (cI, n, .inl (fun j => nI (pa j)))), (q2, .inl (cI, n, .inl (fun j => nI (ch j)))), (q3, .inl (cI, n, .inl (fun j => nI (kd j)))), (q4, .inl (cI, n, .inl (fun j => nI (ad j)))), (q5, .inl (cI, n, .inl (fun j => nI (ra j)))), (q6, .inl (cI, n, .inl (fun j => nI (su j)))), (q7, .inl (cI, n, .inl (fun j => nI (un j))))] := hD
  refine lv_istore_n (lv' := [(3, .int (nI (nu y))), (0, .ref x), (1, .int v), (2, .int v2)]) hx hb dX3_block_5 rfl hl (by decide) rfl (fun ls hl => ?_)
  refine lv_iload_n hx hb dX3_block_6 rfl (lv_at hl 3 rfl) ?_
  rcases sw3 v2 with c1 | c1 | c1 | c1
  · exact (by rcases hv2 with q | q | q <;> rw [q] at c1 <;> exact absurd c1 (by decide))
  · skip
    refine lv_tableIn (tgt := 32) hx hb dX3_block_7 (by rw [c1]; decide) (by rw [c1]; decide) (by rw [c1]; rfl) (by decide) ?_
    refine lv_aload_n hx hb dX3_block_32 rfl (lv_at hl 1 rfl) ?_
    refine va_get (D := g) (ci := 3) (v := .ref mh) (C := RX3) (T := TX3) (N := 5) hx hb hts hinX3 hown hK hP 0 rfl rfl 1 (by decide) (hts (.fieldLink RX3 19 "BuddyRoof" "memory" "LBuddyRoof$Memory;") (by decide +kernel)) (fun _ h9 => h9) rfl dX3_block_33 ?_
    refine va_getN (D := g) (host := "BuddyRoof") (ci := 0) (v := .ref h) (C := RX0) (T := TX0) (N := 13) hx hb hts hinX0 hown hK hP 1 rfl rfl 1 (by decide) (hk.2.f (h := "BuddyRoof") (by decide +kernel)) (fun _ h9 => h9) rfl dX3_block_36 ?_
    refine lv_iload_n hx hb dX3_block_39 rfl (lv_at hl 0 rfl) ?_
    refine k_goR (W.runV (As := [.int (nI (nu y))]) (rest := []) ⟨hx, hb, hml, hown, hts⟩ (c_X2_kindOf l g cI cJ cZ h q1 q2 q3 q4 q5 q6 q7 n pa ch kd ad ra su un mk sv (nu y) hn31 hyn.2.1) (cwV 1 hts gX3_block_X2_kindOf rfl rfl rfl (by decide +kernel) ⟨Nat.le_of_ble_eq_true rfl, Nat.le_of_ble_eq_true rfl⟩) (k_preRV hk hP [2, 3, 4, 5, 6, 7, 8, 9] rfl (ci := 2) (q0 := 0) rfl rfl) rfl rfl hl.1 rfl (lv_room (Nat.le_of_ble_eq_true rfl)) dX3_block_40 ⟨by first | exact Nat.zero_le _ | omega, by first | exact Nat.zero_le _ | omega⟩) ?_
    refine n_top _ (nI (cls top L R y)) (by rw [hyn.2.2.1]) ?_
    have hP := hP.sub (ws' := [(x, .inr (3, [.ref tk, .ref mh, .ref sc, .ref ga, .int (nI 1)])), (mh, .inr (0, [.ref kr, .ref h, .ref kq, .ref fq, .ref bq, .ref gq, .int (nI rcv), .int (nI ncl), .int (nI bl), .int (nI rd), .int (nI hd), .int (nI jn), .int (nI sn)])), (h, .inr (2, [.ref q1, .ref q2, .ref q3, .ref q4, .ref q5, .ref q6, .ref q7, .int (nI mk), .int (nI sv)])), (q1, .inl (cI, n, .inl (fun j => nI (pa j)))), (q2, .inl (cI, n, .inl (fun j => nI (ch j)))), (q3, .inl (cI, n, .inl (fun j => nI (kd j)))), (q4, .inl (cI, n, .inl (fun j => nI (ad j)))), (q5, .inl (cI, n, .inl (fun j => nI (ra j)))), (q6, .inl (cI, n, .inl (fun j => nI (su j)))), (q7, .inl (cI, n, .inl (fun j => nI (un j))))]) [0, 1, 2, 3, 4, 5, 6, 7, 8, 9] rfl
    have hD := hD.sub (ws' := [(x, .inr (3, [.ref tk, .ref mh, .ref sc, .ref ga, .int (nI 1)])), (mh, .inr (0, [.ref kr, .ref h, .ref kq, .ref fq, .ref bq, .ref gq, .int (nI rcv), .int (nI ncl), .int (nI bl), .int (nI rd), .int (nI hd), .int (nI jn), .int (nI sn)])), (h, .inr (2, [.ref q1, .ref q2, .ref q3, .ref q4, .ref q5, .ref q6, .ref q7, .int (nI mk), .int (nI sv)])), (q1, .inl (cI, n, .inl (fun j => nI (pa j)))), (q2, .inl (cI, n, .inl (fun j => nI (ch j)))), (q3, .inl (cI, n, .inl (fun j => nI (kd j)))), (q4, .inl (cI, n, .inl (fun j => nI (ad j)))), (q5, .inl (cI, n, .inl (fun j => nI (ra j)))), (q6, .inl (cI, n, .inl (fun j => nI (su j)))), (q7, .inl (cI, n, .inl (fun j => nI (un j))))]) [0, 1, 2, 3, 4, 5, 6, 7, 8, 9] rfl rfl
    refine W.widen (k := 0) (n := 0) (by first | exact Nat.le_refl _ | omega) (by first | exact Nat.le_refl _ | omega) ?_
    exact k_retI (sz := 0) (v := nI (cls top L R y)) hx hb hr hlocks hAe hS hP hD () (rfl) (by rw [if_pos c1]) dX3_block_43
  · skip
    refine lv_tableIn (tgt := 44) hx hb dX3_block_7 (by rw [c1]; decide) (by rw [c1]; decide) (by rw [c1]; rfl) (by decide) ?_
    refine lv_aload_n hx hb dX3_block_44 rfl (lv_at hl 1 rfl) ?_
    refine va_get (D := g) (ci := 3) (v := .ref mh) (C := RX3) (T := TX3) (N := 5) hx hb hts hinX3 hown hK hP 0 rfl rfl 1 (by decide) (hts (.fieldLink RX3 19 "BuddyRoof" "memory" "LBuddyRoof$Memory;") (by decide +kernel)) (fun _ h9 => h9) rfl dX3_block_45 ?_
    refine va_getN (D := g) (host := "BuddyRoof") (ci := 0) (v := .ref h) (C := RX0) (T := TX0) (N := 13) hx hb hts hinX0 hown hK hP 1 rfl rfl 1 (by decide) (hk.2.f (h := "BuddyRoof") (by decide +kernel)) (fun _ h9 => h9) rfl dX3_block_48 ?_
    refine lv_iload_n hx hb dX3_block_51 rfl (lv_at hl 0 rfl) ?_
    refine k_goR (W.runV (As := [.int (nI (nu y))]) (rest := []) ⟨hx, hb, hml, hown, hts⟩ (c_X2_requestOf l g cI cJ cZ h q1 q2 q3 q4 q5 q6 q7 n pa ch kd ad ra su un mk sv (nu y) hn31 hyn.2.1) (cwV 1 hts gX3_block_X2_requestOf rfl rfl rfl (by decide +kernel) ⟨Nat.le_of_ble_eq_true rfl, Nat.le_of_ble_eq_true rfl⟩) (k_preRV hk hP [2, 3, 4, 5, 6, 7, 8, 9] rfl (ci := 2) (q0 := 0) rfl rfl) rfl rfl hl.1 rfl (lv_room (Nat.le_of_ble_eq_true rfl)) dX3_block_52 ⟨by first | exact Nat.zero_le _ | omega, by first | exact Nat.zero_le _ | omega⟩) ?_
    refine n_top _ (nI (rq y)) (by rw [hyn.2.2.2.2]) ?_
    have hP := hP.sub (ws' := [(x, .inr (3, [.ref tk, .ref mh, .ref sc, .ref ga, .int (nI 1)])), (mh, .inr (0, [.ref kr, .ref h, .ref kq, .ref fq, .ref bq, .ref gq, .int (nI rcv), .int (nI ncl), .int (nI bl), .int (nI rd), .int (nI hd), .int (nI jn), .int (nI sn)])), (h, .inr (2, [.ref q1, .ref q2, .ref q3, .ref q4, .ref q5, .ref q6, .ref q7, .int (nI mk), .int (nI sv)])), (q1, .inl (cI, n, .inl (fun j => nI (pa j)))), (q2, .inl (cI, n, .inl (fun j => nI (ch j)))), (q3, .inl (cI, n, .inl (fun j => nI (kd j)))), (q4, .inl (cI, n, .inl (fun j => nI (ad j)))), (q5, .inl (cI, n, .inl (fun j => nI (ra j)))), (q6, .inl (cI, n, .inl (fun j => nI (su j)))), (q7, .inl (cI, n, .inl (fun j => nI (un j))))]) [0, 1, 2, 3, 4, 5, 6, 7, 8, 9] rfl
    have hD := hD.sub (ws' := [(x, .inr (3, [.ref tk, .ref mh, .ref sc, .ref ga, .int (nI 1)])), (mh, .inr (0, [.ref kr, .ref h, .ref kq, .ref fq, .ref bq, .ref gq, .int (nI rcv), .int (nI ncl), .int (nI bl), .int (nI rd), .int (nI hd), .int (nI jn), .int (nI sn)])), (h, .inr (2, [.ref q1, .ref q2, .ref q3, .ref q4, .ref q5, .ref q6, .ref q7, .int (nI mk), .int (nI sv)])), (q1, .inl (cI, n, .inl (fun j => nI (pa j)))), (q2, .inl (cI, n, .inl (fun j => nI (ch j)))), (q3, .inl (cI, n, .inl (fun j => nI (kd j)))), (q4, .inl (cI, n, .inl (fun j => nI (ad j)))), (q5, .inl (cI, n, .inl (fun j => nI (ra j)))), (q6, .inl (cI, n, .inl (fun j => nI (su j)))), (q7, .inl (cI, n, .inl (fun j => nI (un j))))]) [0, 1, 2, 3, 4, 5, 6, 7, 8, 9] rfl rfl
    refine W.widen (k := 0) (n := 0) (by first | exact Nat.le_refl _ | omega) (by first | exact Nat.le_refl _ | omega) ?_
    exact k_retI (sz := 0) (v := nI (rq y)) hx hb hr hlocks hAe hS hP hD () (rfl) (by rw [if_neg (by rw [c1]; decide), if_pos c1]) dX3_block_55
  · skip
    refine lv_tableIn (tgt := 56) hx hb dX3_block_7 (by rw [c1]; decide) (by rw [c1]; decide) (by rw [c1]; rfl) (by decide) ?_
    refine lv_aload_n hx hb dX3_block_56 rfl (lv_at hl 1 rfl) ?_
    refine va_get (D := g) (ci := 3) (v := .ref mh) (C := RX3) (T := TX3) (N := 5) hx hb hts hinX3 hown hK hP 0 rfl rfl 1 (by decide) (hts (.fieldLink RX3 19 "BuddyRoof" "memory" "LBuddyRoof$Memory;") (by decide +kernel)) (fun _ h9 => h9) rfl dX3_block_57 ?_
    refine va_getN (D := g) (host := "BuddyRoof") (ci := 0) (v := .ref h) (C := RX0) (T := TX0) (N := 13) hx hb hts hinX0 hown hK hP 1 rfl rfl 1 (by decide) (hk.2.f (h := "BuddyRoof") (by decide +kernel)) (fun _ h9 => h9) rfl dX3_block_60 ?_
    refine lv_iload_n hx hb dX3_block_63 rfl (lv_at hl 0 rfl) ?_
    refine k_goR (W.runV (As := [.int (nI (nu y))]) (rest := []) ⟨hx, hb, hml, hown, hts⟩ (c_X2_depthOf l g cI cJ cZ h q1 q2 q3 q4 q5 q6 q7 n pa ch kd ad ra su un mk sv (nu y) hn31 hyn.2.1 a1) (cwV 1 hts gX3_block_X2_depthOf rfl rfl rfl (by decide +kernel) ⟨Nat.le_of_ble_eq_true rfl, Nat.le_of_ble_eq_true rfl⟩) (k_preRV hk hP [2, 3, 4, 5, 6, 7, 8, 9] rfl (ci := 2) (q0 := 0) rfl rfl) rfl rfl hl.1 rfl (lv_room (Nat.le_of_ble_eq_true rfl)) dX3_block_64 ⟨by first | exact Nat.zero_le _ | omega, by first | exact Nat.zero_le _ | omega⟩) ?_
    refine n_top _ (nI (dep y)) (by rw [wI_dep hR hI hyx]) ?_
    have hP := hP.sub (ws' := [(x, .inr (3, [.ref tk, .ref mh, .ref sc, .ref ga, .int (nI 1)])), (mh, .inr (0, [.ref kr, .ref h, .ref kq, .ref fq, .ref bq, .ref gq, .int (nI rcv), .int (nI ncl), .int (nI bl), .int (nI rd), .int (nI hd), .int (nI jn), .int (nI sn)])), (h, .inr (2, [.ref q1, .ref q2, .ref q3, .ref q4, .ref q5, .ref q6, .ref q7, .int (nI mk), .int (nI sv)])), (q1, .inl (cI, n, .inl (fun j => nI (pa j)))), (q2, .inl (cI, n, .inl (fun j => nI (ch j)))), (q3, .inl (cI, n, .inl (fun j => nI (kd j)))), (q4, .inl (cI, n, .inl (fun j => nI (ad j)))), (q5, .inl (cI, n, .inl (fun j => nI (ra j)))), (q6, .inl (cI, n, .inl (fun j => nI (su j)))), (q7, .inl (cI, n, .inl (fun j => nI (un j))))]) [0, 1, 2, 3, 4, 5, 6, 7, 8, 9] rfl
    have hD := hD.sub (ws' := [(x, .inr (3, [.ref tk, .ref mh, .ref sc, .ref ga, .int (nI 1)])), (mh, .inr (0, [.ref kr, .ref h, .ref kq, .ref fq, .ref bq, .ref gq, .int (nI rcv), .int (nI ncl), .int (nI bl), .int (nI rd), .int (nI hd), .int (nI jn), .int (nI sn)])), (h, .inr (2, [.ref q1, .ref q2, .ref q3, .ref q4, .ref q5, .ref q6, .ref q7, .int (nI mk), .int (nI sv)])), (q1, .inl (cI, n, .inl (fun j => nI (pa j)))), (q2, .inl (cI, n, .inl (fun j => nI (ch j)))), (q3, .inl (cI, n, .inl (fun j => nI (kd j)))), (q4, .inl (cI, n, .inl (fun j => nI (ad j)))), (q5, .inl (cI, n, .inl (fun j => nI (ra j)))), (q6, .inl (cI, n, .inl (fun j => nI (su j)))), (q7, .inl (cI, n, .inl (fun j => nI (un j))))]) [0, 1, 2, 3, 4, 5, 6, 7, 8, 9] rfl rfl
    refine W.widen (k := 0) (n := 0) (by first | exact Nat.le_refl _ | omega) (by first | exact Nat.le_refl _ | omega) ?_
    exact k_retI (sz := 0) (v := nI (dep y)) hx hb hr hlocks hAe hS hP hD () (rfl) (by rw [if_neg (by rw [c1]; decide), if_neg (by rw [c1]; decide)]) dX3_block_67
set_option maxHeartbeats 4000000 in
set_option maxRecDepth 100000 in
theorem c_X3_block_tM (l : Launch) (g : va_G) (cI cJ cZ : ClassId) (hst : l.stackTraces = false) (x tk sc ga : Nat) (mh : Nat) (v : Int32) (v2 : Int32)  : kT l g (kty cI cJ cZ) yX3_block wsX3_block ({ frames := 8, cells := 1, slots := 6, locals := 132 }) [.ref x, .int v, .int v2] [(x, .inr (3, [.ref tk, .ref mh, .ref sc, .ref ga, .int (nI 0)]))] [(x, .inr (3, [.ref tk, .ref mh, .ref sc, .ref ga, .int (nI 0)]))] xI := by
  intro sz
  refine vx_ofW (cc := cX3_block) (maxL := 4) (ret := (some .int)) (by decide) rfl ?_
  intro p e s m args below meth c s₁ B hml htab hv
  obtain ⟨rfl, ⟨hsz, hP, hk, hD0⟩, hxT, hxZ⟩ := hv
  subst hsz
  have hx := B.exec
  have hb := B.bytes
  have hr := B.returns
  have hts := atoms_spec (ws := wsX3_block) B.pre
  have hown : s.vm.findClass RX3 = some m.cls := findClass_of_methodNamed B.named
  have hlocks := B.notSynchronized
  have hK := hk.1
  obtain ⟨A, hAe⟩ : ∃ A, va_A [(x, .inr (3, [.ref tk, .ref mh, .ref sc, .ref ga, .int (nI 0)]))] s.heap.size = A := ⟨_, rfl⟩
  have hD := hD0.self (sz := s.heap.size)
  rw [hAe] at hD hxZ
  have hA : ∀ q : Nat, s.heap.size ≤ q → A q := fun q h => by rw [← hAe]; exact Or.inr h
  have hS : va_S A s.heap s.heap [] := va_S.rf
  have hl := lv_entry ([.ref x, .int v, .int v2]) (n := 4) (Nat.le_of_ble_eq_true rfl)
  rw [lg_entry_eq]
  generalize (lg_sl ([.ref x, .int v, .int v2]) ++ List.replicate (4 - (lg_sl ([.ref x, .int v, .int v2])).length) Slot.unset).toArray = ls at hl ⊢
  have hl : lv_has ls 4 [(0, .ref x), (1, .int v), (2, .int v2)] := hl
  refine lv_aload_n hx hb dX3_block_0 rfl (lv_at hl 0 rfl) ?_
  refine lv_iload_n hx hb dX3_block_1 rfl (lv_at hl 1 rfl) ?_
  refine k_goT (wr := []) (vx_runV (As := [.int v]) (rest := []) ⟨hx, hb, hml, hown, hts⟩ (c_X3_requireBlock_tM l g cI cJ cZ hst x tk sc ga mh v  _) (cwV 1 hts gX3_block_X3_requireBlock rfl rfl rfl (by decide +kernel) ⟨Nat.le_of_ble_eq_true rfl, Nat.le_of_ble_eq_true rfl⟩) (k_preVx hk hxT (hxZ.kept (fun a h1 h2 => hS.2.1 a h1 h2)) hP hD hS hA [0] rfl rfl (ci := 3) (q0 := 0) rfl rfl) rfl rfl hl.1 rfl (lv_room (Nat.le_of_ble_eq_true rfl)) dX3_block_2 ⟨Nat.le_of_ble_eq_true rfl, Nat.le_of_ble_eq_true rfl⟩) hP hD hS hA [0] [] rfl rfl rfl (by decide) (fun ce q9 H locs hP hD hS hkp hce hcv hcl => ?_)
  have hP : va_P g vwCl [(x, .inr (3, [.ref tk, .ref mh, .ref sc, .ref ga, .int (nI 0)]))] H := hP
  have hD : va_D A [(x, .inr (3, [.ref tk, .ref mh, .ref sc, .ref ga, .int (nI 0)]))] := hD
  exact k_out htab hlocks hce hcv hcl (hP.sub [0] rfl) (hD.sub [0] rfl rfl) hAe hS (Nat.le_refl _) (Nat.le_refl _)
set_option maxHeartbeats 4000000 in
set_option maxRecDepth 100000 in
theorem c_X3_block_tA (l : Launch) (g : va_G) (cI cJ cZ : ClassId) (hst : l.stackTraces = false) (x tk sc ga : Nat) (mh kr kq fq bq gq : Nat) (rcv ncl bl rd hd jn sn : Nat) (fo : Nat → Nat) (h q1 q2 q3 q4 q5 q6 q7 n : Nat) (pa ch kd ad ra su un : Nat → Nat) (mk sv : Nat) (top : Nat) (S L R : Nat → Nat) (rc : Nat → Bool) (sp : Nat → Bool) (rq nu : Nat → Nat) (v : Int32) (v2 : Int32) (hn : n < 2 ^ 25) (hR : RuleOK S L R rc top) (hI : wI top S L R sp rq nu ([]) n mk sv pa ch kd ad ra su un fo bl rd hd) (hyv : blk (adr top S L R) rq (lvs sp 1) v = 0) : kT l g (kty cI cJ cZ) yX3_block wsX3_block ({ frames := 7, cells := 1, slots := 6, locals := 112 }) [.ref x, .int v, .int v2] [(x, .inr (3, [.ref tk, .ref mh, .ref sc, .ref ga, .int (nI 1)])), (mh, .inr (0, [.ref kr, .ref h, .ref kq, .ref fq, .ref bq, .ref gq, .int (nI rcv), .int (nI ncl), .int (nI bl), .int (nI rd), .int (nI hd), .int (nI jn), .int (nI sn)])), (h, .inr (2, [.ref q1, .ref q2, .ref q3, .ref q4, .ref q5, .ref q6, .ref q7, .int (nI mk), .int (nI sv)])), (q1, .inl (cI, n, .inl (fun j => nI (pa j)))), (q2, .inl (cI, n, .inl (fun j => nI (ch j)))), (q3, .inl (cI, n, .inl (fun j => nI (kd j)))), (q4, .inl (cI, n, .inl (fun j => nI (ad j)))), (q5, .inl (cI, n, .inl (fun j => nI (ra j)))), (q6, .inl (cI, n, .inl (fun j => nI (su j)))), (q7, .inl (cI, n, .inl (fun j => nI (un j))))] [(x, .inr (3, [.ref tk, .ref mh, .ref sc, .ref ga, .int (nI 1)])), (mh, .inr (0, [.ref kr, .ref h, .ref kq, .ref fq, .ref bq, .ref gq, .int (nI rcv), .int (nI ncl), .int (nI bl), .int (nI rd), .int (nI hd), .int (nI jn), .int (nI sn)])), (h, .inr (2, [.ref q1, .ref q2, .ref q3, .ref q4, .ref q5, .ref q6, .ref q7, .int (nI mk), .int (nI sv)])), (q1, .inl (cI, n, .inl (fun j => nI (pa j)))), (q2, .inl (cI, n, .inl (fun j => nI (ch j)))), (q3, .inl (cI, n, .inl (fun j => nI (kd j)))), (q4, .inl (cI, n, .inl (fun j => nI (ad j)))), (q5, .inl (cI, n, .inl (fun j => nI (ra j)))), (q6, .inl (cI, n, .inl (fun j => nI (su j)))), (q7, .inl (cI, n, .inl (fun j => nI (un j))))] xA := by
  intro sz
  refine vx_ofW (cc := cX3_block) (maxL := 4) (ret := (some .int)) (by decide) rfl ?_
  intro p e s m args below meth c s₁ B hml htab hv
  obtain ⟨rfl, ⟨hsz, hP, hk, hD0⟩, hxT, hxZ⟩ := hv
  subst hsz
  have hx := B.exec
  have hb := B.bytes
  have hr := B.returns
  have hts := atoms_spec (ws := wsX3_block) B.pre
  have hown : s.vm.findClass RX3 = some m.cls := findClass_of_methodNamed B.named
  have hlocks := B.notSynchronized
  have hK := hk.1
  obtain ⟨A, hAe⟩ : ∃ A, va_A [(x, .inr (3, [.ref tk, .ref mh, .ref sc, .ref ga, .int (nI 1)])), (mh, .inr (0, [.ref kr, .ref h, .ref kq, .ref fq, .ref bq, .ref gq, .int (nI rcv), .int (nI ncl), .int (nI bl), .int (nI rd), .int (nI hd), .int (nI jn), .int (nI sn)])), (h, .inr (2, [.ref q1, .ref q2, .ref q3, .ref q4, .ref q5, .ref q6, .ref q7, .int (nI mk), .int (nI sv)])), (q1, .inl (cI, n, .inl (fun j => nI (pa j)))), (q2, .inl (cI, n, .inl (fun j => nI (ch j)))), (q3, .inl (cI, n, .inl (fun j => nI (kd j)))), (q4, .inl (cI, n, .inl (fun j => nI (ad j)))), (q5, .inl (cI, n, .inl (fun j => nI (ra j)))), (q6, .inl (cI, n, .inl (fun j => nI (su j)))), (q7, .inl (cI, n, .inl (fun j => nI (un j))))] s.heap.size = A := ⟨_, rfl⟩
  have hD := hD0.self (sz := s.heap.size)
  rw [hAe] at hD hxZ
  have hA : ∀ q : Nat, s.heap.size ≤ q → A q := fun q h => by rw [← hAe]; exact Or.inr h
  have hS : va_S A s.heap s.heap [] := va_S.rf
  have hl := lv_entry ([.ref x, .int v, .int v2]) (n := 4) (Nat.le_of_ble_eq_true rfl)
  rw [lg_entry_eq]
  generalize (lg_sl ([.ref x, .int v, .int v2]) ++ List.replicate (4 - (lg_sl ([.ref x, .int v, .int v2])).length) Slot.unset).toArray = ls at hl ⊢
  have hl : lv_has ls 4 [(0, .ref x), (1, .int v), (2, .int v2)] := hl
  have hn25 := hn
  refine lv_aload_n hx hb dX3_block_0 rfl (lv_at hl 0 rfl) ?_
  refine lv_iload_n hx hb dX3_block_1 rfl (lv_at hl 1 rfl) ?_
  refine k_goT (wr := []) (vx_runV (As := [.int v]) (rest := []) ⟨hx, hb, hml, hown, hts⟩ (c_X3_requireBlock_tA l g cI cJ cZ hst x tk sc ga mh kr kq fq bq gq rcv ncl bl rd hd jn sn fo h q1 q2 q3 q4 q5 q6 q7 n pa ch kd ad ra su un mk sv top S L R rc sp rq nu v hn25 hR hI hyv _) (cwV 1 hts gX3_block_X3_requireBlock rfl rfl rfl (by decide +kernel) ⟨Nat.le_of_ble_eq_true rfl, Nat.le_of_ble_eq_true rfl⟩) (k_preVx hk hxT (hxZ.kept (fun a h1 h2 => hS.2.1 a h1 h2)) hP hD hS hA [0, 1, 2, 3, 4, 5, 6, 7, 8, 9] rfl rfl (ci := 3) (q0 := 0) rfl rfl) rfl rfl hl.1 rfl (lv_room (Nat.le_of_ble_eq_true rfl)) dX3_block_2 ⟨Nat.le_of_ble_eq_true rfl, Nat.le_of_ble_eq_true rfl⟩) hP hD hS hA [0, 1, 2, 3, 4, 5, 6, 7, 8, 9] [] rfl rfl rfl (by decide) (fun ce q9 H locs hP hD hS hkp hce hcv hcl => ?_)
  have hP : va_P g vwCl [(x, .inr (3, [.ref tk, .ref mh, .ref sc, .ref ga, .int (nI 1)])), (mh, .inr (0, [.ref kr, .ref h, .ref kq, .ref fq, .ref bq, .ref gq, .int (nI rcv), .int (nI ncl), .int (nI bl), .int (nI rd), .int (nI hd), .int (nI jn), .int (nI sn)])), (h, .inr (2, [.ref q1, .ref q2, .ref q3, .ref q4, .ref q5, .ref q6, .ref q7, .int (nI mk), .int (nI sv)])), (q1, .inl (cI, n, .inl (fun j => nI (pa j)))), (q2, .inl (cI, n, .inl (fun j => nI (ch j)))), (q3, .inl (cI, n, .inl (fun j => nI (kd j)))), (q4, .inl (cI, n, .inl (fun j => nI (ad j)))), (q5, .inl (cI, n, .inl (fun j => nI (ra j)))), (q6, .inl (cI, n, .inl (fun j => nI (su j)))), (q7, .inl (cI, n, .inl (fun j => nI (un j))))] H := hP
  have hD : va_D A [(x, .inr (3, [.ref tk, .ref mh, .ref sc, .ref ga, .int (nI 1)])), (mh, .inr (0, [.ref kr, .ref h, .ref kq, .ref fq, .ref bq, .ref gq, .int (nI rcv), .int (nI ncl), .int (nI bl), .int (nI rd), .int (nI hd), .int (nI jn), .int (nI sn)])), (h, .inr (2, [.ref q1, .ref q2, .ref q3, .ref q4, .ref q5, .ref q6, .ref q7, .int (nI mk), .int (nI sv)])), (q1, .inl (cI, n, .inl (fun j => nI (pa j)))), (q2, .inl (cI, n, .inl (fun j => nI (ch j)))), (q3, .inl (cI, n, .inl (fun j => nI (kd j)))), (q4, .inl (cI, n, .inl (fun j => nI (ad j)))), (q5, .inl (cI, n, .inl (fun j => nI (ra j)))), (q6, .inl (cI, n, .inl (fun j => nI (su j)))), (q7, .inl (cI, n, .inl (fun j => nI (un j))))] := hD
  exact k_out htab hlocks hce hcv hcl (hP.sub [0, 1, 2, 3, 4, 5, 6, 7, 8, 9] rfl) (hD.sub [0, 1, 2, 3, 4, 5, 6, 7, 8, 9] rfl rfl) hAe hS (Nat.le_refl _) (Nat.le_refl _)
set_option maxHeartbeats 4000000 in
set_option maxRecDepth 100000 in
theorem c_X3_block_tW (l : Launch) (g : va_G) (cI cJ cZ : ClassId) (hst : l.stackTraces = false) (x tk sc ga : Nat) (mh kr kq fq bq gq : Nat) (rcv ncl bl rd hd jn sn : Nat) (fo : Nat → Nat) (h q1 q2 q3 q4 q5 q6 q7 n : Nat) (pa ch kd ad ra su un : Nat → Nat) (mk sv : Nat) (top : Nat) (S L R : Nat → Nat) (rc : Nat → Bool) (sp : Nat → Bool) (rq nu : Nat → Nat) (v v2 : Int32) (y : Nat) (hn : n < 2 ^ 25) (hR : RuleOK S L R rc top) (hI : wI top S L R sp rq nu ([]) n mk sv pa ch kd ad ra su un fo bl rd hd) (hyv : blk (adr top S L R) rq (lvs sp 1) v = y) (hy0 : y ≠ 0) (hv2 : ¬ v2 = nI 0 ∧ ¬ v2 = nI 1 ∧ ¬ v2 = nI 2) : kT l g (kty cI cJ cZ) yX3_block wsX3_block ({ frames := 6, cells := 1, slots := 6, locals := 90 }) [.ref x, .int v, .int v2] [(x, .inr (3, [.ref tk, .ref mh, .ref sc, .ref ga, .int (nI 1)])), (mh, .inr (0, [.ref kr, .ref h, .ref kq, .ref fq, .ref bq, .ref gq, .int (nI rcv), .int (nI ncl), .int (nI bl), .int (nI rd), .int (nI hd), .int (nI jn), .int (nI sn)])), (h, .inr (2, [.ref q1, .ref q2, .ref q3, .ref q4, .ref q5, .ref q6, .ref q7, .int (nI mk), .int (nI sv)])), (q1, .inl (cI, n, .inl (fun j => nI (pa j)))), (q2, .inl (cI, n, .inl (fun j => nI (ch j)))), (q3, .inl (cI, n, .inl (fun j => nI (kd j)))), (q4, .inl (cI, n, .inl (fun j => nI (ad j)))), (q5, .inl (cI, n, .inl (fun j => nI (ra j)))), (q6, .inl (cI, n, .inl (fun j => nI (su j)))), (q7, .inl (cI, n, .inl (fun j => nI (un j))))] [(x, .inr (3, [.ref tk, .ref mh, .ref sc, .ref ga, .int (nI 1)])), (mh, .inr (0, [.ref kr, .ref h, .ref kq, .ref fq, .ref bq, .ref gq, .int (nI rcv), .int (nI ncl), .int (nI bl), .int (nI rd), .int (nI hd), .int (nI jn), .int (nI sn)])), (h, .inr (2, [.ref q1, .ref q2, .ref q3, .ref q4, .ref q5, .ref q6, .ref q7, .int (nI mk), .int (nI sv)])), (q1, .inl (cI, n, .inl (fun j => nI (pa j)))), (q2, .inl (cI, n, .inl (fun j => nI (ch j)))), (q3, .inl (cI, n, .inl (fun j => nI (kd j)))), (q4, .inl (cI, n, .inl (fun j => nI (ad j)))), (q5, .inl (cI, n, .inl (fun j => nI (ra j)))), (q6, .inl (cI, n, .inl (fun j => nI (su j)))), (q7, .inl (cI, n, .inl (fun j => nI (un j))))] xA := by
  intro sz
  refine vx_ofW (cc := cX3_block) (maxL := 4) (ret := (some .int)) (by decide) rfl ?_
  intro p e s m args below meth c s₁ B hml htab hv
  obtain ⟨rfl, ⟨hsz, hP, hk, hD0⟩, hxT, hxZ⟩ := hv
  subst hsz
  have hx := B.exec
  have hb := B.bytes
  have hr := B.returns
  have hts := atoms_spec (ws := wsX3_block) B.pre
  have hown : s.vm.findClass RX3 = some m.cls := findClass_of_methodNamed B.named
  have hlocks := B.notSynchronized
  have hK := hk.1
  obtain ⟨A, hAe⟩ : ∃ A, va_A [(x, .inr (3, [.ref tk, .ref mh, .ref sc, .ref ga, .int (nI 1)])), (mh, .inr (0, [.ref kr, .ref h, .ref kq, .ref fq, .ref bq, .ref gq, .int (nI rcv), .int (nI ncl), .int (nI bl), .int (nI rd), .int (nI hd), .int (nI jn), .int (nI sn)])), (h, .inr (2, [.ref q1, .ref q2, .ref q3, .ref q4, .ref q5, .ref q6, .ref q7, .int (nI mk), .int (nI sv)])), (q1, .inl (cI, n, .inl (fun j => nI (pa j)))), (q2, .inl (cI, n, .inl (fun j => nI (ch j)))), (q3, .inl (cI, n, .inl (fun j => nI (kd j)))), (q4, .inl (cI, n, .inl (fun j => nI (ad j)))), (q5, .inl (cI, n, .inl (fun j => nI (ra j)))), (q6, .inl (cI, n, .inl (fun j => nI (su j)))), (q7, .inl (cI, n, .inl (fun j => nI (un j))))] s.heap.size = A := ⟨_, rfl⟩
  have hD := hD0.self (sz := s.heap.size)
  rw [hAe] at hD hxZ
  have hA : ∀ q : Nat, s.heap.size ≤ q → A q := fun q h => by rw [← hAe]; exact Or.inr h
  have hS : va_S A s.heap s.heap [] := va_S.rf
  have hl := lv_entry ([.ref x, .int v, .int v2]) (n := 4) (Nat.le_of_ble_eq_true rfl)
  rw [lg_entry_eq]
  generalize (lg_sl ([.ref x, .int v, .int v2]) ++ List.replicate (4 - (lg_sl ([.ref x, .int v, .int v2])).length) Slot.unset).toArray = ls at hl ⊢
  have hl : lv_has ls 4 [(0, .ref x), (1, .int v), (2, .int v2)] := hl
  have hn25 := hn
  have hyl := blk_leaf (v := v) hR hI.1.1 (by rw [hyv]; exact hy0)
  rw [hyv] at hyl
  obtain ⟨hym, hyx, hys, hyr, hya⟩ := hyl
  have hyn := wI_nu hI hyx
  refine lv_aload_n hx hb dX3_block_0 rfl (lv_at hl 0 rfl) ?_
  refine lv_iload_n hx hb dX3_block_1 rfl (lv_at hl 1 rfl) ?_
  refine k_goI (wr := []) (va_runV (As := [.int v]) (rest := []) ⟨hx, hb, hml, hown, hts⟩ (c_X3_requireBlock l g cI cJ cZ x tk sc ga mh kr kq fq bq gq rcv ncl bl rd hd jn sn fo h q1 q2 q3 q4 q5 q6 q7 n pa ch kd ad ra su un mk sv top S L R rc sp rq nu v hn25 hR hI (by rw [hyv]; exact hy0) _) (cwV 1 hts gX3_block_X3_requireBlock rfl rfl rfl (by decide +kernel) ⟨Nat.le_of_ble_eq_true rfl, Nat.le_of_ble_eq_true rfl⟩) (k_preV hk hP hD [0, 1, 2, 3, 4, 5, 6, 7, 8, 9] rfl rfl (ci := 3) (q0 := 0) rfl rfl) rfl rfl hl.1 rfl (lv_room (Nat.le_of_ble_eq_true rfl)) dX3_block_2 ⟨by first | exact Nat.zero_le _ | omega, by first | exact Nat.zero_le _ | omega⟩) hP hD hS hA [0, 1, 2, 3, 4, 5, 6, 7, 8, 9] [] rfl rfl rfl (by decide) (fun rv _ H locs hu hP hD hS => ?_)
  subst hu
  rw [hyv]
  have hP : va_P g vwCl [(x, .inr (3, [.ref tk, .ref mh, .ref sc, .ref ga, .int (nI 1)])), (mh, .inr (0, [.ref kr, .ref h, .ref kq, .ref fq, .ref bq, .ref gq, .int (nI rcv), .int (nI ncl), .int (nI bl), .int (nI rd), .int (nI hd), .int (nI jn), .int (nI sn)])), (h, .inr (2, [.ref q1, .ref q2, .ref q3, .ref q4, .ref q5, .ref q6, .ref q7, .int (nI mk), .int (nI sv)])), (q1, .inl (cI, n, .inl (fun j => nI (pa j)))), (q2, .inl (cI, n, .inl (fun j => nI (ch j)))), (q3, .inl (cI, n, .inl (fun j => nI (kd j)))), (q4, .inl (cI, n, .inl (fun j => nI (ad j)))), (q5, .inl (cI, n, .inl (fun j => nI (ra j)))), (q6, .inl (cI, n, .inl (fun j => nI (su j)))), (q7, .inl (cI, n, .inl (fun j => nI (un j))))] H := hP
  have hD : va_D A [(x, .inr (3, [.ref tk, .ref mh, .ref sc, .ref ga, .int (nI 1)])), (mh, .inr (0, [.ref kr, .ref h, .ref kq, .ref fq, .ref bq, .ref gq, .int (nI rcv), .int (nI ncl), .int (nI bl), .int (nI rd), .int (nI hd), .int (nI jn), .int (nI sn)])), (h, .inr (2, [.ref q1, .ref q2, .ref q3, .ref q4, .ref q5, .ref q6, .ref q7, .int (nI mk), .int (nI sv)])), (q1, .inl (cI, n, .inl (fun j => nI (pa j)))), (q2, .inl (cI, n, .inl (fun j => nI (ch j)))), (q3, .inl (cI, n, .inl (fun j => nI (kd j)))), (q4, .inl (cI, n, .inl (fun j => nI (ad j)))), (q5, .inl (cI, n, .inl (fun j => nI (ra j)))), (q6, .inl (cI, n, .inl (fun j => nI (su j)))), (q7, .inl (cI, n, .inl (fun j => nI (un j))))] := hD
  refine lv_istore_n (lv' := [(3, .int (nI (nu y))), (0, .ref x), (1, .int v), (2, .int v2)]) hx hb dX3_block_5 rfl hl (by decide) rfl (fun ls hl => ?_)
  refine lv_iload_n hx hb dX3_block_6 rfl (lv_at hl 3 rfl) ?_
  rcases sw3 v2 with c1 | c1 | c1 | c1
  · skip
    refine lv_tableOut (tgt := 68) hx hb dX3_block_7 c1 (by decide) ?_
    exact k_throw (E := xA) (text := "no such thing is known of a block") hx hb hst hown (by decide +kernel) (hts (.classLink RX3 42 "java/lang/IllegalArgumentException") (by decide +kernel)) (hts (.initialized "java/lang/IllegalArgumentException") (by decide +kernel)) hxT (by decide +kernel) (fun w hw => hts w (List.mem_cons_of_mem _ (List.mem_append_left _ (List.mem_append_right _ hw)))) (by decide +kernel) (by decide +kernel) hxZ hAe hS (hl.1.trans hml.symm) dX3_block_68 dX3_block_71 dX3_block_72 dX3_block_74 dX3_block_77 htab (Nat.le_of_ble_eq_true rfl) (Nat.le_of_ble_eq_true rfl) (Nat.le_of_ble_eq_true rfl) (Nat.le_of_ble_eq_true rfl) hlocks (hP.sub [0, 1, 2, 3, 4, 5, 6, 7, 8, 9] rfl) (hD.sub [0, 1, 2, 3, 4, 5, 6, 7, 8, 9] rfl rfl) (Nat.le_refl _) (Nat.le_refl _)
  · exact (by exact absurd c1 hv2.1)
  · exact (by exact absurd c1 hv2.2.1)
  · exact (by exact absurd c1 hv2.2.2)
set_option maxHeartbeats 4000000 in
set_option maxRecDepth 100000 in
theorem c_X3_path (l : Launch) (g : va_G) (cI cJ cZ : ClassId) (x tk sc ga : Nat) (mh kr kq fq bq gq : Nat) (rcv ncl bl rd hd jn sn : Nat) (fo : Nat → Nat) (h q1 q2 q3 q4 q5 q6 q7 n : Nat) (pa ch kd ad ra su un : Nat → Nat) (mk sv : Nat) (top : Nat) (S L R : Nat → Nat) (rc : Nat → Bool) (sp : Nat → Bool) (rq nu : Nat → Nat) (v : Int32) (y dd : Nat) (hn : n < 2 ^ 25) (hR : RuleOK S L R rc top) (hI : wI top S L R sp rq nu ([]) n mk sv pa ch kd ad ra su un fo bl rd hd) (hyv : blk (adr top S L R) rq (lvs sp 1) v = y) (hy0 : y ≠ 0) (hdd : dd < 2 ^ 31) : kI l g (kty cI cJ cZ) yX3_path wsX3_path ({ frames := 2, cells := 0, slots := 0, locals := 48 }) [.ref x, .int v, .int (nI dd)] [(x, .inr (3, [.ref tk, .ref mh, .ref sc, .ref ga, .int (nI 1)])), (mh, .inr (0, [.ref kr, .ref h, .ref kq, .ref fq, .ref bq, .ref gq, .int (nI rcv), .int (nI ncl), .int (nI bl), .int (nI rd), .int (nI hd), .int (nI jn), .int (nI sn)])), (h, .inr (2, [.ref q1, .ref q2, .ref q3, .ref q4, .ref q5, .ref q6, .ref q7, .int (nI mk), .int (nI sv)])), (q1, .inl (cI, n, .inl (fun j => nI (pa j)))), (q2, .inl (cI, n, .inl (fun j => nI (ch j)))), (q3, .inl (cI, n, .inl (fun j => nI (kd j)))), (q4, .inl (cI, n, .inl (fun j => nI (ad j)))), (q5, .inl (cI, n, .inl (fun j => nI (ra j)))), (q6, .inl (cI, n, .inl (fun j => nI (su j)))), (q7, .inl (cI, n, .inl (fun j => nI (un j))))] (S := Unit) (fun r _ => r = if dep y ≤ dd then -1 else nI (y / 2 ^ (dep y - 1 - dd) % 2)) (fun u => [(x, .inr (3, [.ref tk, .ref mh, .ref sc, .ref ga, .int (nI 1)])), (mh, .inr (0, [.ref kr, .ref h, .ref kq, .ref fq, .ref bq, .ref gq, .int (nI rcv), .int (nI ncl), .int (nI bl), .int (nI rd), .int (nI hd), .int (nI jn), .int (nI sn)])), (h, .inr (2, [.ref q1, .ref q2, .ref q3, .ref q4, .ref q5, .ref q6, .ref q7, .int (nI mk), .int (nI sv)])), (q1, .inl (cI, n, .inl (fun j => nI (pa j)))), (q2, .inl (cI, n, .inl (fun j => nI (ch j)))), (q3, .inl (cI, n, .inl (fun j => nI (kd j)))), (q4, .inl (cI, n, .inl (fun j => nI (ad j)))), (q5, .inl (cI, n, .inl (fun j => nI (ra j)))), (q6, .inl (cI, n, .inl (fun j => nI (su j)))), (q7, .inl (cI, n, .inl (fun j => nI (un j))))]) 0 0 := by
  intro sz
  refine Met.ofW (cc := cX3_path) (maxL := 4) (ret := (some .int)) (by decide) rfl ?_
  intro p e s m args below meth c s₁ B hml hv
  obtain ⟨rfl, hsz, hP, hk, hD0⟩ := hv
  subst hsz
  have hx := B.exec
  have hb := B.bytes
  have hr := B.returns
  have hts := atoms_spec (ws := wsX3_path) B.pre
  have hown : s.vm.findClass RX3 = some m.cls := findClass_of_methodNamed B.named
  have hlocks := B.notSynchronized
  have hK := hk.1
  have hinX0 : ∀ w ∈ wsX00, w ∈ wsX3_path := by decide +kernel
  have hinX3 : ∀ w ∈ wsX30, w ∈ wsX3_path := by decide +kernel
  obtain ⟨A, hAe⟩ : ∃ A, va_A [(x, .inr (3, [.ref tk, .ref mh, .ref sc, .ref ga, .int (nI 1)])), (mh, .inr (0, [.ref kr, .ref h, .ref kq, .ref fq, .ref bq, .ref gq, .int (nI rcv), .int (nI ncl), .int (nI bl), .int (nI rd), .int (nI hd), .int (nI jn), .int (nI sn)])), (h, .inr (2, [.ref q1, .ref q2, .ref q3, .ref q4, .ref q5, .ref q6, .ref q7, .int (nI mk), .int (nI sv)])), (q1, .inl (cI, n, .inl (fun j => nI (pa j)))), (q2, .inl (cI, n, .inl (fun j => nI (ch j)))), (q3, .inl (cI, n, .inl (fun j => nI (kd j)))), (q4, .inl (cI, n, .inl (fun j => nI (ad j)))), (q5, .inl (cI, n, .inl (fun j => nI (ra j)))), (q6, .inl (cI, n, .inl (fun j => nI (su j)))), (q7, .inl (cI, n, .inl (fun j => nI (un j))))] s.heap.size = A := ⟨_, rfl⟩
  have hD := hD0.self (sz := s.heap.size)
  rw [hAe] at hD
  have hA : ∀ q : Nat, s.heap.size ≤ q → A q := fun q h => by rw [← hAe]; exact Or.inr h
  have hS : va_S A s.heap s.heap [] := va_S.rf
  have hl := lv_entry ([.ref x, .int v, .int (nI dd)]) (n := 4) (Nat.le_of_ble_eq_true rfl)
  rw [lg_entry_eq]
  generalize (lg_sl ([.ref x, .int v, .int (nI dd)]) ++ List.replicate (4 - (lg_sl ([.ref x, .int v, .int (nI dd)])).length) Slot.unset).toArray = ls at hl ⊢
  have hl : lv_has ls 4 [(0, .ref x), (1, .int v), (2, .int (nI dd))] := hl
  have hn25 := hn
  obtain ⟨a1, a2, a3, a4, a5, a6, a7, a8, -⟩ := hI.1.2.2.2.2.1
  have hn31 : n < 2 ^ 31 := by omega
  have hyl := blk_leaf (v := v) hR hI.1.1 (by rw [hyv]; exact hy0)
  rw [hyv] at hyl
  obtain ⟨hym, hyx, hys, hyr, hya⟩ := hyl
  have hyn := wI_nu hI hyx
  refine lv_aload_n hx hb dX3_path_0 rfl (lv_at hl 0 rfl) ?_
  refine lv_iload_n hx hb dX3_path_1 rfl (lv_at hl 1 rfl) ?_
  refine k_goI (wr := []) (va_runV (As := [.int v]) (rest := []) ⟨hx, hb, hml, hown, hts⟩ (c_X3_requireBlock l g cI cJ cZ x tk sc ga mh kr kq fq bq gq rcv ncl bl rd hd jn sn fo h q1 q2 q3 q4 q5 q6 q7 n pa ch kd ad ra su un mk sv top S L R rc sp rq nu v hn25 hR hI (by rw [hyv]; exact hy0) _) (cwV 1 hts gX3_path_X3_requireBlock rfl rfl rfl (by decide +kernel) ⟨Nat.le_of_ble_eq_true rfl, Nat.le_of_ble_eq_true rfl⟩) (k_preV hk hP hD [0, 1, 2, 3, 4, 5, 6, 7, 8, 9] rfl rfl (ci := 3) (q0 := 0) rfl rfl) rfl rfl hl.1 rfl (lv_room (Nat.le_of_ble_eq_true rfl)) dX3_path_2 ⟨by first | exact Nat.zero_le _ | omega, by first | exact Nat.zero_le _ | omega⟩) hP hD hS hA [0, 1, 2, 3, 4, 5, 6, 7, 8, 9] [] rfl rfl rfl (by decide) (fun rv _ H locs hu hP hD hS => ?_)
  subst hu
  rw [hyv]
  have hP : va_P g vwCl [(x, .inr (3, [.ref tk, .ref mh, .ref sc, .ref ga, .int (nI 1)])), (mh, .inr (0, [.ref kr, .ref h, .ref kq, .ref fq, .ref bq, .ref gq, .int (nI rcv), .int (nI ncl), .int (nI bl), .int (nI rd), .int (nI hd), .int (nI jn), .int (nI sn)])), (h, .inr (2, [.ref q1, .ref q2, .ref q3, .ref q4, .ref q5, .ref q6, .ref q7, .int (nI mk), .int (nI sv)])), (q1, .inl (cI, n, .inl (fun j => nI (pa j)))), (q2, .inl (cI, n, .inl (fun j => nI (ch j)))), (q3, .inl (cI, n, .inl (fun j => nI (kd j)))), (q4, .inl (cI, n, .inl (fun j => nI (ad j)))), (q5, .inl (cI, n, .inl (fun j => nI (ra j)))), (q6, .inl (cI, n, .inl (fun j => nI (su j)))), (q7, .inl (cI, n, .inl (fun j => nI (un j))))] H := hP
  have hD : va_D A [(x, .inr (3, [.ref tk, .ref mh, .ref sc, .ref ga, .int (nI 1)])), (mh, .inr (0, [.ref kr, .ref h, .ref kq, .ref fq, .ref bq, .ref gq, .int (nI rcv), .int (nI ncl), .int (nI bl), .int (nI rd), .int (nI hd), .int (nI jn), .int (nI sn)])), (h, .inr (2, [.ref q1, .ref q2, .ref q3, .ref q4, .ref q5, .ref q6, .ref q7, .int (nI mk), .int (nI sv)])), (q1, .inl (cI, n, .inl (fun j => nI (pa j)))), (q2, .inl (cI, n, .inl (fun j => nI (ch j)))), (q3, .inl (cI, n, .inl (fun j => nI (kd j)))), (q4, .inl (cI, n, .inl (fun j => nI (ad j)))), (q5, .inl (cI, n, .inl (fun j => nI (ra j)))), (q6, .inl (cI, n, .inl (fun j => nI (su j)))), (q7, .inl (cI, n, .inl (fun j => nI (un j))))] := hD
  refine lv_istore_n (lv' := [(3, .int (nI (nu y))), (0, .ref x), (1, .int v), (2, .int (nI dd))]) hx hb dX3_path_5 rfl hl (by decide) rfl (fun ls hl => ?_)
  refine lv_iload_n hx hb dX3_path_6 rfl (lv_at hl 3 rfl) ?_
  refine n_if_ge (tgt := 20) hx hb dX3_path_7 (by decide) (by first | assumption | omega) ?_
  refine lv_aload_n hx hb dX3_path_20 rfl (lv_at hl 1 rfl) ?_
  refine va_get (D := g) (ci := 3) (v := .ref mh) (C := RX3) (T := TX3) (N := 5) hx hb hts hinX3 hown hK hP 0 rfl rfl 1 (by decide) (hts (.fieldLink RX3 19 "BuddyRoof" "memory" "LBuddyRoof$Memory;") (by decide +kernel)) (fun _ h9 => h9) rfl dX3_path_21 ?_
  refine va_getN (D := g) (host := "BuddyRoof") (ci := 0) (v := .ref h) (C := RX0) (T := TX0) (N := 13) hx hb hts hinX0 hown hK hP 1 rfl rfl 1 (by decide) (hk.2.f (h := "BuddyRoof") (by decide +kernel)) (fun _ h9 => h9) rfl dX3_path_24 ?_
  refine lv_iload_n hx hb dX3_path_27 rfl (lv_at hl 0 rfl) ?_
  refine lv_iload_n hx hb dX3_path_28 rfl (lv_at hl 3 rfl) ?_
  refine k_goR (W.runV (As := [.int (nI (nu y)), .int (nI dd)]) (rest := []) ⟨hx, hb, hml, hown, hts⟩ (c_X2_sideAt l g cI cJ cZ h q1 q2 q3 q4 q5 q6 q7 n pa ch kd ad ra su un mk sv (nu y) dd hn31 hyn.2.1 a1 hdd) (cwV 2 hts gX3_path_X2_sideAt rfl rfl rfl (by decide +kernel) ⟨Nat.le_of_ble_eq_true rfl, Nat.le_of_ble_eq_true rfl⟩) (k_preRV hk hP [2, 3, 4, 5, 6, 7, 8, 9] rfl (ci := 2) (q0 := 0) rfl rfl) rfl rfl hl.1 rfl (lv_room (Nat.le_of_ble_eq_true rfl)) dX3_path_29 ⟨by first | exact Nat.zero_le _ | omega, by first | exact Nat.zero_le _ | omega⟩) ?_
  refine n_top _ (if dep y ≤ dd then -1 else nI (y / 2 ^ (dep y - 1 - dd) % 2)) (by exact side_at hR hI hyx dd) ?_
  have hP := hP.sub (ws' := [(x, .inr (3, [.ref tk, .ref mh, .ref sc, .ref ga, .int (nI 1)])), (mh, .inr (0, [.ref kr, .ref h, .ref kq, .ref fq, .ref bq, .ref gq, .int (nI rcv), .int (nI ncl), .int (nI bl), .int (nI rd), .int (nI hd), .int (nI jn), .int (nI sn)])), (h, .inr (2, [.ref q1, .ref q2, .ref q3, .ref q4, .ref q5, .ref q6, .ref q7, .int (nI mk), .int (nI sv)])), (q1, .inl (cI, n, .inl (fun j => nI (pa j)))), (q2, .inl (cI, n, .inl (fun j => nI (ch j)))), (q3, .inl (cI, n, .inl (fun j => nI (kd j)))), (q4, .inl (cI, n, .inl (fun j => nI (ad j)))), (q5, .inl (cI, n, .inl (fun j => nI (ra j)))), (q6, .inl (cI, n, .inl (fun j => nI (su j)))), (q7, .inl (cI, n, .inl (fun j => nI (un j))))]) [0, 1, 2, 3, 4, 5, 6, 7, 8, 9] rfl
  have hD := hD.sub (ws' := [(x, .inr (3, [.ref tk, .ref mh, .ref sc, .ref ga, .int (nI 1)])), (mh, .inr (0, [.ref kr, .ref h, .ref kq, .ref fq, .ref bq, .ref gq, .int (nI rcv), .int (nI ncl), .int (nI bl), .int (nI rd), .int (nI hd), .int (nI jn), .int (nI sn)])), (h, .inr (2, [.ref q1, .ref q2, .ref q3, .ref q4, .ref q5, .ref q6, .ref q7, .int (nI mk), .int (nI sv)])), (q1, .inl (cI, n, .inl (fun j => nI (pa j)))), (q2, .inl (cI, n, .inl (fun j => nI (ch j)))), (q3, .inl (cI, n, .inl (fun j => nI (kd j)))), (q4, .inl (cI, n, .inl (fun j => nI (ad j)))), (q5, .inl (cI, n, .inl (fun j => nI (ra j)))), (q6, .inl (cI, n, .inl (fun j => nI (su j)))), (q7, .inl (cI, n, .inl (fun j => nI (un j))))]) [0, 1, 2, 3, 4, 5, 6, 7, 8, 9] rfl rfl
  refine W.widen (k := 0) (n := 0) (by first | exact Nat.le_refl _ | omega) (by first | exact Nat.le_refl _ | omega) ?_
  exact k_retI (sz := 0) (v := if dep y ≤ dd then -1 else nI (y / 2 ^ (dep y - 1 - dd) % 2)) hx hb hr hlocks hAe hS hP hD () (rfl) (rfl) dX3_path_32
set_option maxHeartbeats 4000000 in
set_option maxRecDepth 100000 in
theorem c_X3_path_tM (l : Launch) (g : va_G) (cI cJ cZ : ClassId) (hst : l.stackTraces = false) (x tk sc ga : Nat) (mh : Nat) (v : Int32) (v2 : Int32)  : kT l g (kty cI cJ cZ) yX3_path wsX3_path ({ frames := 8, cells := 1, slots := 6, locals := 132 }) [.ref x, .int v, .int v2] [(x, .inr (3, [.ref tk, .ref mh, .ref sc, .ref ga, .int (nI 0)]))] [(x, .inr (3, [.ref tk, .ref mh, .ref sc, .ref ga, .int (nI 0)]))] xI := by
  intro sz
  refine vx_ofW (cc := cX3_path) (maxL := 4) (ret := (some .int)) (by decide) rfl ?_
  intro p e s m args below meth c s₁ B hml htab hv
  obtain ⟨rfl, ⟨hsz, hP, hk, hD0⟩, hxT, hxZ⟩ := hv
  subst hsz
  have hx := B.exec
  have hb := B.bytes
  have hr := B.returns
  have hts := atoms_spec (ws := wsX3_path) B.pre
  have hown : s.vm.findClass RX3 = some m.cls := findClass_of_methodNamed B.named
  have hlocks := B.notSynchronized
  have hK := hk.1
  obtain ⟨A, hAe⟩ : ∃ A, va_A [(x, .inr (3, [.ref tk, .ref mh, .ref sc, .ref ga, .int (nI 0)]))] s.heap.size = A := ⟨_, rfl⟩
  have hD := hD0.self (sz := s.heap.size)
  rw [hAe] at hD hxZ
  have hA : ∀ q : Nat, s.heap.size ≤ q → A q := fun q h => by rw [← hAe]; exact Or.inr h
  have hS : va_S A s.heap s.heap [] := va_S.rf
  have hl := lv_entry ([.ref x, .int v, .int v2]) (n := 4) (Nat.le_of_ble_eq_true rfl)
  rw [lg_entry_eq]
  generalize (lg_sl ([.ref x, .int v, .int v2]) ++ List.replicate (4 - (lg_sl ([.ref x, .int v, .int v2])).length) Slot.unset).toArray = ls at hl ⊢
  have hl : lv_has ls 4 [(0, .ref x), (1, .int v), (2, .int v2)] := hl
  refine lv_aload_n hx hb dX3_path_0 rfl (lv_at hl 0 rfl) ?_
  refine lv_iload_n hx hb dX3_path_1 rfl (lv_at hl 1 rfl) ?_
  refine k_goT (wr := []) (vx_runV (As := [.int v]) (rest := []) ⟨hx, hb, hml, hown, hts⟩ (c_X3_requireBlock_tM l g cI cJ cZ hst x tk sc ga mh v  _) (cwV 1 hts gX3_path_X3_requireBlock rfl rfl rfl (by decide +kernel) ⟨Nat.le_of_ble_eq_true rfl, Nat.le_of_ble_eq_true rfl⟩) (k_preVx hk hxT (hxZ.kept (fun a h1 h2 => hS.2.1 a h1 h2)) hP hD hS hA [0] rfl rfl (ci := 3) (q0 := 0) rfl rfl) rfl rfl hl.1 rfl (lv_room (Nat.le_of_ble_eq_true rfl)) dX3_path_2 ⟨Nat.le_of_ble_eq_true rfl, Nat.le_of_ble_eq_true rfl⟩) hP hD hS hA [0] [] rfl rfl rfl (by decide) (fun ce q9 H locs hP hD hS hkp hce hcv hcl => ?_)
  have hP : va_P g vwCl [(x, .inr (3, [.ref tk, .ref mh, .ref sc, .ref ga, .int (nI 0)]))] H := hP
  have hD : va_D A [(x, .inr (3, [.ref tk, .ref mh, .ref sc, .ref ga, .int (nI 0)]))] := hD
  exact k_out htab hlocks hce hcv hcl (hP.sub [0] rfl) (hD.sub [0] rfl rfl) hAe hS (Nat.le_refl _) (Nat.le_refl _)
set_option maxHeartbeats 4000000 in
set_option maxRecDepth 100000 in
theorem c_X3_path_tA (l : Launch) (g : va_G) (cI cJ cZ : ClassId) (hst : l.stackTraces = false) (x tk sc ga : Nat) (mh kr kq fq bq gq : Nat) (rcv ncl bl rd hd jn sn : Nat) (fo : Nat → Nat) (h q1 q2 q3 q4 q5 q6 q7 n : Nat) (pa ch kd ad ra su un : Nat → Nat) (mk sv : Nat) (top : Nat) (S L R : Nat → Nat) (rc : Nat → Bool) (sp : Nat → Bool) (rq nu : Nat → Nat) (v : Int32) (v2 : Int32) (hn : n < 2 ^ 25) (hR : RuleOK S L R rc top) (hI : wI top S L R sp rq nu ([]) n mk sv pa ch kd ad ra su un fo bl rd hd) (hyv : blk (adr top S L R) rq (lvs sp 1) v = 0) : kT l g (kty cI cJ cZ) yX3_path wsX3_path ({ frames := 7, cells := 1, slots := 6, locals := 112 }) [.ref x, .int v, .int v2] [(x, .inr (3, [.ref tk, .ref mh, .ref sc, .ref ga, .int (nI 1)])), (mh, .inr (0, [.ref kr, .ref h, .ref kq, .ref fq, .ref bq, .ref gq, .int (nI rcv), .int (nI ncl), .int (nI bl), .int (nI rd), .int (nI hd), .int (nI jn), .int (nI sn)])), (h, .inr (2, [.ref q1, .ref q2, .ref q3, .ref q4, .ref q5, .ref q6, .ref q7, .int (nI mk), .int (nI sv)])), (q1, .inl (cI, n, .inl (fun j => nI (pa j)))), (q2, .inl (cI, n, .inl (fun j => nI (ch j)))), (q3, .inl (cI, n, .inl (fun j => nI (kd j)))), (q4, .inl (cI, n, .inl (fun j => nI (ad j)))), (q5, .inl (cI, n, .inl (fun j => nI (ra j)))), (q6, .inl (cI, n, .inl (fun j => nI (su j)))), (q7, .inl (cI, n, .inl (fun j => nI (un j))))] [(x, .inr (3, [.ref tk, .ref mh, .ref sc, .ref ga, .int (nI 1)])), (mh, .inr (0, [.ref kr, .ref h, .ref kq, .ref fq, .ref bq, .ref gq, .int (nI rcv), .int (nI ncl), .int (nI bl), .int (nI rd), .int (nI hd), .int (nI jn), .int (nI sn)])), (h, .inr (2, [.ref q1, .ref q2, .ref q3, .ref q4, .ref q5, .ref q6, .ref q7, .int (nI mk), .int (nI sv)])), (q1, .inl (cI, n, .inl (fun j => nI (pa j)))), (q2, .inl (cI, n, .inl (fun j => nI (ch j)))), (q3, .inl (cI, n, .inl (fun j => nI (kd j)))), (q4, .inl (cI, n, .inl (fun j => nI (ad j)))), (q5, .inl (cI, n, .inl (fun j => nI (ra j)))), (q6, .inl (cI, n, .inl (fun j => nI (su j)))), (q7, .inl (cI, n, .inl (fun j => nI (un j))))] xA := by
  intro sz
  refine vx_ofW (cc := cX3_path) (maxL := 4) (ret := (some .int)) (by decide) rfl ?_
  intro p e s m args below meth c s₁ B hml htab hv
  obtain ⟨rfl, ⟨hsz, hP, hk, hD0⟩, hxT, hxZ⟩ := hv
  subst hsz
  have hx := B.exec
  have hb := B.bytes
  have hr := B.returns
  have hts := atoms_spec (ws := wsX3_path) B.pre
  have hown : s.vm.findClass RX3 = some m.cls := findClass_of_methodNamed B.named
  have hlocks := B.notSynchronized
  have hK := hk.1
  obtain ⟨A, hAe⟩ : ∃ A, va_A [(x, .inr (3, [.ref tk, .ref mh, .ref sc, .ref ga, .int (nI 1)])), (mh, .inr (0, [.ref kr, .ref h, .ref kq, .ref fq, .ref bq, .ref gq, .int (nI rcv), .int (nI ncl), .int (nI bl), .int (nI rd), .int (nI hd), .int (nI jn), .int (nI sn)])), (h, .inr (2, [.ref q1, .ref q2, .ref q3, .ref q4, .ref q5, .ref q6, .ref q7, .int (nI mk), .int (nI sv)])), (q1, .inl (cI, n, .inl (fun j => nI (pa j)))), (q2, .inl (cI, n, .inl (fun j => nI (ch j)))), (q3, .inl (cI, n, .inl (fun j => nI (kd j)))), (q4, .inl (cI, n, .inl (fun j => nI (ad j)))), (q5, .inl (cI, n, .inl (fun j => nI (ra j)))), (q6, .inl (cI, n, .inl (fun j => nI (su j)))), (q7, .inl (cI, n, .inl (fun j => nI (un j))))] s.heap.size = A := ⟨_, rfl⟩
  have hD := hD0.self (sz := s.heap.size)
  rw [hAe] at hD hxZ
  have hA : ∀ q : Nat, s.heap.size ≤ q → A q := fun q h => by rw [← hAe]; exact Or.inr h
  have hS : va_S A s.heap s.heap [] := va_S.rf
  have hl := lv_entry ([.ref x, .int v, .int v2]) (n := 4) (Nat.le_of_ble_eq_true rfl)
  rw [lg_entry_eq]
  generalize (lg_sl ([.ref x, .int v, .int v2]) ++ List.replicate (4 - (lg_sl ([.ref x, .int v, .int v2])).length) Slot.unset).toArray = ls at hl ⊢
  have hl : lv_has ls 4 [(0, .ref x), (1, .int v), (2, .int v2)] := hl
  have hn25 := hn
  refine lv_aload_n hx hb dX3_path_0 rfl (lv_at hl 0 rfl) ?_
  refine lv_iload_n hx hb dX3_path_1 rfl (lv_at hl 1 rfl) ?_
  refine k_goT (wr := []) (vx_runV (As := [.int v]) (rest := []) ⟨hx, hb, hml, hown, hts⟩ (c_X3_requireBlock_tA l g cI cJ cZ hst x tk sc ga mh kr kq fq bq gq rcv ncl bl rd hd jn sn fo h q1 q2 q3 q4 q5 q6 q7 n pa ch kd ad ra su un mk sv top S L R rc sp rq nu v hn25 hR hI hyv _) (cwV 1 hts gX3_path_X3_requireBlock rfl rfl rfl (by decide +kernel) ⟨Nat.le_of_ble_eq_true rfl, Nat.le_of_ble_eq_true rfl⟩) (k_preVx hk hxT (hxZ.kept (fun a h1 h2 => hS.2.1 a h1 h2)) hP hD hS hA [0, 1, 2, 3, 4, 5, 6, 7, 8, 9] rfl rfl (ci := 3) (q0 := 0) rfl rfl) rfl rfl hl.1 rfl (lv_room (Nat.le_of_ble_eq_true rfl)) dX3_path_2 ⟨Nat.le_of_ble_eq_true rfl, Nat.le_of_ble_eq_true rfl⟩) hP hD hS hA [0, 1, 2, 3, 4, 5, 6, 7, 8, 9] [] rfl rfl rfl (by decide) (fun ce q9 H locs hP hD hS hkp hce hcv hcl => ?_)
  have hP : va_P g vwCl [(x, .inr (3, [.ref tk, .ref mh, .ref sc, .ref ga, .int (nI 1)])), (mh, .inr (0, [.ref kr, .ref h, .ref kq, .ref fq, .ref bq, .ref gq, .int (nI rcv), .int (nI ncl), .int (nI bl), .int (nI rd), .int (nI hd), .int (nI jn), .int (nI sn)])), (h, .inr (2, [.ref q1, .ref q2, .ref q3, .ref q4, .ref q5, .ref q6, .ref q7, .int (nI mk), .int (nI sv)])), (q1, .inl (cI, n, .inl (fun j => nI (pa j)))), (q2, .inl (cI, n, .inl (fun j => nI (ch j)))), (q3, .inl (cI, n, .inl (fun j => nI (kd j)))), (q4, .inl (cI, n, .inl (fun j => nI (ad j)))), (q5, .inl (cI, n, .inl (fun j => nI (ra j)))), (q6, .inl (cI, n, .inl (fun j => nI (su j)))), (q7, .inl (cI, n, .inl (fun j => nI (un j))))] H := hP
  have hD : va_D A [(x, .inr (3, [.ref tk, .ref mh, .ref sc, .ref ga, .int (nI 1)])), (mh, .inr (0, [.ref kr, .ref h, .ref kq, .ref fq, .ref bq, .ref gq, .int (nI rcv), .int (nI ncl), .int (nI bl), .int (nI rd), .int (nI hd), .int (nI jn), .int (nI sn)])), (h, .inr (2, [.ref q1, .ref q2, .ref q3, .ref q4, .ref q5, .ref q6, .ref q7, .int (nI mk), .int (nI sv)])), (q1, .inl (cI, n, .inl (fun j => nI (pa j)))), (q2, .inl (cI, n, .inl (fun j => nI (ch j)))), (q3, .inl (cI, n, .inl (fun j => nI (kd j)))), (q4, .inl (cI, n, .inl (fun j => nI (ad j)))), (q5, .inl (cI, n, .inl (fun j => nI (ra j)))), (q6, .inl (cI, n, .inl (fun j => nI (su j)))), (q7, .inl (cI, n, .inl (fun j => nI (un j))))] := hD
  exact k_out htab hlocks hce hcv hcl (hP.sub [0, 1, 2, 3, 4, 5, 6, 7, 8, 9] rfl) (hD.sub [0, 1, 2, 3, 4, 5, 6, 7, 8, 9] rfl rfl) hAe hS (Nat.le_refl _) (Nat.le_refl _)
set_option maxHeartbeats 4000000 in
set_option maxRecDepth 100000 in
theorem c_X3_path_tW (l : Launch) (g : va_G) (cI cJ cZ : ClassId) (hst : l.stackTraces = false) (x tk sc ga : Nat) (mh kr kq fq bq gq : Nat) (rcv ncl bl rd hd jn sn : Nat) (fo : Nat → Nat) (h q1 q2 q3 q4 q5 q6 q7 n : Nat) (pa ch kd ad ra su un : Nat → Nat) (mk sv : Nat) (top : Nat) (S L R : Nat → Nat) (rc : Nat → Bool) (sp : Nat → Bool) (rq nu : Nat → Nat) (v v2 : Int32) (y : Nat) (hn : n < 2 ^ 25) (hR : RuleOK S L R rc top) (hI : wI top S L R sp rq nu ([]) n mk sv pa ch kd ad ra su un fo bl rd hd) (hyv : blk (adr top S L R) rq (lvs sp 1) v = y) (hy0 : y ≠ 0) (hv2 : v2 < 0) : kT l g (kty cI cJ cZ) yX3_path wsX3_path ({ frames := 6, cells := 1, slots := 6, locals := 90 }) [.ref x, .int v, .int v2] [(x, .inr (3, [.ref tk, .ref mh, .ref sc, .ref ga, .int (nI 1)])), (mh, .inr (0, [.ref kr, .ref h, .ref kq, .ref fq, .ref bq, .ref gq, .int (nI rcv), .int (nI ncl), .int (nI bl), .int (nI rd), .int (nI hd), .int (nI jn), .int (nI sn)])), (h, .inr (2, [.ref q1, .ref q2, .ref q3, .ref q4, .ref q5, .ref q6, .ref q7, .int (nI mk), .int (nI sv)])), (q1, .inl (cI, n, .inl (fun j => nI (pa j)))), (q2, .inl (cI, n, .inl (fun j => nI (ch j)))), (q3, .inl (cI, n, .inl (fun j => nI (kd j)))), (q4, .inl (cI, n, .inl (fun j => nI (ad j)))), (q5, .inl (cI, n, .inl (fun j => nI (ra j)))), (q6, .inl (cI, n, .inl (fun j => nI (su j)))), (q7, .inl (cI, n, .inl (fun j => nI (un j))))] [(x, .inr (3, [.ref tk, .ref mh, .ref sc, .ref ga, .int (nI 1)])), (mh, .inr (0, [.ref kr, .ref h, .ref kq, .ref fq, .ref bq, .ref gq, .int (nI rcv), .int (nI ncl), .int (nI bl), .int (nI rd), .int (nI hd), .int (nI jn), .int (nI sn)])), (h, .inr (2, [.ref q1, .ref q2, .ref q3, .ref q4, .ref q5, .ref q6, .ref q7, .int (nI mk), .int (nI sv)])), (q1, .inl (cI, n, .inl (fun j => nI (pa j)))), (q2, .inl (cI, n, .inl (fun j => nI (ch j)))), (q3, .inl (cI, n, .inl (fun j => nI (kd j)))), (q4, .inl (cI, n, .inl (fun j => nI (ad j)))), (q5, .inl (cI, n, .inl (fun j => nI (ra j)))), (q6, .inl (cI, n, .inl (fun j => nI (su j)))), (q7, .inl (cI, n, .inl (fun j => nI (un j))))] xA := by
  intro sz
  refine vx_ofW (cc := cX3_path) (maxL := 4) (ret := (some .int)) (by decide) rfl ?_
  intro p e s m args below meth c s₁ B hml htab hv
  obtain ⟨rfl, ⟨hsz, hP, hk, hD0⟩, hxT, hxZ⟩ := hv
  subst hsz
  have hx := B.exec
  have hb := B.bytes
  have hr := B.returns
  have hts := atoms_spec (ws := wsX3_path) B.pre
  have hown : s.vm.findClass RX3 = some m.cls := findClass_of_methodNamed B.named
  have hlocks := B.notSynchronized
  have hK := hk.1
  obtain ⟨A, hAe⟩ : ∃ A, va_A [(x, .inr (3, [.ref tk, .ref mh, .ref sc, .ref ga, .int (nI 1)])), (mh, .inr (0, [.ref kr, .ref h, .ref kq, .ref fq, .ref bq, .ref gq, .int (nI rcv), .int (nI ncl), .int (nI bl), .int (nI rd), .int (nI hd), .int (nI jn), .int (nI sn)])), (h, .inr (2, [.ref q1, .ref q2, .ref q3, .ref q4, .ref q5, .ref q6, .ref q7, .int (nI mk), .int (nI sv)])), (q1, .inl (cI, n, .inl (fun j => nI (pa j)))), (q2, .inl (cI, n, .inl (fun j => nI (ch j)))), (q3, .inl (cI, n, .inl (fun j => nI (kd j)))), (q4, .inl (cI, n, .inl (fun j => nI (ad j)))), (q5, .inl (cI, n, .inl (fun j => nI (ra j)))), (q6, .inl (cI, n, .inl (fun j => nI (su j)))), (q7, .inl (cI, n, .inl (fun j => nI (un j))))] s.heap.size = A := ⟨_, rfl⟩
  have hD := hD0.self (sz := s.heap.size)
  rw [hAe] at hD hxZ
  have hA : ∀ q : Nat, s.heap.size ≤ q → A q := fun q h => by rw [← hAe]; exact Or.inr h
  have hS : va_S A s.heap s.heap [] := va_S.rf
  have hl := lv_entry ([.ref x, .int v, .int v2]) (n := 4) (Nat.le_of_ble_eq_true rfl)
  rw [lg_entry_eq]
  generalize (lg_sl ([.ref x, .int v, .int v2]) ++ List.replicate (4 - (lg_sl ([.ref x, .int v, .int v2])).length) Slot.unset).toArray = ls at hl ⊢
  have hl : lv_has ls 4 [(0, .ref x), (1, .int v), (2, .int v2)] := hl
  have hn25 := hn
  have hyl := blk_leaf (v := v) hR hI.1.1 (by rw [hyv]; exact hy0)
  rw [hyv] at hyl
  obtain ⟨hym, hyx, hys, hyr, hya⟩ := hyl
  have hyn := wI_nu hI hyx
  refine lv_aload_n hx hb dX3_path_0 rfl (lv_at hl 0 rfl) ?_
  refine lv_iload_n hx hb dX3_path_1 rfl (lv_at hl 1 rfl) ?_
  refine k_goI (wr := []) (va_runV (As := [.int v]) (rest := []) ⟨hx, hb, hml, hown, hts⟩ (c_X3_requireBlock l g cI cJ cZ x tk sc ga mh kr kq fq bq gq rcv ncl bl rd hd jn sn fo h q1 q2 q3 q4 q5 q6 q7 n pa ch kd ad ra su un mk sv top S L R rc sp rq nu v hn25 hR hI (by rw [hyv]; exact hy0) _) (cwV 1 hts gX3_path_X3_requireBlock rfl rfl rfl (by decide +kernel) ⟨Nat.le_of_ble_eq_true rfl, Nat.le_of_ble_eq_true rfl⟩) (k_preV hk hP hD [0, 1, 2, 3, 4, 5, 6, 7, 8, 9] rfl rfl (ci := 3) (q0 := 0) rfl rfl) rfl rfl hl.1 rfl (lv_room (Nat.le_of_ble_eq_true rfl)) dX3_path_2 ⟨by first | exact Nat.zero_le _ | omega, by first | exact Nat.zero_le _ | omega⟩) hP hD hS hA [0, 1, 2, 3, 4, 5, 6, 7, 8, 9] [] rfl rfl rfl (by decide) (fun rv _ H locs hu hP hD hS => ?_)
  subst hu
  rw [hyv]
  have hP : va_P g vwCl [(x, .inr (3, [.ref tk, .ref mh, .ref sc, .ref ga, .int (nI 1)])), (mh, .inr (0, [.ref kr, .ref h, .ref kq, .ref fq, .ref bq, .ref gq, .int (nI rcv), .int (nI ncl), .int (nI bl), .int (nI rd), .int (nI hd), .int (nI jn), .int (nI sn)])), (h, .inr (2, [.ref q1, .ref q2, .ref q3, .ref q4, .ref q5, .ref q6, .ref q7, .int (nI mk), .int (nI sv)])), (q1, .inl (cI, n, .inl (fun j => nI (pa j)))), (q2, .inl (cI, n, .inl (fun j => nI (ch j)))), (q3, .inl (cI, n, .inl (fun j => nI (kd j)))), (q4, .inl (cI, n, .inl (fun j => nI (ad j)))), (q5, .inl (cI, n, .inl (fun j => nI (ra j)))), (q6, .inl (cI, n, .inl (fun j => nI (su j)))), (q7, .inl (cI, n, .inl (fun j => nI (un j))))] H := hP
  have hD : va_D A [(x, .inr (3, [.ref tk, .ref mh, .ref sc, .ref ga, .int (nI 1)])), (mh, .inr (0, [.ref kr, .ref h, .ref kq, .ref fq, .ref bq, .ref gq, .int (nI rcv), .int (nI ncl), .int (nI bl), .int (nI rd), .int (nI hd), .int (nI jn), .int (nI sn)])), (h, .inr (2, [.ref q1, .ref q2, .ref q3, .ref q4, .ref q5, .ref q6, .ref q7, .int (nI mk), .int (nI sv)])), (q1, .inl (cI, n, .inl (fun j => nI (pa j)))), (q2, .inl (cI, n, .inl (fun j => nI (ch j)))), (q3, .inl (cI, n, .inl (fun j => nI (kd j)))), (q4, .inl (cI, n, .inl (fun j => nI (ad j)))), (q5, .inl (cI, n, .inl (fun j => nI (ra j)))), (q6, .inl (cI, n, .inl (fun j => nI (su j)))), (q7, .inl (cI, n, .inl (fun j => nI (un j))))] := hD
  refine lv_istore_n (lv' := [(3, .int (nI (nu y))), (0, .ref x), (1, .int v), (2, .int v2)]) hx hb dX3_path_5 rfl hl (by decide) rfl (fun ls hl => ?_)
  refine lv_iload_n hx hb dX3_path_6 rfl (lv_at hl 3 rfl) ?_
  refine lv_if_ge (tgt := 20) hx hb dX3_path_7 (by decide) (fun c1 => ?_) (fun c1 => ?_)
  · exact (by exact absurd hv2 (Int32.not_lt.mpr c1))
  · skip
    exact k_throw (E := xA) (text := "a depth is 0 at least") hx hb hst hown (by decide +kernel) (hts (.classLink RX3 42 "java/lang/IllegalArgumentException") (by decide +kernel)) (hts (.initialized "java/lang/IllegalArgumentException") (by decide +kernel)) hxT (by decide +kernel) (fun w hw => hts w (List.mem_cons_of_mem _ (List.mem_append_left _ (List.mem_append_right _ hw)))) (by decide +kernel) (by decide +kernel) hxZ hAe hS (hl.1.trans hml.symm) dX3_path_10 dX3_path_13 dX3_path_14 dX3_path_16 dX3_path_19 htab (Nat.le_of_ble_eq_true rfl) (Nat.le_of_ble_eq_true rfl) (Nat.le_of_ble_eq_true rfl) (Nat.le_of_ble_eq_true rfl) hlocks (hP.sub [0, 1, 2, 3, 4, 5, 6, 7, 8, 9] rfl) (hD.sub [0, 1, 2, 3, 4, 5, 6, 7, 8, 9] rfl rfl) (Nat.le_refl _) (Nat.le_refl _)
