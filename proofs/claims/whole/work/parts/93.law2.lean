set_option maxHeartbeats 4000000 in
set_option maxRecDepth 100000 in
theorem c_L_block (l : Launch) (g : va_G) (cI cJ cZ : ClassId) (x tk sc ga : Nat) (mh kr kq fq bq gq : Nat) (rcv ncl bl rd hd jn sn : Nat) (fo : Nat → Nat) (h q1 q2 q3 q4 q5 q6 q7 n : Nat) (pa ch kd ad ra su un : Nat → Nat) (mk sv : Nat) (top : Nat) (S L R : Nat → Nat) (rc : Nat → Bool) (sp : Nat → Bool) (rq nu : Nat → Nat) (v v2 : Int32) (y : Nat) (oa : Nat) (ou : Nat → Int64) (hn : n < 2 ^ 25) (hR : RuleOK S L R rc top) (hI : wI top S L R sp rq nu ([]) n mk sv pa ch kd ad ra su un fo bl rd hd) (hyv : blk (adr top S L R) rq (lvs sp 1) v = y) (hy0 : y ≠ 0) (hv2 : v2 = nI 0 ∨ v2 = nI 1 ∨ v2 = nI 2) : kI l g (kty cI cJ cZ) yL_block wsL_block ({ frames := 3, cells := 0, slots := 0, locals := 69 }) [.ref x, .int v, .int v2, .ref oa] [(x, .inr (3, [.ref tk, .ref mh, .ref sc, .ref ga, .int (nI 1)])), (mh, .inr (0, [.ref kr, .ref h, .ref kq, .ref fq, .ref bq, .ref gq, .int (nI rcv), .int (nI ncl), .int (nI bl), .int (nI rd), .int (nI hd), .int (nI jn), .int (nI sn)])), (h, .inr (2, [.ref q1, .ref q2, .ref q3, .ref q4, .ref q5, .ref q6, .ref q7, .int (nI mk), .int (nI sv)])), (q1, .inl (cI, n, .inl (fun j => nI (pa j)))), (q2, .inl (cI, n, .inl (fun j => nI (ch j)))), (q3, .inl (cI, n, .inl (fun j => nI (kd j)))), (q4, .inl (cI, n, .inl (fun j => nI (ad j)))), (q5, .inl (cI, n, .inl (fun j => nI (ra j)))), (q6, .inl (cI, n, .inl (fun j => nI (su j)))), (q7, .inl (cI, n, .inl (fun j => nI (un j)))), (oa, .inl (cJ, 1, .inr (.inl ou)))] (S := Int32 × (Unit)) (fun r u => r = nI 0 ∧ (fun r _ => r = if v2 = nI 0 then nI (cls top L R y) else if v2 = nI 1 then nI (rq y) else nI (dep y)) u.1 u.2) (fun u => [(x, .inr (3, [.ref tk, .ref mh, .ref sc, .ref ga, .int (nI 1)])), (mh, .inr (0, [.ref kr, .ref h, .ref kq, .ref fq, .ref bq, .ref gq, .int (nI rcv), .int (nI ncl), .int (nI bl), .int (nI rd), .int (nI hd), .int (nI jn), .int (nI sn)])), (h, .inr (2, [.ref q1, .ref q2, .ref q3, .ref q4, .ref q5, .ref q6, .ref q7, .int (nI mk), .int (nI sv)])), (q1, .inl (cI, n, .inl (fun j => nI (pa j)))), (q2, .inl (cI, n, .inl (fun j => nI (ch j)))), (q3, .inl (cI, n, .inl (fun j => nI (kd j)))), (q4, .inl (cI, n, .inl (fun j => nI (ad j)))), (q5, .inl (cI, n, .inl (fun j => nI (ra j)))), (q6, .inl (cI, n, .inl (fun j => nI (su j)))), (q7, .inl (cI, n, .inl (fun j => nI (un j)))), (oa, .inl (cJ, 1, .inr (.inl (vp_updL ou 0 (u.1).toInt64))))]) 0 0 := by
  intro sz
  refine va_MetW (cc := cL_block) (maxL := 5) (ret := (some .int)) (by decide) rfl ?_
  intro p e s m args below meth c s₁ B hml hv
  obtain ⟨rfl, hsz, hP, hk, hD0⟩ := hv
  subst hsz
  have hx := B.exec
  have hb := B.bytes
  have hr := B.returns
  have hts := atoms_spec (ws := wsL_block) B.pre
  have hown : s.vm.findClass RL = some m.cls := findClass_of_methodNamed B.named
  have hlocks := B.notSynchronized
  have hK := hk.1
  obtain ⟨A, hAe⟩ : ∃ A, va_A [(x, .inr (3, [.ref tk, .ref mh, .ref sc, .ref ga, .int (nI 1)])), (mh, .inr (0, [.ref kr, .ref h, .ref kq, .ref fq, .ref bq, .ref gq, .int (nI rcv), .int (nI ncl), .int (nI bl), .int (nI rd), .int (nI hd), .int (nI jn), .int (nI sn)])), (h, .inr (2, [.ref q1, .ref q2, .ref q3, .ref q4, .ref q5, .ref q6, .ref q7, .int (nI mk), .int (nI sv)])), (q1, .inl (cI, n, .inl (fun j => nI (pa j)))), (q2, .inl (cI, n, .inl (fun j => nI (ch j)))), (q3, .inl (cI, n, .inl (fun j => nI (kd j)))), (q4, .inl (cI, n, .inl (fun j => nI (ad j)))), (q5, .inl (cI, n, .inl (fun j => nI (ra j)))), (q6, .inl (cI, n, .inl (fun j => nI (su j)))), (q7, .inl (cI, n, .inl (fun j => nI (un j)))), (oa, .inl (cJ, 1, .inr (.inl ou)))] s.heap.size = A := ⟨_, rfl⟩
  have hD := hD0.self (sz := s.heap.size)
  rw [hAe] at hD
  have hA : ∀ q : Nat, s.heap.size ≤ q → A q := fun q h => by rw [← hAe]; exact Or.inr h
  have hS : va_S A s.heap s.heap [] := va_S.rf
  have hl := lv_entry ([.ref x, .int v, .int v2, .ref oa]) (n := 5) (Nat.le_of_ble_eq_true rfl)
  rw [lg_entry_eq]
  generalize (lg_sl ([.ref x, .int v, .int v2, .ref oa]) ++ List.replicate (5 - (lg_sl ([.ref x, .int v, .int v2, .ref oa])).length) Slot.unset).toArray = ls at hl ⊢
  have hl : lv_has ls 5 [(0, .ref x), (1, .int v), (2, .int v2), (3, .ref oa)] := hl
  have htb : c.exceptionTable.toList = _ := vx_table (x := yL_block) B (hts _ List.mem_cons_self)
  refine lv_aload_n hx hb dL_block_0 rfl (lv_at hl 3 rfl) ?_
  refine lv_iconst (v := nI 0) hx hb dL_block_1 (by decide) ?_
  refine lv_aload_n hx hb dL_block_2 rfl (lv_at hl 0 rfl) ?_
  refine lv_iload_n hx hb dL_block_3 rfl (lv_at hl 1 rfl) ?_
  refine lv_iload_n hx hb dL_block_4 rfl (lv_at hl 2 rfl) ?_
  refine k_goI (wr := [(oa, .inl (cJ, 1, .inr (.inl ou)))]) (va_runV (As := [.int v, .int v2]) (rest := [.int (nI 0), .ref oa]) ⟨hx, hb, hml, hown, hts⟩ (c_X3_block l g cI cJ cZ x tk sc ga mh kr kq fq bq gq rcv ncl bl rd hd jn sn fo h q1 q2 q3 q4 q5 q6 q7 n pa ch kd ad ra su un mk sv top S L R rc sp rq nu v v2 y  hn hR hI hyv hy0 hv2 _) (cwV 2 hts gL_block_X3_block rfl rfl rfl (by decide +kernel) ⟨Nat.le_of_ble_eq_true rfl, Nat.le_of_ble_eq_true rfl⟩) (k_preV hk hP hD [0, 1, 2, 3, 4, 5, 6, 7, 8, 9] rfl rfl (ci := 3) (q0 := 0) rfl rfl) rfl rfl hl.1 rfl (lv_room (Nat.le_of_ble_eq_true rfl)) dL_block_5 ⟨by first | exact Nat.zero_le _ | omega, by first | exact Nat.zero_le _ | omega⟩) hP hD hS hA [0, 1, 2, 3, 4, 5, 6, 7, 8, 9] [10] rfl rfl rfl (by decide) (fun rv _ H locs hu hP hD hS => ?_)
  have hP : va_P g vwCl [(oa, .inl (cJ, 1, .inr (.inl ou))), (x, .inr (3, [.ref tk, .ref mh, .ref sc, .ref ga, .int (nI 1)])), (mh, .inr (0, [.ref kr, .ref h, .ref kq, .ref fq, .ref bq, .ref gq, .int (nI rcv), .int (nI ncl), .int (nI bl), .int (nI rd), .int (nI hd), .int (nI jn), .int (nI sn)])), (h, .inr (2, [.ref q1, .ref q2, .ref q3, .ref q4, .ref q5, .ref q6, .ref q7, .int (nI mk), .int (nI sv)])), (q1, .inl (cI, n, .inl (fun j => nI (pa j)))), (q2, .inl (cI, n, .inl (fun j => nI (ch j)))), (q3, .inl (cI, n, .inl (fun j => nI (kd j)))), (q4, .inl (cI, n, .inl (fun j => nI (ad j)))), (q5, .inl (cI, n, .inl (fun j => nI (ra j)))), (q6, .inl (cI, n, .inl (fun j => nI (su j)))), (q7, .inl (cI, n, .inl (fun j => nI (un j))))] H := hP
  have hD : va_D A [(oa, .inl (cJ, 1, .inr (.inl ou))), (x, .inr (3, [.ref tk, .ref mh, .ref sc, .ref ga, .int (nI 1)])), (mh, .inr (0, [.ref kr, .ref h, .ref kq, .ref fq, .ref bq, .ref gq, .int (nI rcv), .int (nI ncl), .int (nI bl), .int (nI rd), .int (nI hd), .int (nI jn), .int (nI sn)])), (h, .inr (2, [.ref q1, .ref q2, .ref q3, .ref q4, .ref q5, .ref q6, .ref q7, .int (nI mk), .int (nI sv)])), (q1, .inl (cI, n, .inl (fun j => nI (pa j)))), (q2, .inl (cI, n, .inl (fun j => nI (ch j)))), (q3, .inl (cI, n, .inl (fun j => nI (kd j)))), (q4, .inl (cI, n, .inl (fun j => nI (ad j)))), (q5, .inl (cI, n, .inl (fun j => nI (ra j)))), (q6, .inl (cI, n, .inl (fun j => nI (su j)))), (q7, .inl (cI, n, .inl (fun j => nI (un j))))] := hD
  refine lv_i2l hx hb dL_block_8 rfl ?_
  refine n_last hx hb hK hP hD hS 0 1 rfl rfl (i := 0) (v := ((rv).toInt64)) (by decide) (by decide) dL_block_9 (fun H locs hP hD hS => ?_)
  have hP : va_P g vwCl [(oa, .inl (cJ, 1, .inr (.inl (vp_updL ou 0 ((rv).toInt64))))), (x, .inr (3, [.ref tk, .ref mh, .ref sc, .ref ga, .int (nI 1)])), (mh, .inr (0, [.ref kr, .ref h, .ref kq, .ref fq, .ref bq, .ref gq, .int (nI rcv), .int (nI ncl), .int (nI bl), .int (nI rd), .int (nI hd), .int (nI jn), .int (nI sn)])), (h, .inr (2, [.ref q1, .ref q2, .ref q3, .ref q4, .ref q5, .ref q6, .ref q7, .int (nI mk), .int (nI sv)])), (q1, .inl (cI, n, .inl (fun j => nI (pa j)))), (q2, .inl (cI, n, .inl (fun j => nI (ch j)))), (q3, .inl (cI, n, .inl (fun j => nI (kd j)))), (q4, .inl (cI, n, .inl (fun j => nI (ad j)))), (q5, .inl (cI, n, .inl (fun j => nI (ra j)))), (q6, .inl (cI, n, .inl (fun j => nI (su j)))), (q7, .inl (cI, n, .inl (fun j => nI (un j))))] H := hP
  have hD : va_D A [(oa, .inl (cJ, 1, .inr (.inl (vp_updL ou 0 ((rv).toInt64))))), (x, .inr (3, [.ref tk, .ref mh, .ref sc, .ref ga, .int (nI 1)])), (mh, .inr (0, [.ref kr, .ref h, .ref kq, .ref fq, .ref bq, .ref gq, .int (nI rcv), .int (nI ncl), .int (nI bl), .int (nI rd), .int (nI hd), .int (nI jn), .int (nI sn)])), (h, .inr (2, [.ref q1, .ref q2, .ref q3, .ref q4, .ref q5, .ref q6, .ref q7, .int (nI mk), .int (nI sv)])), (q1, .inl (cI, n, .inl (fun j => nI (pa j)))), (q2, .inl (cI, n, .inl (fun j => nI (ch j)))), (q3, .inl (cI, n, .inl (fun j => nI (kd j)))), (q4, .inl (cI, n, .inl (fun j => nI (ad j)))), (q5, .inl (cI, n, .inl (fun j => nI (ra j)))), (q6, .inl (cI, n, .inl (fun j => nI (su j)))), (q7, .inl (cI, n, .inl (fun j => nI (un j))))] := hD
  refine lv_goto (tgt := 21) hx hb dL_block_10 (by decide) ?_
  refine lv_iconst (v := nI 0) hx hb dL_block_21 (by decide) ?_
  have hP := hP.sub (ws' := [(x, .inr (3, [.ref tk, .ref mh, .ref sc, .ref ga, .int (nI 1)])), (mh, .inr (0, [.ref kr, .ref h, .ref kq, .ref fq, .ref bq, .ref gq, .int (nI rcv), .int (nI ncl), .int (nI bl), .int (nI rd), .int (nI hd), .int (nI jn), .int (nI sn)])), (h, .inr (2, [.ref q1, .ref q2, .ref q3, .ref q4, .ref q5, .ref q6, .ref q7, .int (nI mk), .int (nI sv)])), (q1, .inl (cI, n, .inl (fun j => nI (pa j)))), (q2, .inl (cI, n, .inl (fun j => nI (ch j)))), (q3, .inl (cI, n, .inl (fun j => nI (kd j)))), (q4, .inl (cI, n, .inl (fun j => nI (ad j)))), (q5, .inl (cI, n, .inl (fun j => nI (ra j)))), (q6, .inl (cI, n, .inl (fun j => nI (su j)))), (q7, .inl (cI, n, .inl (fun j => nI (un j)))), (oa, .inl (cJ, 1, .inr (.inl (vp_updL ou 0 ((rv).toInt64)))))]) [1, 2, 3, 4, 5, 6, 7, 8, 9, 10, 0] rfl
  have hD := hD.sub (ws' := [(x, .inr (3, [.ref tk, .ref mh, .ref sc, .ref ga, .int (nI 1)])), (mh, .inr (0, [.ref kr, .ref h, .ref kq, .ref fq, .ref bq, .ref gq, .int (nI rcv), .int (nI ncl), .int (nI bl), .int (nI rd), .int (nI hd), .int (nI jn), .int (nI sn)])), (h, .inr (2, [.ref q1, .ref q2, .ref q3, .ref q4, .ref q5, .ref q6, .ref q7, .int (nI mk), .int (nI sv)])), (q1, .inl (cI, n, .inl (fun j => nI (pa j)))), (q2, .inl (cI, n, .inl (fun j => nI (ch j)))), (q3, .inl (cI, n, .inl (fun j => nI (kd j)))), (q4, .inl (cI, n, .inl (fun j => nI (ad j)))), (q5, .inl (cI, n, .inl (fun j => nI (ra j)))), (q6, .inl (cI, n, .inl (fun j => nI (su j)))), (q7, .inl (cI, n, .inl (fun j => nI (un j)))), (oa, .inl (cJ, 1, .inr (.inl (vp_updL ou 0 ((rv).toInt64)))))]) [1, 2, 3, 4, 5, 6, 7, 8, 9, 10, 0] rfl rfl
  refine W.widen (k := 0) (n := 0) (by first | exact Nat.le_refl _ | omega) (by first | exact Nat.le_refl _ | omega) ?_
  exact k_retI (sz := 0) (v := nI 0) hx hb hr hlocks hAe hS hP hD (rv, ()) (rfl) (⟨rfl, hu⟩) dL_block_22
set_option maxHeartbeats 4000000 in
set_option maxRecDepth 100000 in
theorem c_L_block_tM (l : Launch) (g : va_G) (cI cJ cZ : ClassId) (hst : l.stackTraces = false) (x tk sc ga : Nat) (mh : Nat) (v : Int32) (v2 : Int32) (oa : Nat) (ou : Nat → Int64)  : kIx l g (kty cI cJ cZ) yL_block wsL_block ({ frames := 9, cells := 1, slots := 6, locals := 155 }) [.ref x, .int v, .int v2, .ref oa] [(x, .inr (3, [.ref tk, .ref mh, .ref sc, .ref ga, .int (nI 0)])), (oa, .inl (cJ, 1, .inr (.inl ou)))] (S := Unit) (fun r _ => r = nI 1) (fun u => [(x, .inr (3, [.ref tk, .ref mh, .ref sc, .ref ga, .int (nI 0)])), (oa, .inl (cJ, 1, .inr (.inl ou)))]) 1 6 := by
  intro sz
  refine va_MetW (cc := cL_block) (maxL := 5) (ret := (some .int)) (by decide) rfl ?_
  intro p e s m args below meth c s₁ B hml hv
  obtain ⟨rfl, ⟨hsz, hP, hk, hD0⟩, hxT, hxZ⟩ := hv
  subst hsz
  have hx := B.exec
  have hb := B.bytes
  have hr := B.returns
  have hts := atoms_spec (ws := wsL_block) B.pre
  have hown : s.vm.findClass RL = some m.cls := findClass_of_methodNamed B.named
  have hlocks := B.notSynchronized
  have hK := hk.1
  obtain ⟨A, hAe⟩ : ∃ A, va_A [(x, .inr (3, [.ref tk, .ref mh, .ref sc, .ref ga, .int (nI 0)])), (oa, .inl (cJ, 1, .inr (.inl ou)))] s.heap.size = A := ⟨_, rfl⟩
  have hD := hD0.self (sz := s.heap.size)
  rw [hAe] at hD hxZ
  have hA : ∀ q : Nat, s.heap.size ≤ q → A q := fun q h => by rw [← hAe]; exact Or.inr h
  have hS : va_S A s.heap s.heap [] := va_S.rf
  have hl := lv_entry ([.ref x, .int v, .int v2, .ref oa]) (n := 5) (Nat.le_of_ble_eq_true rfl)
  rw [lg_entry_eq]
  generalize (lg_sl ([.ref x, .int v, .int v2, .ref oa]) ++ List.replicate (5 - (lg_sl ([.ref x, .int v, .int v2, .ref oa])).length) Slot.unset).toArray = ls at hl ⊢
  have hl : lv_has ls 5 [(0, .ref x), (1, .int v), (2, .int v2), (3, .ref oa)] := hl
  have htb : c.exceptionTable.toList = _ := vx_table (x := yL_block) B (hts _ List.mem_cons_self)
  refine lv_aload_n hx hb dL_block_0 rfl (lv_at hl 3 rfl) ?_
  refine lv_iconst (v := nI 0) hx hb dL_block_1 (by decide) ?_
  refine lv_aload_n hx hb dL_block_2 rfl (lv_at hl 0 rfl) ?_
  refine lv_iload_n hx hb dL_block_3 rfl (lv_at hl 1 rfl) ?_
  refine lv_iload_n hx hb dL_block_4 rfl (lv_at hl 2 rfl) ?_
  refine k_goT (wr := [(oa, .inl (cJ, 1, .inr (.inl ou)))]) (vx_runV (As := [.int v, .int v2]) (rest := [.int (nI 0), .ref oa]) ⟨hx, hb, hml, hown, hts⟩ (c_X3_block_tM l g cI cJ cZ hst x tk sc ga mh v v2   _) (cwV 2 hts gL_block_X3_block rfl rfl rfl (by decide +kernel) ⟨Nat.le_of_ble_eq_true rfl, Nat.le_of_ble_eq_true rfl⟩) (k_preVx hk hxT (hxZ.kept (fun a h1 h2 => hS.2.1 a h1 h2)) hP hD hS hA [0] rfl rfl (ci := 3) (q0 := 0) rfl rfl) rfl rfl hl.1 rfl (lv_room (Nat.le_of_ble_eq_true rfl)) dL_block_5 ⟨Nat.le_of_ble_eq_true rfl, Nat.le_of_ble_eq_true rfl⟩) hP hD hS hA [0] [1] rfl rfl rfl (by decide) (fun ce q9 H locs hP hD hS hkp hce hcv hcl => ?_)
  have hP : va_P g vwCl [(oa, .inl (cJ, 1, .inr (.inl ou))), (x, .inr (3, [.ref tk, .ref mh, .ref sc, .ref ga, .int (nI 0)]))] H := hP
  have hD : va_D A [(oa, .inl (cJ, 1, .inr (.inl ou))), (x, .inr (3, [.ref tk, .ref mh, .ref sc, .ref ga, .int (nI 0)]))] := hD
  refine vx_catch (E := xI) (own := RL) (name := "java/lang/IllegalStateException") hown [] ⟨0, 10, 13, 25⟩ [⟨0, 10, 17, 13⟩] htb (fun z hz => by cases hz) (by decide) (by decide) (hts (.classLink RL 25 "java/lang/IllegalStateException") (by decide +kernel)) (va_Nw.use rfl (hxT.2 _ (by decide +kernel))) hce hcv hcl ?_
  refine lv_astore (lv' := [(4, .ref q9), (0, .ref x), (1, .int v), (2, .int v2), (3, .ref oa)]) hx hb dL_block_13 hl (by decide) rfl (fun ls hl => ?_)
  refine lv_iconst (v := nI 1) hx hb dL_block_15 (by decide) ?_
  have hP := hP.sub (ws' := [(x, .inr (3, [.ref tk, .ref mh, .ref sc, .ref ga, .int (nI 0)])), (oa, .inl (cJ, 1, .inr (.inl ou)))]) [1, 0] rfl
  have hD := hD.sub (ws' := [(x, .inr (3, [.ref tk, .ref mh, .ref sc, .ref ga, .int (nI 0)])), (oa, .inl (cJ, 1, .inr (.inl ou)))]) [1, 0] rfl rfl
  refine W.widen (k := 1) (n := 6) (by first | exact Nat.le_refl _ | omega) (by first | exact Nat.le_refl _ | omega) ?_
  exact k_retI (sz := 0) (v := nI 1) hx hb hr hlocks hAe hS hP hD () (rfl) (rfl) dL_block_16
set_option maxHeartbeats 4000000 in
set_option maxRecDepth 100000 in
theorem c_L_block_tA (l : Launch) (g : va_G) (cI cJ cZ : ClassId) (hst : l.stackTraces = false) (x tk sc ga : Nat) (mh kr kq fq bq gq : Nat) (rcv ncl bl rd hd jn sn : Nat) (fo : Nat → Nat) (h q1 q2 q3 q4 q5 q6 q7 n : Nat) (pa ch kd ad ra su un : Nat → Nat) (mk sv : Nat) (top : Nat) (S L R : Nat → Nat) (rc : Nat → Bool) (sp : Nat → Bool) (rq nu : Nat → Nat) (v : Int32) (v2 : Int32) (oa : Nat) (ou : Nat → Int64) (hn : n < 2 ^ 25) (hR : RuleOK S L R rc top) (hI : wI top S L R sp rq nu ([]) n mk sv pa ch kd ad ra su un fo bl rd hd) (hyv : blk (adr top S L R) rq (lvs sp 1) v = 0) : kIc l g (kty cI cJ cZ) yL_block wsL_block ({ frames := 8, cells := 1, slots := 6, locals := 135 }) [.ref x, .int v, .int v2, .ref oa] [(x, .inr (3, [.ref tk, .ref mh, .ref sc, .ref ga, .int (nI 1)])), (mh, .inr (0, [.ref kr, .ref h, .ref kq, .ref fq, .ref bq, .ref gq, .int (nI rcv), .int (nI ncl), .int (nI bl), .int (nI rd), .int (nI hd), .int (nI jn), .int (nI sn)])), (h, .inr (2, [.ref q1, .ref q2, .ref q3, .ref q4, .ref q5, .ref q6, .ref q7, .int (nI mk), .int (nI sv)])), (q1, .inl (cI, n, .inl (fun j => nI (pa j)))), (q2, .inl (cI, n, .inl (fun j => nI (ch j)))), (q3, .inl (cI, n, .inl (fun j => nI (kd j)))), (q4, .inl (cI, n, .inl (fun j => nI (ad j)))), (q5, .inl (cI, n, .inl (fun j => nI (ra j)))), (q6, .inl (cI, n, .inl (fun j => nI (su j)))), (q7, .inl (cI, n, .inl (fun j => nI (un j)))), (oa, .inl (cJ, 1, .inr (.inl ou)))] (S := Unit) (fun r _ => r = nI 2) (fun u => [(x, .inr (3, [.ref tk, .ref mh, .ref sc, .ref ga, .int (nI 1)])), (mh, .inr (0, [.ref kr, .ref h, .ref kq, .ref fq, .ref bq, .ref gq, .int (nI rcv), .int (nI ncl), .int (nI bl), .int (nI rd), .int (nI hd), .int (nI jn), .int (nI sn)])), (h, .inr (2, [.ref q1, .ref q2, .ref q3, .ref q4, .ref q5, .ref q6, .ref q7, .int (nI mk), .int (nI sv)])), (q1, .inl (cI, n, .inl (fun j => nI (pa j)))), (q2, .inl (cI, n, .inl (fun j => nI (ch j)))), (q3, .inl (cI, n, .inl (fun j => nI (kd j)))), (q4, .inl (cI, n, .inl (fun j => nI (ad j)))), (q5, .inl (cI, n, .inl (fun j => nI (ra j)))), (q6, .inl (cI, n, .inl (fun j => nI (su j)))), (q7, .inl (cI, n, .inl (fun j => nI (un j)))), (oa, .inl (cJ, 1, .inr (.inl ou)))]) 1 6 := by
  intro sz
  refine va_MetW (cc := cL_block) (maxL := 5) (ret := (some .int)) (by decide) rfl ?_
  intro p e s m args below meth c s₁ B hml hv
  obtain ⟨rfl, ⟨hsz, hP, hk, hD0⟩, hxT, hxZ, hxC⟩ := hv
  subst hsz
  have hx := B.exec
  have hb := B.bytes
  have hr := B.returns
  have hts := atoms_spec (ws := wsL_block) B.pre
  have hown : s.vm.findClass RL = some m.cls := findClass_of_methodNamed B.named
  have hlocks := B.notSynchronized
  have hK := hk.1
  obtain ⟨A, hAe⟩ : ∃ A, va_A [(x, .inr (3, [.ref tk, .ref mh, .ref sc, .ref ga, .int (nI 1)])), (mh, .inr (0, [.ref kr, .ref h, .ref kq, .ref fq, .ref bq, .ref gq, .int (nI rcv), .int (nI ncl), .int (nI bl), .int (nI rd), .int (nI hd), .int (nI jn), .int (nI sn)])), (h, .inr (2, [.ref q1, .ref q2, .ref q3, .ref q4, .ref q5, .ref q6, .ref q7, .int (nI mk), .int (nI sv)])), (q1, .inl (cI, n, .inl (fun j => nI (pa j)))), (q2, .inl (cI, n, .inl (fun j => nI (ch j)))), (q3, .inl (cI, n, .inl (fun j => nI (kd j)))), (q4, .inl (cI, n, .inl (fun j => nI (ad j)))), (q5, .inl (cI, n, .inl (fun j => nI (ra j)))), (q6, .inl (cI, n, .inl (fun j => nI (su j)))), (q7, .inl (cI, n, .inl (fun j => nI (un j)))), (oa, .inl (cJ, 1, .inr (.inl ou)))] s.heap.size = A := ⟨_, rfl⟩
  have hD := hD0.self (sz := s.heap.size)
  rw [hAe] at hD hxZ
  have hA : ∀ q : Nat, s.heap.size ≤ q → A q := fun q h => by rw [← hAe]; exact Or.inr h
  have hS : va_S A s.heap s.heap [] := va_S.rf
  have hl := lv_entry ([.ref x, .int v, .int v2, .ref oa]) (n := 5) (Nat.le_of_ble_eq_true rfl)
  rw [lg_entry_eq]
  generalize (lg_sl ([.ref x, .int v, .int v2, .ref oa]) ++ List.replicate (5 - (lg_sl ([.ref x, .int v, .int v2, .ref oa])).length) Slot.unset).toArray = ls at hl ⊢
  have hl : lv_has ls 5 [(0, .ref x), (1, .int v), (2, .int v2), (3, .ref oa)] := hl
  have htb : c.exceptionTable.toList = _ := vx_table (x := yL_block) B (hts _ List.mem_cons_self)
  refine lv_aload_n hx hb dL_block_0 rfl (lv_at hl 3 rfl) ?_
  refine lv_iconst (v := nI 0) hx hb dL_block_1 (by decide) ?_
  refine lv_aload_n hx hb dL_block_2 rfl (lv_at hl 0 rfl) ?_
  refine lv_iload_n hx hb dL_block_3 rfl (lv_at hl 1 rfl) ?_
  refine lv_iload_n hx hb dL_block_4 rfl (lv_at hl 2 rfl) ?_
  refine k_goT (wr := [(oa, .inl (cJ, 1, .inr (.inl ou)))]) (vx_runV (As := [.int v, .int v2]) (rest := [.int (nI 0), .ref oa]) ⟨hx, hb, hml, hown, hts⟩ (c_X3_block_tA l g cI cJ cZ hst x tk sc ga mh kr kq fq bq gq rcv ncl bl rd hd jn sn fo h q1 q2 q3 q4 q5 q6 q7 n pa ch kd ad ra su un mk sv top S L R rc sp rq nu v v2  hn hR hI hyv _) (cwV 2 hts gL_block_X3_block rfl rfl rfl (by decide +kernel) ⟨Nat.le_of_ble_eq_true rfl, Nat.le_of_ble_eq_true rfl⟩) (k_preVx hk hxT (hxZ.kept (fun a h1 h2 => hS.2.1 a h1 h2)) hP hD hS hA [0, 1, 2, 3, 4, 5, 6, 7, 8, 9] rfl rfl (ci := 3) (q0 := 0) rfl rfl) rfl rfl hl.1 rfl (lv_room (Nat.le_of_ble_eq_true rfl)) dL_block_5 ⟨Nat.le_of_ble_eq_true rfl, Nat.le_of_ble_eq_true rfl⟩) hP hD hS hA [0, 1, 2, 3, 4, 5, 6, 7, 8, 9] [10] rfl rfl rfl (by decide) (fun ce q9 H locs hP hD hS hkp hce hcv hcl => ?_)
  have hP : va_P g vwCl [(oa, .inl (cJ, 1, .inr (.inl ou))), (x, .inr (3, [.ref tk, .ref mh, .ref sc, .ref ga, .int (nI 1)])), (mh, .inr (0, [.ref kr, .ref h, .ref kq, .ref fq, .ref bq, .ref gq, .int (nI rcv), .int (nI ncl), .int (nI bl), .int (nI rd), .int (nI hd), .int (nI jn), .int (nI sn)])), (h, .inr (2, [.ref q1, .ref q2, .ref q3, .ref q4, .ref q5, .ref q6, .ref q7, .int (nI mk), .int (nI sv)])), (q1, .inl (cI, n, .inl (fun j => nI (pa j)))), (q2, .inl (cI, n, .inl (fun j => nI (ch j)))), (q3, .inl (cI, n, .inl (fun j => nI (kd j)))), (q4, .inl (cI, n, .inl (fun j => nI (ad j)))), (q5, .inl (cI, n, .inl (fun j => nI (ra j)))), (q6, .inl (cI, n, .inl (fun j => nI (su j)))), (q7, .inl (cI, n, .inl (fun j => nI (un j))))] H := hP
  have hD : va_D A [(oa, .inl (cJ, 1, .inr (.inl ou))), (x, .inr (3, [.ref tk, .ref mh, .ref sc, .ref ga, .int (nI 1)])), (mh, .inr (0, [.ref kr, .ref h, .ref kq, .ref fq, .ref bq, .ref gq, .int (nI rcv), .int (nI ncl), .int (nI bl), .int (nI rd), .int (nI hd), .int (nI jn), .int (nI sn)])), (h, .inr (2, [.ref q1, .ref q2, .ref q3, .ref q4, .ref q5, .ref q6, .ref q7, .int (nI mk), .int (nI sv)])), (q1, .inl (cI, n, .inl (fun j => nI (pa j)))), (q2, .inl (cI, n, .inl (fun j => nI (ch j)))), (q3, .inl (cI, n, .inl (fun j => nI (kd j)))), (q4, .inl (cI, n, .inl (fun j => nI (ad j)))), (q5, .inl (cI, n, .inl (fun j => nI (ra j)))), (q6, .inl (cI, n, .inl (fun j => nI (su j)))), (q7, .inl (cI, n, .inl (fun j => nI (un j))))] := hD
  refine vx_catch (E := xA) (own := RL) (name := "java/lang/IllegalArgumentException") hown [⟨0, 10, 13, 25⟩] ⟨0, 10, 17, 13⟩ [] htb (fun z hz => by rw [List.mem_singleton.mp hz]; exact Or.inr ⟨by decide, _, hts (.classLink RL 25 "java/lang/IllegalStateException") (by decide +kernel), hxC⟩) (by decide) (by decide) (hts (.classLink RL 13 "java/lang/IllegalArgumentException") (by decide +kernel)) (va_Nw.use rfl (hxT.2 _ (by decide +kernel))) hce hcv hcl ?_
  refine lv_astore (lv' := [(4, .ref q9), (0, .ref x), (1, .int v), (2, .int v2), (3, .ref oa)]) hx hb dL_block_17 hl (by decide) rfl (fun ls hl => ?_)
  refine lv_iconst (v := nI 2) hx hb dL_block_19 (by decide) ?_
  have hP := hP.sub (ws' := [(x, .inr (3, [.ref tk, .ref mh, .ref sc, .ref ga, .int (nI 1)])), (mh, .inr (0, [.ref kr, .ref h, .ref kq, .ref fq, .ref bq, .ref gq, .int (nI rcv), .int (nI ncl), .int (nI bl), .int (nI rd), .int (nI hd), .int (nI jn), .int (nI sn)])), (h, .inr (2, [.ref q1, .ref q2, .ref q3, .ref q4, .ref q5, .ref q6, .ref q7, .int (nI mk), .int (nI sv)])), (q1, .inl (cI, n, .inl (fun j => nI (pa j)))), (q2, .inl (cI, n, .inl (fun j => nI (ch j)))), (q3, .inl (cI, n, .inl (fun j => nI (kd j)))), (q4, .inl (cI, n, .inl (fun j => nI (ad j)))), (q5, .inl (cI, n, .inl (fun j => nI (ra j)))), (q6, .inl (cI, n, .inl (fun j => nI (su j)))), (q7, .inl (cI, n, .inl (fun j => nI (un j)))), (oa, .inl (cJ, 1, .inr (.inl ou)))]) [1, 2, 3, 4, 5, 6, 7, 8, 9, 10, 0] rfl
  have hD := hD.sub (ws' := [(x, .inr (3, [.ref tk, .ref mh, .ref sc, .ref ga, .int (nI 1)])), (mh, .inr (0, [.ref kr, .ref h, .ref kq, .ref fq, .ref bq, .ref gq, .int (nI rcv), .int (nI ncl), .int (nI bl), .int (nI rd), .int (nI hd), .int (nI jn), .int (nI sn)])), (h, .inr (2, [.ref q1, .ref q2, .ref q3, .ref q4, .ref q5, .ref q6, .ref q7, .int (nI mk), .int (nI sv)])), (q1, .inl (cI, n, .inl (fun j => nI (pa j)))), (q2, .inl (cI, n, .inl (fun j => nI (ch j)))), (q3, .inl (cI, n, .inl (fun j => nI (kd j)))), (q4, .inl (cI, n, .inl (fun j => nI (ad j)))), (q5, .inl (cI, n, .inl (fun j => nI (ra j)))), (q6, .inl (cI, n, .inl (fun j => nI (su j)))), (q7, .inl (cI, n, .inl (fun j => nI (un j)))), (oa, .inl (cJ, 1, .inr (.inl ou)))]) [1, 2, 3, 4, 5, 6, 7, 8, 9, 10, 0] rfl rfl
  refine W.widen (k := 1) (n := 6) (by first | exact Nat.le_refl _ | omega) (by first | exact Nat.le_refl _ | omega) ?_
  exact k_retI (sz := 0) (v := nI 2) hx hb hr hlocks hAe hS hP hD () (rfl) (rfl) dL_block_20
set_option maxHeartbeats 4000000 in
set_option maxRecDepth 100000 in
theorem c_L_block_tW (l : Launch) (g : va_G) (cI cJ cZ : ClassId) (hst : l.stackTraces = false) (x tk sc ga : Nat) (mh kr kq fq bq gq : Nat) (rcv ncl bl rd hd jn sn : Nat) (fo : Nat → Nat) (h q1 q2 q3 q4 q5 q6 q7 n : Nat) (pa ch kd ad ra su un : Nat → Nat) (mk sv : Nat) (top : Nat) (S L R : Nat → Nat) (rc : Nat → Bool) (sp : Nat → Bool) (rq nu : Nat → Nat) (v v2 : Int32) (y : Nat) (oa : Nat) (ou : Nat → Int64) (hn : n < 2 ^ 25) (hR : RuleOK S L R rc top) (hI : wI top S L R sp rq nu ([]) n mk sv pa ch kd ad ra su un fo bl rd hd) (hyv : blk (adr top S L R) rq (lvs sp 1) v = y) (hy0 : y ≠ 0) (hv2 : ¬ v2 = nI 0 ∧ ¬ v2 = nI 1 ∧ ¬ v2 = nI 2) : kIc l g (kty cI cJ cZ) yL_block wsL_block ({ frames := 7, cells := 1, slots := 6, locals := 113 }) [.ref x, .int v, .int v2, .ref oa] [(x, .inr (3, [.ref tk, .ref mh, .ref sc, .ref ga, .int (nI 1)])), (mh, .inr (0, [.ref kr, .ref h, .ref kq, .ref fq, .ref bq, .ref gq, .int (nI rcv), .int (nI ncl), .int (nI bl), .int (nI rd), .int (nI hd), .int (nI jn), .int (nI sn)])), (h, .inr (2, [.ref q1, .ref q2, .ref q3, .ref q4, .ref q5, .ref q6, .ref q7, .int (nI mk), .int (nI sv)])), (q1, .inl (cI, n, .inl (fun j => nI (pa j)))), (q2, .inl (cI, n, .inl (fun j => nI (ch j)))), (q3, .inl (cI, n, .inl (fun j => nI (kd j)))), (q4, .inl (cI, n, .inl (fun j => nI (ad j)))), (q5, .inl (cI, n, .inl (fun j => nI (ra j)))), (q6, .inl (cI, n, .inl (fun j => nI (su j)))), (q7, .inl (cI, n, .inl (fun j => nI (un j)))), (oa, .inl (cJ, 1, .inr (.inl ou)))] (S := Unit) (fun r _ => r = nI 2) (fun u => [(x, .inr (3, [.ref tk, .ref mh, .ref sc, .ref ga, .int (nI 1)])), (mh, .inr (0, [.ref kr, .ref h, .ref kq, .ref fq, .ref bq, .ref gq, .int (nI rcv), .int (nI ncl), .int (nI bl), .int (nI rd), .int (nI hd), .int (nI jn), .int (nI sn)])), (h, .inr (2, [.ref q1, .ref q2, .ref q3, .ref q4, .ref q5, .ref q6, .ref q7, .int (nI mk), .int (nI sv)])), (q1, .inl (cI, n, .inl (fun j => nI (pa j)))), (q2, .inl (cI, n, .inl (fun j => nI (ch j)))), (q3, .inl (cI, n, .inl (fun j => nI (kd j)))), (q4, .inl (cI, n, .inl (fun j => nI (ad j)))), (q5, .inl (cI, n, .inl (fun j => nI (ra j)))), (q6, .inl (cI, n, .inl (fun j => nI (su j)))), (q7, .inl (cI, n, .inl (fun j => nI (un j)))), (oa, .inl (cJ, 1, .inr (.inl ou)))]) 1 6 := by
  intro sz
  refine va_MetW (cc := cL_block) (maxL := 5) (ret := (some .int)) (by decide) rfl ?_
  intro p e s m args below meth c s₁ B hml hv
  obtain ⟨rfl, ⟨hsz, hP, hk, hD0⟩, hxT, hxZ, hxC⟩ := hv
  subst hsz
  have hx := B.exec
  have hb := B.bytes
  have hr := B.returns
  have hts := atoms_spec (ws := wsL_block) B.pre
  have hown : s.vm.findClass RL = some m.cls := findClass_of_methodNamed B.named
  have hlocks := B.notSynchronized
  have hK := hk.1
  obtain ⟨A, hAe⟩ : ∃ A, va_A [(x, .inr (3, [.ref tk, .ref mh, .ref sc, .ref ga, .int (nI 1)])), (mh, .inr (0, [.ref kr, .ref h, .ref kq, .ref fq, .ref bq, .ref gq, .int (nI rcv), .int (nI ncl), .int (nI bl), .int (nI rd), .int (nI hd), .int (nI jn), .int (nI sn)])), (h, .inr (2, [.ref q1, .ref q2, .ref q3, .ref q4, .ref q5, .ref q6, .ref q7, .int (nI mk), .int (nI sv)])), (q1, .inl (cI, n, .inl (fun j => nI (pa j)))), (q2, .inl (cI, n, .inl (fun j => nI (ch j)))), (q3, .inl (cI, n, .inl (fun j => nI (kd j)))), (q4, .inl (cI, n, .inl (fun j => nI (ad j)))), (q5, .inl (cI, n, .inl (fun j => nI (ra j)))), (q6, .inl (cI, n, .inl (fun j => nI (su j)))), (q7, .inl (cI, n, .inl (fun j => nI (un j)))), (oa, .inl (cJ, 1, .inr (.inl ou)))] s.heap.size = A := ⟨_, rfl⟩
  have hD := hD0.self (sz := s.heap.size)
  rw [hAe] at hD hxZ
  have hA : ∀ q : Nat, s.heap.size ≤ q → A q := fun q h => by rw [← hAe]; exact Or.inr h
  have hS : va_S A s.heap s.heap [] := va_S.rf
  have hl := lv_entry ([.ref x, .int v, .int v2, .ref oa]) (n := 5) (Nat.le_of_ble_eq_true rfl)
  rw [lg_entry_eq]
  generalize (lg_sl ([.ref x, .int v, .int v2, .ref oa]) ++ List.replicate (5 - (lg_sl ([.ref x, .int v, .int v2, .ref oa])).length) Slot.unset).toArray = ls at hl ⊢
  have hl : lv_has ls 5 [(0, .ref x), (1, .int v), (2, .int v2), (3, .ref oa)] := hl
  have htb : c.exceptionTable.toList = _ := vx_table (x := yL_block) B (hts _ List.mem_cons_self)
  refine lv_aload_n hx hb dL_block_0 rfl (lv_at hl 3 rfl) ?_
  refine lv_iconst (v := nI 0) hx hb dL_block_1 (by decide) ?_
  refine lv_aload_n hx hb dL_block_2 rfl (lv_at hl 0 rfl) ?_
  refine lv_iload_n hx hb dL_block_3 rfl (lv_at hl 1 rfl) ?_
  refine lv_iload_n hx hb dL_block_4 rfl (lv_at hl 2 rfl) ?_
  refine k_goT (wr := [(oa, .inl (cJ, 1, .inr (.inl ou)))]) (vx_runV (As := [.int v, .int v2]) (rest := [.int (nI 0), .ref oa]) ⟨hx, hb, hml, hown, hts⟩ (c_X3_block_tW l g cI cJ cZ hst x tk sc ga mh kr kq fq bq gq rcv ncl bl rd hd jn sn fo h q1 q2 q3 q4 q5 q6 q7 n pa ch kd ad ra su un mk sv top S L R rc sp rq nu v v2 y  hn hR hI hyv hy0 hv2 _) (cwV 2 hts gL_block_X3_block rfl rfl rfl (by decide +kernel) ⟨Nat.le_of_ble_eq_true rfl, Nat.le_of_ble_eq_true rfl⟩) (k_preVx hk hxT (hxZ.kept (fun a h1 h2 => hS.2.1 a h1 h2)) hP hD hS hA [0, 1, 2, 3, 4, 5, 6, 7, 8, 9] rfl rfl (ci := 3) (q0 := 0) rfl rfl) rfl rfl hl.1 rfl (lv_room (Nat.le_of_ble_eq_true rfl)) dL_block_5 ⟨Nat.le_of_ble_eq_true rfl, Nat.le_of_ble_eq_true rfl⟩) hP hD hS hA [0, 1, 2, 3, 4, 5, 6, 7, 8, 9] [10] rfl rfl rfl (by decide) (fun ce q9 H locs hP hD hS hkp hce hcv hcl => ?_)
  have hP : va_P g vwCl [(oa, .inl (cJ, 1, .inr (.inl ou))), (x, .inr (3, [.ref tk, .ref mh, .ref sc, .ref ga, .int (nI 1)])), (mh, .inr (0, [.ref kr, .ref h, .ref kq, .ref fq, .ref bq, .ref gq, .int (nI rcv), .int (nI ncl), .int (nI bl), .int (nI rd), .int (nI hd), .int (nI jn), .int (nI sn)])), (h, .inr (2, [.ref q1, .ref q2, .ref q3, .ref q4, .ref q5, .ref q6, .ref q7, .int (nI mk), .int (nI sv)])), (q1, .inl (cI, n, .inl (fun j => nI (pa j)))), (q2, .inl (cI, n, .inl (fun j => nI (ch j)))), (q3, .inl (cI, n, .inl (fun j => nI (kd j)))), (q4, .inl (cI, n, .inl (fun j => nI (ad j)))), (q5, .inl (cI, n, .inl (fun j => nI (ra j)))), (q6, .inl (cI, n, .inl (fun j => nI (su j)))), (q7, .inl (cI, n, .inl (fun j => nI (un j))))] H := hP
  have hD : va_D A [(oa, .inl (cJ, 1, .inr (.inl ou))), (x, .inr (3, [.ref tk, .ref mh, .ref sc, .ref ga, .int (nI 1)])), (mh, .inr (0, [.ref kr, .ref h, .ref kq, .ref fq, .ref bq, .ref gq, .int (nI rcv), .int (nI ncl), .int (nI bl), .int (nI rd), .int (nI hd), .int (nI jn), .int (nI sn)])), (h, .inr (2, [.ref q1, .ref q2, .ref q3, .ref q4, .ref q5, .ref q6, .ref q7, .int (nI mk), .int (nI sv)])), (q1, .inl (cI, n, .inl (fun j => nI (pa j)))), (q2, .inl (cI, n, .inl (fun j => nI (ch j)))), (q3, .inl (cI, n, .inl (fun j => nI (kd j)))), (q4, .inl (cI, n, .inl (fun j => nI (ad j)))), (q5, .inl (cI, n, .inl (fun j => nI (ra j)))), (q6, .inl (cI, n, .inl (fun j => nI (su j)))), (q7, .inl (cI, n, .inl (fun j => nI (un j))))] := hD
  refine vx_catch (E := xA) (own := RL) (name := "java/lang/IllegalArgumentException") hown [⟨0, 10, 13, 25⟩] ⟨0, 10, 17, 13⟩ [] htb (fun z hz => by rw [List.mem_singleton.mp hz]; exact Or.inr ⟨by decide, _, hts (.classLink RL 25 "java/lang/IllegalStateException") (by decide +kernel), hxC⟩) (by decide) (by decide) (hts (.classLink RL 13 "java/lang/IllegalArgumentException") (by decide +kernel)) (va_Nw.use rfl (hxT.2 _ (by decide +kernel))) hce hcv hcl ?_
  refine lv_astore (lv' := [(4, .ref q9), (0, .ref x), (1, .int v), (2, .int v2), (3, .ref oa)]) hx hb dL_block_17 hl (by decide) rfl (fun ls hl => ?_)
  refine lv_iconst (v := nI 2) hx hb dL_block_19 (by decide) ?_
  have hP := hP.sub (ws' := [(x, .inr (3, [.ref tk, .ref mh, .ref sc, .ref ga, .int (nI 1)])), (mh, .inr (0, [.ref kr, .ref h, .ref kq, .ref fq, .ref bq, .ref gq, .int (nI rcv), .int (nI ncl), .int (nI bl), .int (nI rd), .int (nI hd), .int (nI jn), .int (nI sn)])), (h, .inr (2, [.ref q1, .ref q2, .ref q3, .ref q4, .ref q5, .ref q6, .ref q7, .int (nI mk), .int (nI sv)])), (q1, .inl (cI, n, .inl (fun j => nI (pa j)))), (q2, .inl (cI, n, .inl (fun j => nI (ch j)))), (q3, .inl (cI, n, .inl (fun j => nI (kd j)))), (q4, .inl (cI, n, .inl (fun j => nI (ad j)))), (q5, .inl (cI, n, .inl (fun j => nI (ra j)))), (q6, .inl (cI, n, .inl (fun j => nI (su j)))), (q7, .inl (cI, n, .inl (fun j => nI (un j)))), (oa, .inl (cJ, 1, .inr (.inl ou)))]) [1, 2, 3, 4, 5, 6, 7, 8, 9, 10, 0] rfl
  have hD := hD.sub (ws' := [(x, .inr (3, [.ref tk, .ref mh, .ref sc, .ref ga, .int (nI 1)])), (mh, .inr (0, [.ref kr, .ref h, .ref kq, .ref fq, .ref bq, .ref gq, .int (nI rcv), .int (nI ncl), .int (nI bl), .int (nI rd), .int (nI hd), .int (nI jn), .int (nI sn)])), (h, .inr (2, [.ref q1, .ref q2, .ref q3, .ref q4, .ref q5, .ref q6, .ref q7, .int (nI mk), .int (nI sv)])), (q1, .inl (cI, n, .inl (fun j => nI (pa j)))), (q2, .inl (cI, n, .inl (fun j => nI (ch j)))), (q3, .inl (cI, n, .inl (fun j => nI (kd j)))), (q4, .inl (cI, n, .inl (fun j => nI (ad j)))), (q5, .inl (cI, n, .inl (fun j => nI (ra j)))), (q6, .inl (cI, n, .inl (fun j => nI (su j)))), (q7, .inl (cI, n, .inl (fun j => nI (un j)))), (oa, .inl (cJ, 1, .inr (.inl ou)))]) [1, 2, 3, 4, 5, 6, 7, 8, 9, 10, 0] rfl rfl
  refine W.widen (k := 1) (n := 6) (by first | exact Nat.le_refl _ | omega) (by first | exact Nat.le_refl _ | omega) ?_
  exact k_retI (sz := 0) (v := nI 2) hx hb hr hlocks hAe hS hP hD () (rfl) (rfl) dL_block_20
set_option maxHeartbeats 4000000 in
set_option maxRecDepth 100000 in
theorem c_L_path (l : Launch) (g : va_G) (cI cJ cZ : ClassId) (x tk sc ga : Nat) (mh kr kq fq bq gq : Nat) (rcv ncl bl rd hd jn sn : Nat) (fo : Nat → Nat) (h q1 q2 q3 q4 q5 q6 q7 n : Nat) (pa ch kd ad ra su un : Nat → Nat) (mk sv : Nat) (top : Nat) (S L R : Nat → Nat) (rc : Nat → Bool) (sp : Nat → Bool) (rq nu : Nat → Nat) (v : Int32) (y dd : Nat) (oa : Nat) (ou : Nat → Int64) (hn : n < 2 ^ 25) (hR : RuleOK S L R rc top) (hI : wI top S L R sp rq nu ([]) n mk sv pa ch kd ad ra su un fo bl rd hd) (hyv : blk (adr top S L R) rq (lvs sp 1) v = y) (hy0 : y ≠ 0) (hdd : dd < 2 ^ 31) : kI l g (kty cI cJ cZ) yL_path wsL_path ({ frames := 3, cells := 0, slots := 0, locals := 71 }) [.ref x, .int v, .int (nI dd), .ref oa] [(x, .inr (3, [.ref tk, .ref mh, .ref sc, .ref ga, .int (nI 1)])), (mh, .inr (0, [.ref kr, .ref h, .ref kq, .ref fq, .ref bq, .ref gq, .int (nI rcv), .int (nI ncl), .int (nI bl), .int (nI rd), .int (nI hd), .int (nI jn), .int (nI sn)])), (h, .inr (2, [.ref q1, .ref q2, .ref q3, .ref q4, .ref q5, .ref q6, .ref q7, .int (nI mk), .int (nI sv)])), (q1, .inl (cI, n, .inl (fun j => nI (pa j)))), (q2, .inl (cI, n, .inl (fun j => nI (ch j)))), (q3, .inl (cI, n, .inl (fun j => nI (kd j)))), (q4, .inl (cI, n, .inl (fun j => nI (ad j)))), (q5, .inl (cI, n, .inl (fun j => nI (ra j)))), (q6, .inl (cI, n, .inl (fun j => nI (su j)))), (q7, .inl (cI, n, .inl (fun j => nI (un j)))), (oa, .inl (cJ, 1, .inr (.inl ou)))] (S := Int32 × (Unit)) (fun r u => r = nI 0 ∧ (fun r _ => r = if dep y ≤ dd then -1 else nI (y / 2 ^ (dep y - 1 - dd) % 2)) u.1 u.2) (fun u => [(x, .inr (3, [.ref tk, .ref mh, .ref sc, .ref ga, .int (nI 1)])), (mh, .inr (0, [.ref kr, .ref h, .ref kq, .ref fq, .ref bq, .ref gq, .int (nI rcv), .int (nI ncl), .int (nI bl), .int (nI rd), .int (nI hd), .int (nI jn), .int (nI sn)])), (h, .inr (2, [.ref q1, .ref q2, .ref q3, .ref q4, .ref q5, .ref q6, .ref q7, .int (nI mk), .int (nI sv)])), (q1, .inl (cI, n, .inl (fun j => nI (pa j)))), (q2, .inl (cI, n, .inl (fun j => nI (ch j)))), (q3, .inl (cI, n, .inl (fun j => nI (kd j)))), (q4, .inl (cI, n, .inl (fun j => nI (ad j)))), (q5, .inl (cI, n, .inl (fun j => nI (ra j)))), (q6, .inl (cI, n, .inl (fun j => nI (su j)))), (q7, .inl (cI, n, .inl (fun j => nI (un j)))), (oa, .inl (cJ, 1, .inr (.inl (vp_updL ou 0 (u.1).toInt64))))]) 0 0 := by
  intro sz
  refine va_MetW (cc := cL_path) (maxL := 5) (ret := (some .int)) (by decide) rfl ?_
  intro p e s m args below meth c s₁ B hml hv
  obtain ⟨rfl, hsz, hP, hk, hD0⟩ := hv
  subst hsz
  have hx := B.exec
  have hb := B.bytes
  have hr := B.returns
  have hts := atoms_spec (ws := wsL_path) B.pre
  have hown : s.vm.findClass RL = some m.cls := findClass_of_methodNamed B.named
  have hlocks := B.notSynchronized
  have hK := hk.1
  obtain ⟨A, hAe⟩ : ∃ A, va_A [(x, .inr (3, [.ref tk, .ref mh, .ref sc, .ref ga, .int (nI 1)])), (mh, .inr (0, [.ref kr, .ref h, .ref kq, .ref fq, .ref bq, .ref gq, .int (nI rcv), .int (nI ncl), .int (nI bl), .int (nI rd), .int (nI hd), .int (nI jn), .int (nI sn)])), (h, .inr (2, [.ref q1, .ref q2, .ref q3, .ref q4, .ref q5, .ref q6, .ref q7, .int (nI mk), .int (nI sv)])), (q1, .inl (cI, n, .inl (fun j => nI (pa j)))), (q2, .inl (cI, n, .inl (fun j => nI (ch j)))), (q3, .inl (cI, n, .inl (fun j => nI (kd j)))), (q4, .inl (cI, n, .inl (fun j => nI (ad j)))), (q5, .inl (cI, n, .inl (fun j => nI (ra j)))), (q6, .inl (cI, n, .inl (fun j => nI (su j)))), (q7, .inl (cI, n, .inl (fun j => nI (un j)))), (oa, .inl (cJ, 1, .inr (.inl ou)))] s.heap.size = A := ⟨_, rfl⟩
  have hD := hD0.self (sz := s.heap.size)
  rw [hAe] at hD
  have hA : ∀ q : Nat, s.heap.size ≤ q → A q := fun q h => by rw [← hAe]; exact Or.inr h
  have hS : va_S A s.heap s.heap [] := va_S.rf
  have hl := lv_entry ([.ref x, .int v, .int (nI dd), .ref oa]) (n := 5) (Nat.le_of_ble_eq_true rfl)
  rw [lg_entry_eq]
  generalize (lg_sl ([.ref x, .int v, .int (nI dd), .ref oa]) ++ List.replicate (5 - (lg_sl ([.ref x, .int v, .int (nI dd), .ref oa])).length) Slot.unset).toArray = ls at hl ⊢
  have hl : lv_has ls 5 [(0, .ref x), (1, .int v), (2, .int (nI dd)), (3, .ref oa)] := hl
  have htb : c.exceptionTable.toList = _ := vx_table (x := yL_path) B (hts _ List.mem_cons_self)
  refine lv_aload_n hx hb dL_path_0 rfl (lv_at hl 3 rfl) ?_
  refine lv_iconst (v := nI 0) hx hb dL_path_1 (by decide) ?_
  refine lv_aload_n hx hb dL_path_2 rfl (lv_at hl 0 rfl) ?_
  refine lv_iload_n hx hb dL_path_3 rfl (lv_at hl 1 rfl) ?_
  refine lv_iload_n hx hb dL_path_4 rfl (lv_at hl 2 rfl) ?_
  refine k_goI (wr := [(oa, .inl (cJ, 1, .inr (.inl ou)))]) (va_runV (As := [.int v, .int (nI dd)]) (rest := [.int (nI 0), .ref oa]) ⟨hx, hb, hml, hown, hts⟩ (c_X3_path l g cI cJ cZ x tk sc ga mh kr kq fq bq gq rcv ncl bl rd hd jn sn fo h q1 q2 q3 q4 q5 q6 q7 n pa ch kd ad ra su un mk sv top S L R rc sp rq nu v y dd  hn hR hI hyv hy0 hdd _) (cwV 2 hts gL_path_X3_path rfl rfl rfl (by decide +kernel) ⟨Nat.le_of_ble_eq_true rfl, Nat.le_of_ble_eq_true rfl⟩) (k_preV hk hP hD [0, 1, 2, 3, 4, 5, 6, 7, 8, 9] rfl rfl (ci := 3) (q0 := 0) rfl rfl) rfl rfl hl.1 rfl (lv_room (Nat.le_of_ble_eq_true rfl)) dL_path_5 ⟨by first | exact Nat.zero_le _ | omega, by first | exact Nat.zero_le _ | omega⟩) hP hD hS hA [0, 1, 2, 3, 4, 5, 6, 7, 8, 9] [10] rfl rfl rfl (by decide) (fun rv _ H locs hu hP hD hS => ?_)
  have hP : va_P g vwCl [(oa, .inl (cJ, 1, .inr (.inl ou))), (x, .inr (3, [.ref tk, .ref mh, .ref sc, .ref ga, .int (nI 1)])), (mh, .inr (0, [.ref kr, .ref h, .ref kq, .ref fq, .ref bq, .ref gq, .int (nI rcv), .int (nI ncl), .int (nI bl), .int (nI rd), .int (nI hd), .int (nI jn), .int (nI sn)])), (h, .inr (2, [.ref q1, .ref q2, .ref q3, .ref q4, .ref q5, .ref q6, .ref q7, .int (nI mk), .int (nI sv)])), (q1, .inl (cI, n, .inl (fun j => nI (pa j)))), (q2, .inl (cI, n, .inl (fun j => nI (ch j)))), (q3, .inl (cI, n, .inl (fun j => nI (kd j)))), (q4, .inl (cI, n, .inl (fun j => nI (ad j)))), (q5, .inl (cI, n, .inl (fun j => nI (ra j)))), (q6, .inl (cI, n, .inl (fun j => nI (su j)))), (q7, .inl (cI, n, .inl (fun j => nI (un j))))] H := hP
  have hD : va_D A [(oa, .inl (cJ, 1, .inr (.inl ou))), (x, .inr (3, [.ref tk, .ref mh, .ref sc, .ref ga, .int (nI 1)])), (mh, .inr (0, [.ref kr, .ref h, .ref kq, .ref fq, .ref bq, .ref gq, .int (nI rcv), .int (nI ncl), .int (nI bl), .int (nI rd), .int (nI hd), .int (nI jn), .int (nI sn)])), (h, .inr (2, [.ref q1, .ref q2, .ref q3, .ref q4, .ref q5, .ref q6, .ref q7, .int (nI mk), .int (nI sv)])), (q1, .inl (cI, n, .inl (fun j => nI (pa j)))), (q2, .inl (cI, n, .inl (fun j => nI (ch j)))), (q3, .inl (cI, n, .inl (fun j => nI (kd j)))), (q4, .inl (cI, n, .inl (fun j => nI (ad j)))), (q5, .inl (cI, n, .inl (fun j => nI (ra j)))), (q6, .inl (cI, n, .inl (fun j => nI (su j)))), (q7, .inl (cI, n, .inl (fun j => nI (un j))))] := hD
  refine lv_i2l hx hb dL_path_8 rfl ?_
  refine n_last hx hb hK hP hD hS 0 1 rfl rfl (i := 0) (v := ((rv).toInt64)) (by decide) (by decide) dL_path_9 (fun H locs hP hD hS => ?_)
  have hP : va_P g vwCl [(oa, .inl (cJ, 1, .inr (.inl (vp_updL ou 0 ((rv).toInt64))))), (x, .inr (3, [.ref tk, .ref mh, .ref sc, .ref ga, .int (nI 1)])), (mh, .inr (0, [.ref kr, .ref h, .ref kq, .ref fq, .ref bq, .ref gq, .int (nI rcv), .int (nI ncl), .int (nI bl), .int (nI rd), .int (nI hd), .int (nI jn), .int (nI sn)])), (h, .inr (2, [.ref q1, .ref q2, .ref q3, .ref q4, .ref q5, .ref q6, .ref q7, .int (nI mk), .int (nI sv)])), (q1, .inl (cI, n, .inl (fun j => nI (pa j)))), (q2, .inl (cI, n, .inl (fun j => nI (ch j)))), (q3, .inl (cI, n, .inl (fun j => nI (kd j)))), (q4, .inl (cI, n, .inl (fun j => nI (ad j)))), (q5, .inl (cI, n, .inl (fun j => nI (ra j)))), (q6, .inl (cI, n, .inl (fun j => nI (su j)))), (q7, .inl (cI, n, .inl (fun j => nI (un j))))] H := hP
  have hD : va_D A [(oa, .inl (cJ, 1, .inr (.inl (vp_updL ou 0 ((rv).toInt64))))), (x, .inr (3, [.ref tk, .ref mh, .ref sc, .ref ga, .int (nI 1)])), (mh, .inr (0, [.ref kr, .ref h, .ref kq, .ref fq, .ref bq, .ref gq, .int (nI rcv), .int (nI ncl), .int (nI bl), .int (nI rd), .int (nI hd), .int (nI jn), .int (nI sn)])), (h, .inr (2, [.ref q1, .ref q2, .ref q3, .ref q4, .ref q5, .ref q6, .ref q7, .int (nI mk), .int (nI sv)])), (q1, .inl (cI, n, .inl (fun j => nI (pa j)))), (q2, .inl (cI, n, .inl (fun j => nI (ch j)))), (q3, .inl (cI, n, .inl (fun j => nI (kd j)))), (q4, .inl (cI, n, .inl (fun j => nI (ad j)))), (q5, .inl (cI, n, .inl (fun j => nI (ra j)))), (q6, .inl (cI, n, .inl (fun j => nI (su j)))), (q7, .inl (cI, n, .inl (fun j => nI (un j))))] := hD
  refine lv_goto (tgt := 21) hx hb dL_path_10 (by decide) ?_
  refine lv_iconst (v := nI 0) hx hb dL_path_21 (by decide) ?_
  have hP := hP.sub (ws' := [(x, .inr (3, [.ref tk, .ref mh, .ref sc, .ref ga, .int (nI 1)])), (mh, .inr (0, [.ref kr, .ref h, .ref kq, .ref fq, .ref bq, .ref gq, .int (nI rcv), .int (nI ncl), .int (nI bl), .int (nI rd), .int (nI hd), .int (nI jn), .int (nI sn)])), (h, .inr (2, [.ref q1, .ref q2, .ref q3, .ref q4, .ref q5, .ref q6, .ref q7, .int (nI mk), .int (nI sv)])), (q1, .inl (cI, n, .inl (fun j => nI (pa j)))), (q2, .inl (cI, n, .inl (fun j => nI (ch j)))), (q3, .inl (cI, n, .inl (fun j => nI (kd j)))), (q4, .inl (cI, n, .inl (fun j => nI (ad j)))), (q5, .inl (cI, n, .inl (fun j => nI (ra j)))), (q6, .inl (cI, n, .inl (fun j => nI (su j)))), (q7, .inl (cI, n, .inl (fun j => nI (un j)))), (oa, .inl (cJ, 1, .inr (.inl (vp_updL ou 0 ((rv).toInt64)))))]) [1, 2, 3, 4, 5, 6, 7, 8, 9, 10, 0] rfl
  have hD := hD.sub (ws' := [(x, .inr (3, [.ref tk, .ref mh, .ref sc, .ref ga, .int (nI 1)])), (mh, .inr (0, [.ref kr, .ref h, .ref kq, .ref fq, .ref bq, .ref gq, .int (nI rcv), .int (nI ncl), .int (nI bl), .int (nI rd), .int (nI hd), .int (nI jn), .int (nI sn)])), (h, .inr (2, [.ref q1, .ref q2, .ref q3, .ref q4, .ref q5, .ref q6, .ref q7, .int (nI mk), .int (nI sv)])), (q1, .inl (cI, n, .inl (fun j => nI (pa j)))), (q2, .inl (cI, n, .inl (fun j => nI (ch j)))), (q3, .inl (cI, n, .inl (fun j => nI (kd j)))), (q4, .inl (cI, n, .inl (fun j => nI (ad j)))), (q5, .inl (cI, n, .inl (fun j => nI (ra j)))), (q6, .inl (cI, n, .inl (fun j => nI (su j)))), (q7, .inl (cI, n, .inl (fun j => nI (un j)))), (oa, .inl (cJ, 1, .inr (.inl (vp_updL ou 0 ((rv).toInt64)))))]) [1, 2, 3, 4, 5, 6, 7, 8, 9, 10, 0] rfl rfl
  refine W.widen (k := 0) (n := 0) (by first | exact Nat.le_refl _ | omega) (by first | exact Nat.le_refl _ | omega) ?_
  exact k_retI (sz := 0) (v := nI 0) hx hb hr hlocks hAe hS hP hD (rv, ()) (rfl) (⟨rfl, hu⟩) dL_path_22
set_option maxHeartbeats 4000000 in
set_option maxRecDepth 100000 in
theorem c_L_path_tM (l : Launch) (g : va_G) (cI cJ cZ : ClassId) (hst : l.stackTraces = false) (x tk sc ga : Nat) (mh : Nat) (v : Int32) (v2 : Int32) (oa : Nat) (ou : Nat → Int64)  : kIx l g (kty cI cJ cZ) yL_path wsL_path ({ frames := 9, cells := 1, slots := 6, locals := 155 }) [.ref x, .int v, .int v2, .ref oa] [(x, .inr (3, [.ref tk, .ref mh, .ref sc, .ref ga, .int (nI 0)])), (oa, .inl (cJ, 1, .inr (.inl ou)))] (S := Unit) (fun r _ => r = nI 1) (fun u => [(x, .inr (3, [.ref tk, .ref mh, .ref sc, .ref ga, .int (nI 0)])), (oa, .inl (cJ, 1, .inr (.inl ou)))]) 1 6 := by
  intro sz
  refine va_MetW (cc := cL_path) (maxL := 5) (ret := (some .int)) (by decide) rfl ?_
  intro p e s m args below meth c s₁ B hml hv
  obtain ⟨rfl, ⟨hsz, hP, hk, hD0⟩, hxT, hxZ⟩ := hv
  subst hsz
  have hx := B.exec
  have hb := B.bytes
  have hr := B.returns
  have hts := atoms_spec (ws := wsL_path) B.pre
  have hown : s.vm.findClass RL = some m.cls := findClass_of_methodNamed B.named
  have hlocks := B.notSynchronized
  have hK := hk.1
  obtain ⟨A, hAe⟩ : ∃ A, va_A [(x, .inr (3, [.ref tk, .ref mh, .ref sc, .ref ga, .int (nI 0)])), (oa, .inl (cJ, 1, .inr (.inl ou)))] s.heap.size = A := ⟨_, rfl⟩
  have hD := hD0.self (sz := s.heap.size)
  rw [hAe] at hD hxZ
  have hA : ∀ q : Nat, s.heap.size ≤ q → A q := fun q h => by rw [← hAe]; exact Or.inr h
  have hS : va_S A s.heap s.heap [] := va_S.rf
  have hl := lv_entry ([.ref x, .int v, .int v2, .ref oa]) (n := 5) (Nat.le_of_ble_eq_true rfl)
  rw [lg_entry_eq]
  generalize (lg_sl ([.ref x, .int v, .int v2, .ref oa]) ++ List.replicate (5 - (lg_sl ([.ref x, .int v, .int v2, .ref oa])).length) Slot.unset).toArray = ls at hl ⊢
  have hl : lv_has ls 5 [(0, .ref x), (1, .int v), (2, .int v2), (3, .ref oa)] := hl
  have htb : c.exceptionTable.toList = _ := vx_table (x := yL_path) B (hts _ List.mem_cons_self)
  refine lv_aload_n hx hb dL_path_0 rfl (lv_at hl 3 rfl) ?_
  refine lv_iconst (v := nI 0) hx hb dL_path_1 (by decide) ?_
  refine lv_aload_n hx hb dL_path_2 rfl (lv_at hl 0 rfl) ?_
  refine lv_iload_n hx hb dL_path_3 rfl (lv_at hl 1 rfl) ?_
  refine lv_iload_n hx hb dL_path_4 rfl (lv_at hl 2 rfl) ?_
  refine k_goT (wr := [(oa, .inl (cJ, 1, .inr (.inl ou)))]) (vx_runV (As := [.int v, .int v2]) (rest := [.int (nI 0), .ref oa]) ⟨hx, hb, hml, hown, hts⟩ (c_X3_path_tM l g cI cJ cZ hst x tk sc ga mh v v2   _) (cwV 2 hts gL_path_X3_path rfl rfl rfl (by decide +kernel) ⟨Nat.le_of_ble_eq_true rfl, Nat.le_of_ble_eq_true rfl⟩) (k_preVx hk hxT (hxZ.kept (fun a h1 h2 => hS.2.1 a h1 h2)) hP hD hS hA [0] rfl rfl (ci := 3) (q0 := 0) rfl rfl) rfl rfl hl.1 rfl (lv_room (Nat.le_of_ble_eq_true rfl)) dL_path_5 ⟨Nat.le_of_ble_eq_true rfl, Nat.le_of_ble_eq_true rfl⟩) hP hD hS hA [0] [1] rfl rfl rfl (by decide) (fun ce q9 H locs hP hD hS hkp hce hcv hcl => ?_)
  have hP : va_P g vwCl [(oa, .inl (cJ, 1, .inr (.inl ou))), (x, .inr (3, [.ref tk, .ref mh, .ref sc, .ref ga, .int (nI 0)]))] H := hP
  have hD : va_D A [(oa, .inl (cJ, 1, .inr (.inl ou))), (x, .inr (3, [.ref tk, .ref mh, .ref sc, .ref ga, .int (nI 0)]))] := hD
  refine vx_catch (E := xI) (own := RL) (name := "java/lang/IllegalStateException") hown [] ⟨0, 10, 13, 25⟩ [⟨0, 10, 17, 13⟩] htb (fun z hz => by cases hz) (by decide) (by decide) (hts (.classLink RL 25 "java/lang/IllegalStateException") (by decide +kernel)) (va_Nw.use rfl (hxT.2 _ (by decide +kernel))) hce hcv hcl ?_
  refine lv_astore (lv' := [(4, .ref q9), (0, .ref x), (1, .int v), (2, .int v2), (3, .ref oa)]) hx hb dL_path_13 hl (by decide) rfl (fun ls hl => ?_)
  refine lv_iconst (v := nI 1) hx hb dL_path_15 (by decide) ?_
  have hP := hP.sub (ws' := [(x, .inr (3, [.ref tk, .ref mh, .ref sc, .ref ga, .int (nI 0)])), (oa, .inl (cJ, 1, .inr (.inl ou)))]) [1, 0] rfl
  have hD := hD.sub (ws' := [(x, .inr (3, [.ref tk, .ref mh, .ref sc, .ref ga, .int (nI 0)])), (oa, .inl (cJ, 1, .inr (.inl ou)))]) [1, 0] rfl rfl
  refine W.widen (k := 1) (n := 6) (by first | exact Nat.le_refl _ | omega) (by first | exact Nat.le_refl _ | omega) ?_
  exact k_retI (sz := 0) (v := nI 1) hx hb hr hlocks hAe hS hP hD () (rfl) (rfl) dL_path_16
set_option maxHeartbeats 4000000 in
set_option maxRecDepth 100000 in
theorem c_L_path_tA (l : Launch) (g : va_G) (cI cJ cZ : ClassId) (hst : l.stackTraces = false) (x tk sc ga : Nat) (mh kr kq fq bq gq : Nat) (rcv ncl bl rd hd jn sn : Nat) (fo : Nat → Nat) (h q1 q2 q3 q4 q5 q6 q7 n : Nat) (pa ch kd ad ra su un : Nat → Nat) (mk sv : Nat) (top : Nat) (S L R : Nat → Nat) (rc : Nat → Bool) (sp : Nat → Bool) (rq nu : Nat → Nat) (v : Int32) (v2 : Int32) (oa : Nat) (ou : Nat → Int64) (hn : n < 2 ^ 25) (hR : RuleOK S L R rc top) (hI : wI top S L R sp rq nu ([]) n mk sv pa ch kd ad ra su un fo bl rd hd) (hyv : blk (adr top S L R) rq (lvs sp 1) v = 0) : kIc l g (kty cI cJ cZ) yL_path wsL_path ({ frames := 8, cells := 1, slots := 6, locals := 135 }) [.ref x, .int v, .int v2, .ref oa] [(x, .inr (3, [.ref tk, .ref mh, .ref sc, .ref ga, .int (nI 1)])), (mh, .inr (0, [.ref kr, .ref h, .ref kq, .ref fq, .ref bq, .ref gq, .int (nI rcv), .int (nI ncl), .int (nI bl), .int (nI rd), .int (nI hd), .int (nI jn), .int (nI sn)])), (h, .inr (2, [.ref q1, .ref q2, .ref q3, .ref q4, .ref q5, .ref q6, .ref q7, .int (nI mk), .int (nI sv)])), (q1, .inl (cI, n, .inl (fun j => nI (pa j)))), (q2, .inl (cI, n, .inl (fun j => nI (ch j)))), (q3, .inl (cI, n, .inl (fun j => nI (kd j)))), (q4, .inl (cI, n, .inl (fun j => nI (ad j)))), (q5, .inl (cI, n, .inl (fun j => nI (ra j)))), (q6, .inl (cI, n, .inl (fun j => nI (su j)))), (q7, .inl (cI, n, .inl (fun j => nI (un j)))), (oa, .inl (cJ, 1, .inr (.inl ou)))] (S := Unit) (fun r _ => r = nI 2) (fun u => [(x, .inr (3, [.ref tk, .ref mh, .ref sc, .ref ga, .int (nI 1)])), (mh, .inr (0, [.ref kr, .ref h, .ref kq, .ref fq, .ref bq, .ref gq, .int (nI rcv), .int (nI ncl), .int (nI bl), .int (nI rd), .int (nI hd), .int (nI jn), .int (nI sn)])), (h, .inr (2, [.ref q1, .ref q2, .ref q3, .ref q4, .ref q5, .ref q6, .ref q7, .int (nI mk), .int (nI sv)])), (q1, .inl (cI, n, .inl (fun j => nI (pa j)))), (q2, .inl (cI, n, .inl (fun j => nI (ch j)))), (q3, .inl (cI, n, .inl (fun j => nI (kd j)))), (q4, .inl (cI, n, .inl (fun j => nI (ad j)))), (q5, .inl (cI, n, .inl (fun j => nI (ra j)))), (q6, .inl (cI, n, .inl (fun j => nI (su j)))), (q7, .inl (cI, n, .inl (fun j => nI (un j)))), (oa, .inl (cJ, 1, .inr (.inl ou)))]) 1 6 := by
  intro sz
  refine va_MetW (cc := cL_path) (maxL := 5) (ret := (some .int)) (by decide) rfl ?_
  intro p e s m args below meth c s₁ B hml hv
  obtain ⟨rfl, ⟨hsz, hP, hk, hD0⟩, hxT, hxZ, hxC⟩ := hv
  subst hsz
  have hx := B.exec
  have hb := B.bytes
  have hr := B.returns
  have hts := atoms_spec (ws := wsL_path) B.pre
  have hown : s.vm.findClass RL = some m.cls := findClass_of_methodNamed B.named
  have hlocks := B.notSynchronized
  have hK := hk.1
  obtain ⟨A, hAe⟩ : ∃ A, va_A [(x, .inr (3, [.ref tk, .ref mh, .ref sc, .ref ga, .int (nI 1)])), (mh, .inr (0, [.ref kr, .ref h, .ref kq, .ref fq, .ref bq, .ref gq, .int (nI rcv), .int (nI ncl), .int (nI bl), .int (nI rd), .int (nI hd), .int (nI jn), .int (nI sn)])), (h, .inr (2, [.ref q1, .ref q2, .ref q3, .ref q4, .ref q5, .ref q6, .ref q7, .int (nI mk), .int (nI sv)])), (q1, .inl (cI, n, .inl (fun j => nI (pa j)))), (q2, .inl (cI, n, .inl (fun j => nI (ch j)))), (q3, .inl (cI, n, .inl (fun j => nI (kd j)))), (q4, .inl (cI, n, .inl (fun j => nI (ad j)))), (q5, .inl (cI, n, .inl (fun j => nI (ra j)))), (q6, .inl (cI, n, .inl (fun j => nI (su j)))), (q7, .inl (cI, n, .inl (fun j => nI (un j)))), (oa, .inl (cJ, 1, .inr (.inl ou)))] s.heap.size = A := ⟨_, rfl⟩
  have hD := hD0.self (sz := s.heap.size)
  rw [hAe] at hD hxZ
  have hA : ∀ q : Nat, s.heap.size ≤ q → A q := fun q h => by rw [← hAe]; exact Or.inr h
  have hS : va_S A s.heap s.heap [] := va_S.rf
  have hl := lv_entry ([.ref x, .int v, .int v2, .ref oa]) (n := 5) (Nat.le_of_ble_eq_true rfl)
  rw [lg_entry_eq]
  generalize (lg_sl ([.ref x, .int v, .int v2, .ref oa]) ++ List.replicate (5 - (lg_sl ([.ref x, .int v, .int v2, .ref oa])).length) Slot.unset).toArray = ls at hl ⊢
  have hl : lv_has ls 5 [(0, .ref x), (1, .int v), (2, .int v2), (3, .ref oa)] := hl
  have htb : c.exceptionTable.toList = _ := vx_table (x := yL_path) B (hts _ List.mem_cons_self)
  refine lv_aload_n hx hb dL_path_0 rfl (lv_at hl 3 rfl) ?_
  refine lv_iconst (v := nI 0) hx hb dL_path_1 (by decide) ?_
  refine lv_aload_n hx hb dL_path_2 rfl (lv_at hl 0 rfl) ?_
  refine lv_iload_n hx hb dL_path_3 rfl (lv_at hl 1 rfl) ?_
  refine lv_iload_n hx hb dL_path_4 rfl (lv_at hl 2 rfl) ?_
  refine k_goT (wr := [(oa, .inl (cJ, 1, .inr (.inl ou)))]) (vx_runV (As := [.int v, .int v2]) (rest := [.int (nI 0), .ref oa]) ⟨hx, hb, hml, hown, hts⟩ (c_X3_path_tA l g cI cJ cZ hst x tk sc ga mh kr kq fq bq gq rcv ncl bl rd hd jn sn fo h q1 q2 q3 q4 q5 q6 q7 n pa ch kd ad ra su un mk sv top S L R rc sp rq nu v v2  hn hR hI hyv _) (cwV 2 hts gL_path_X3_path rfl rfl rfl (by decide +kernel) ⟨Nat.le_of_ble_eq_true rfl, Nat.le_of_ble_eq_true rfl⟩) (k_preVx hk hxT (hxZ.kept (fun a h1 h2 => hS.2.1 a h1 h2)) hP hD hS hA [0, 1, 2, 3, 4, 5, 6, 7, 8, 9] rfl rfl (ci := 3) (q0 := 0) rfl rfl) rfl rfl hl.1 rfl (lv_room (Nat.le_of_ble_eq_true rfl)) dL_path_5 ⟨Nat.le_of_ble_eq_true rfl, Nat.le_of_ble_eq_true rfl⟩) hP hD hS hA [0, 1, 2, 3, 4, 5, 6, 7, 8, 9] [10] rfl rfl rfl (by decide) (fun ce q9 H locs hP hD hS hkp hce hcv hcl => ?_)
  have hP : va_P g vwCl [(oa, .inl (cJ, 1, .inr (.inl ou))), (x, .inr (3, [.ref tk, .ref mh, .ref sc, .ref ga, .int (nI 1)])), (mh, .inr (0, [.ref kr, .ref h, .ref kq, .ref fq, .ref bq, .ref gq, .int (nI rcv), .int (nI ncl), .int (nI bl), .int (nI rd), .int (nI hd), .int (nI jn), .int (nI sn)])), (h, .inr (2, [.ref q1, .ref q2, .ref q3, .ref q4, .ref q5, .ref q6, .ref q7, .int (nI mk), .int (nI sv)])), (q1, .inl (cI, n, .inl (fun j => nI (pa j)))), (q2, .inl (cI, n, .inl (fun j => nI (ch j)))), (q3, .inl (cI, n, .inl (fun j => nI (kd j)))), (q4, .inl (cI, n, .inl (fun j => nI (ad j)))), (q5, .inl (cI, n, .inl (fun j => nI (ra j)))), (q6, .inl (cI, n, .inl (fun j => nI (su j)))), (q7, .inl (cI, n, .inl (fun j => nI (un j))))] H := hP
  have hD : va_D A [(oa, .inl (cJ, 1, .inr (.inl ou))), (x, .inr (3, [.ref tk, .ref mh, .ref sc, .ref ga, .int (nI 1)])), (mh, .inr (0, [.ref kr, .ref h, .ref kq, .ref fq, .ref bq, .ref gq, .int (nI rcv), .int (nI ncl), .int (nI bl), .int (nI rd), .int (nI hd), .int (nI jn), .int (nI sn)])), (h, .inr (2, [.ref q1, .ref q2, .ref q3, .ref q4, .ref q5, .ref q6, .ref q7, .int (nI mk), .int (nI sv)])), (q1, .inl (cI, n, .inl (fun j => nI (pa j)))), (q2, .inl (cI, n, .inl (fun j => nI (ch j)))), (q3, .inl (cI, n, .inl (fun j => nI (kd j)))), (q4, .inl (cI, n, .inl (fun j => nI (ad j)))), (q5, .inl (cI, n, .inl (fun j => nI (ra j)))), (q6, .inl (cI, n, .inl (fun j => nI (su j)))), (q7, .inl (cI, n, .inl (fun j => nI (un j))))] := hD
  refine vx_catch (E := xA) (own := RL) (name := "java/lang/IllegalArgumentException") hown [⟨0, 10, 13, 25⟩] ⟨0, 10, 17, 13⟩ [] htb (fun z hz => by rw [List.mem_singleton.mp hz]; exact Or.inr ⟨by decide, _, hts (.classLink RL 25 "java/lang/IllegalStateException") (by decide +kernel), hxC⟩) (by decide) (by decide) (hts (.classLink RL 13 "java/lang/IllegalArgumentException") (by decide +kernel)) (va_Nw.use rfl (hxT.2 _ (by decide +kernel))) hce hcv hcl ?_
  refine lv_astore (lv' := [(4, .ref q9), (0, .ref x), (1, .int v), (2, .int v2), (3, .ref oa)]) hx hb dL_path_17 hl (by decide) rfl (fun ls hl => ?_)
  refine lv_iconst (v := nI 2) hx hb dL_path_19 (by decide) ?_
  have hP := hP.sub (ws' := [(x, .inr (3, [.ref tk, .ref mh, .ref sc, .ref ga, .int (nI 1)])), (mh, .inr (0, [.ref kr, .ref h, .ref kq, .ref fq, .ref bq, .ref gq, .int (nI rcv), .int (nI ncl), .int (nI bl), .int (nI rd), .int (nI hd), .int (nI jn), .int (nI sn)])), (h, .inr (2, [.ref q1, .ref q2, .ref q3, .ref q4, .ref q5, .ref q6, .ref q7, .int (nI mk), .int (nI sv)])), (q1, .inl (cI, n, .inl (fun j => nI (pa j)))), (q2, .inl (cI, n, .inl (fun j => nI (ch j)))), (q3, .inl (cI, n, .inl (fun j => nI (kd j)))), (q4, .inl (cI, n, .inl (fun j => nI (ad j)))), (q5, .inl (cI, n, .inl (fun j => nI (ra j)))), (q6, .inl (cI, n, .inl (fun j => nI (su j)))), (q7, .inl (cI, n, .inl (fun j => nI (un j)))), (oa, .inl (cJ, 1, .inr (.inl ou)))]) [1, 2, 3, 4, 5, 6, 7, 8, 9, 10, 0] rfl
  have hD := hD.sub (ws' := [(x, .inr (3, [.ref tk, .ref mh, .ref sc, .ref ga, .int (nI 1)])), (mh, .inr (0, [.ref kr, .ref h, .ref kq, .ref fq, .ref bq, .ref gq, .int (nI rcv), .int (nI ncl), .int (nI bl), .int (nI rd), .int (nI hd), .int (nI jn), .int (nI sn)])), (h, .inr (2, [.ref q1, .ref q2, .ref q3, .ref q4, .ref q5, .ref q6, .ref q7, .int (nI mk), .int (nI sv)])), (q1, .inl (cI, n, .inl (fun j => nI (pa j)))), (q2, .inl (cI, n, .inl (fun j => nI (ch j)))), (q3, .inl (cI, n, .inl (fun j => nI (kd j)))), (q4, .inl (cI, n, .inl (fun j => nI (ad j)))), (q5, .inl (cI, n, .inl (fun j => nI (ra j)))), (q6, .inl (cI, n, .inl (fun j => nI (su j)))), (q7, .inl (cI, n, .inl (fun j => nI (un j)))), (oa, .inl (cJ, 1, .inr (.inl ou)))]) [1, 2, 3, 4, 5, 6, 7, 8, 9, 10, 0] rfl rfl
  refine W.widen (k := 1) (n := 6) (by first | exact Nat.le_refl _ | omega) (by first | exact Nat.le_refl _ | omega) ?_
  exact k_retI (sz := 0) (v := nI 2) hx hb hr hlocks hAe hS hP hD () (rfl) (rfl) dL_path_20
set_option maxHeartbeats 4000000 in
set_option maxRecDepth 100000 in
theorem c_L_path_tW (l : Launch) (g : va_G) (cI cJ cZ : ClassId) (hst : l.stackTraces = false) (x tk sc ga : Nat) (mh kr kq fq bq gq : Nat) (rcv ncl bl rd hd jn sn : Nat) (fo : Nat → Nat) (h q1 q2 q3 q4 q5 q6 q7 n : Nat) (pa ch kd ad ra su un : Nat → Nat) (mk sv : Nat) (top : Nat) (S L R : Nat → Nat) (rc : Nat → Bool) (sp : Nat → Bool) (rq nu : Nat → Nat) (v v2 : Int32) (y : Nat) (oa : Nat) (ou : Nat → Int64) (hn : n < 2 ^ 25) (hR : RuleOK S L R rc top) (hI : wI top S L R sp rq nu ([]) n mk sv pa ch kd ad ra su un fo bl rd hd) (hyv : blk (adr top S L R) rq (lvs sp 1) v = y) (hy0 : y ≠ 0) (hv2 : v2 < 0) : kIc l g (kty cI cJ cZ) yL_path wsL_path ({ frames := 7, cells := 1, slots := 6, locals := 113 }) [.ref x, .int v, .int v2, .ref oa] [(x, .inr (3, [.ref tk, .ref mh, .ref sc, .ref ga, .int (nI 1)])), (mh, .inr (0, [.ref kr, .ref h, .ref kq, .ref fq, .ref bq, .ref gq, .int (nI rcv), .int (nI ncl), .int (nI bl), .int (nI rd), .int (nI hd), .int (nI jn), .int (nI sn)])), (h, .inr (2, [.ref q1, .ref q2, .ref q3, .ref q4, .ref q5, .ref q6, .ref q7, .int (nI mk), .int (nI sv)])), (q1, .inl (cI, n, .inl (fun j => nI (pa j)))), (q2, .inl (cI, n, .inl (fun j => nI (ch j)))), (q3, .inl (cI, n, .inl (fun j => nI (kd j)))), (q4, .inl (cI, n, .inl (fun j => nI (ad j)))), (q5, .inl (cI, n, .inl (fun j => nI (ra j)))), (q6, .inl (cI, n, .inl (fun j => nI (su j)))), (q7, .inl (cI, n, .inl (fun j => nI (un j)))), (oa, .inl (cJ, 1, .inr (.inl ou)))] (S := Unit) (fun r _ => r = nI 2) (fun u => [(x, .inr (3, [.ref tk, .ref mh, .ref sc, .ref ga, .int (nI 1)])), (mh, .inr (0, [.ref kr, .ref h, .ref kq, .ref fq, .ref bq, .ref gq, .int (nI rcv), .int (nI ncl), .int (nI bl), .int (nI rd), .int (nI hd), .int (nI jn), .int (nI sn)])), (h, .inr (2, [.ref q1, .ref q2, .ref q3, .ref q4, .ref q5, .ref q6, .ref q7, .int (nI mk), .int (nI sv)])), (q1, .inl (cI, n, .inl (fun j => nI (pa j)))), (q2, .inl (cI, n, .inl (fun j => nI (ch j)))), (q3, .inl (cI, n, .inl (fun j => nI (kd j)))), (q4, .inl (cI, n, .inl (fun j => nI (ad j)))), (q5, .inl (cI, n, .inl (fun j => nI (ra j)))), (q6, .inl (cI, n, .inl (fun j => nI (su j)))), (q7, .inl (cI, n, .inl (fun j => nI (un j)))), (oa, .inl (cJ, 1, .inr (.inl ou)))]) 1 6 := by
  intro sz
  refine va_MetW (cc := cL_path) (maxL := 5) (ret := (some .int)) (by decide) rfl ?_
  intro p e s m args below meth c s₁ B hml hv
  obtain ⟨rfl, ⟨hsz, hP, hk, hD0⟩, hxT, hxZ, hxC⟩ := hv
  subst hsz
  have hx := B.exec
  have hb := B.bytes
  have hr := B.returns
  have hts := atoms_spec (ws := wsL_path) B.pre
  have hown : s.vm.findClass RL = some m.cls := findClass_of_methodNamed B.named
  have hlocks := B.notSynchronized
  have hK := hk.1
  obtain ⟨A, hAe⟩ : ∃ A, va_A [(x, .inr (3, [.ref tk, .ref mh, .ref sc, .ref ga, .int (nI 1)])), (mh, .inr (0, [.ref kr, .ref h, .ref kq, .ref fq, .ref bq, .ref gq, .int (nI rcv), .int (nI ncl), .int (nI bl), .int (nI rd), .int (nI hd), .int (nI jn), .int (nI sn)])), (h, .inr (2, [.ref q1, .ref q2, .ref q3, .ref q4, .ref q5, .ref q6, .ref q7, .int (nI mk), .int (nI sv)])), (q1, .inl (cI, n, .inl (fun j => nI (pa j)))), (q2, .inl (cI, n, .inl (fun j => nI (ch j)))), (q3, .inl (cI, n, .inl (fun j => nI (kd j)))), (q4, .inl (cI, n, .inl (fun j => nI (ad j)))), (q5, .inl (cI, n, .inl (fun j => nI (ra j)))), (q6, .inl (cI, n, .inl (fun j => nI (su j)))), (q7, .inl (cI, n, .inl (fun j => nI (un j)))), (oa, .inl (cJ, 1, .inr (.inl ou)))] s.heap.size = A := ⟨_, rfl⟩
  have hD := hD0.self (sz := s.heap.size)
  rw [hAe] at hD hxZ
  have hA : ∀ q : Nat, s.heap.size ≤ q → A q := fun q h => by rw [← hAe]; exact Or.inr h
  have hS : va_S A s.heap s.heap [] := va_S.rf
  have hl := lv_entry ([.ref x, .int v, .int v2, .ref oa]) (n := 5) (Nat.le_of_ble_eq_true rfl)
  rw [lg_entry_eq]
  generalize (lg_sl ([.ref x, .int v, .int v2, .ref oa]) ++ List.replicate (5 - (lg_sl ([.ref x, .int v, .int v2, .ref oa])).length) Slot.unset).toArray = ls at hl ⊢
  have hl : lv_has ls 5 [(0, .ref x), (1, .int v), (2, .int v2), (3, .ref oa)] := hl
  have htb : c.exceptionTable.toList = _ := vx_table (x := yL_path) B (hts _ List.mem_cons_self)
  refine lv_aload_n hx hb dL_path_0 rfl (lv_at hl 3 rfl) ?_
  refine lv_iconst (v := nI 0) hx hb dL_path_1 (by decide) ?_
  refine lv_aload_n hx hb dL_path_2 rfl (lv_at hl 0 rfl) ?_
  refine lv_iload_n hx hb dL_path_3 rfl (lv_at hl 1 rfl) ?_
  refine lv_iload_n hx hb dL_path_4 rfl (lv_at hl 2 rfl) ?_
  refine k_goT (wr := [(oa, .inl (cJ, 1, .inr (.inl ou)))]) (vx_runV (As := [.int v, .int v2]) (rest := [.int (nI 0), .ref oa]) ⟨hx, hb, hml, hown, hts⟩ (c_X3_path_tW l g cI cJ cZ hst x tk sc ga mh kr kq fq bq gq rcv ncl bl rd hd jn sn fo h q1 q2 q3 q4 q5 q6 q7 n pa ch kd ad ra su un mk sv top S L R rc sp rq nu v v2 y  hn hR hI hyv hy0 hv2 _) (cwV 2 hts gL_path_X3_path rfl rfl rfl (by decide +kernel) ⟨Nat.le_of_ble_eq_true rfl, Nat.le_of_ble_eq_true rfl⟩) (k_preVx hk hxT (hxZ.kept (fun a h1 h2 => hS.2.1 a h1 h2)) hP hD hS hA [0, 1, 2, 3, 4, 5, 6, 7, 8, 9] rfl rfl (ci := 3) (q0 := 0) rfl rfl) rfl rfl hl.1 rfl (lv_room (Nat.le_of_ble_eq_true rfl)) dL_path_5 ⟨Nat.le_of_ble_eq_true rfl, Nat.le_of_ble_eq_true rfl⟩) hP hD hS hA [0, 1, 2, 3, 4, 5, 6, 7, 8, 9] [10] rfl rfl rfl (by decide) (fun ce q9 H locs hP hD hS hkp hce hcv hcl => ?_)
  have hP : va_P g vwCl [(oa, .inl (cJ, 1, .inr (.inl ou))), (x, .inr (3, [.ref tk, .ref mh, .ref sc, .ref ga, .int (nI 1)])), (mh, .inr (0, [.ref kr, .ref h, .ref kq, .ref fq, .ref bq, .ref gq, .int (nI rcv), .int (nI ncl), .int (nI bl), .int (nI rd), .int (nI hd), .int (nI jn), .int (nI sn)])), (h, .inr (2, [.ref q1, .ref q2, .ref q3, .ref q4, .ref q5, .ref q6, .ref q7, .int (nI mk), .int (nI sv)])), (q1, .inl (cI, n, .inl (fun j => nI (pa j)))), (q2, .inl (cI, n, .inl (fun j => nI (ch j)))), (q3, .inl (cI, n, .inl (fun j => nI (kd j)))), (q4, .inl (cI, n, .inl (fun j => nI (ad j)))), (q5, .inl (cI, n, .inl (fun j => nI (ra j)))), (q6, .inl (cI, n, .inl (fun j => nI (su j)))), (q7, .inl (cI, n, .inl (fun j => nI (un j))))] H := hP
  have hD : va_D A [(oa, .inl (cJ, 1, .inr (.inl ou))), (x, .inr (3, [.ref tk, .ref mh, .ref sc, .ref ga, .int (nI 1)])), (mh, .inr (0, [.ref kr, .ref h, .ref kq, .ref fq, .ref bq, .ref gq, .int (nI rcv), .int (nI ncl), .int (nI bl), .int (nI rd), .int (nI hd), .int (nI jn), .int (nI sn)])), (h, .inr (2, [.ref q1, .ref q2, .ref q3, .ref q4, .ref q5, .ref q6, .ref q7, .int (nI mk), .int (nI sv)])), (q1, .inl (cI, n, .inl (fun j => nI (pa j)))), (q2, .inl (cI, n, .inl (fun j => nI (ch j)))), (q3, .inl (cI, n, .inl (fun j => nI (kd j)))), (q4, .inl (cI, n, .inl (fun j => nI (ad j)))), (q5, .inl (cI, n, .inl (fun j => nI (ra j)))), (q6, .inl (cI, n, .inl (fun j => nI (su j)))), (q7, .inl (cI, n, .inl (fun j => nI (un j))))] := hD
  refine vx_catch (E := xA) (own := RL) (name := "java/lang/IllegalArgumentException") hown [⟨0, 10, 13, 25⟩] ⟨0, 10, 17, 13⟩ [] htb (fun z hz => by rw [List.mem_singleton.mp hz]; exact Or.inr ⟨by decide, _, hts (.classLink RL 25 "java/lang/IllegalStateException") (by decide +kernel), hxC⟩) (by decide) (by decide) (hts (.classLink RL 13 "java/lang/IllegalArgumentException") (by decide +kernel)) (va_Nw.use rfl (hxT.2 _ (by decide +kernel))) hce hcv hcl ?_
  refine lv_astore (lv' := [(4, .ref q9), (0, .ref x), (1, .int v), (2, .int v2), (3, .ref oa)]) hx hb dL_path_17 hl (by decide) rfl (fun ls hl => ?_)
  refine lv_iconst (v := nI 2) hx hb dL_path_19 (by decide) ?_
  have hP := hP.sub (ws' := [(x, .inr (3, [.ref tk, .ref mh, .ref sc, .ref ga, .int (nI 1)])), (mh, .inr (0, [.ref kr, .ref h, .ref kq, .ref fq, .ref bq, .ref gq, .int (nI rcv), .int (nI ncl), .int (nI bl), .int (nI rd), .int (nI hd), .int (nI jn), .int (nI sn)])), (h, .inr (2, [.ref q1, .ref q2, .ref q3, .ref q4, .ref q5, .ref q6, .ref q7, .int (nI mk), .int (nI sv)])), (q1, .inl (cI, n, .inl (fun j => nI (pa j)))), (q2, .inl (cI, n, .inl (fun j => nI (ch j)))), (q3, .inl (cI, n, .inl (fun j => nI (kd j)))), (q4, .inl (cI, n, .inl (fun j => nI (ad j)))), (q5, .inl (cI, n, .inl (fun j => nI (ra j)))), (q6, .inl (cI, n, .inl (fun j => nI (su j)))), (q7, .inl (cI, n, .inl (fun j => nI (un j)))), (oa, .inl (cJ, 1, .inr (.inl ou)))]) [1, 2, 3, 4, 5, 6, 7, 8, 9, 10, 0] rfl
  have hD := hD.sub (ws' := [(x, .inr (3, [.ref tk, .ref mh, .ref sc, .ref ga, .int (nI 1)])), (mh, .inr (0, [.ref kr, .ref h, .ref kq, .ref fq, .ref bq, .ref gq, .int (nI rcv), .int (nI ncl), .int (nI bl), .int (nI rd), .int (nI hd), .int (nI jn), .int (nI sn)])), (h, .inr (2, [.ref q1, .ref q2, .ref q3, .ref q4, .ref q5, .ref q6, .ref q7, .int (nI mk), .int (nI sv)])), (q1, .inl (cI, n, .inl (fun j => nI (pa j)))), (q2, .inl (cI, n, .inl (fun j => nI (ch j)))), (q3, .inl (cI, n, .inl (fun j => nI (kd j)))), (q4, .inl (cI, n, .inl (fun j => nI (ad j)))), (q5, .inl (cI, n, .inl (fun j => nI (ra j)))), (q6, .inl (cI, n, .inl (fun j => nI (su j)))), (q7, .inl (cI, n, .inl (fun j => nI (un j)))), (oa, .inl (cJ, 1, .inr (.inl ou)))]) [1, 2, 3, 4, 5, 6, 7, 8, 9, 10, 0] rfl rfl
  refine W.widen (k := 1) (n := 6) (by first | exact Nat.le_refl _ | omega) (by first | exact Nat.le_refl _ | omega) ?_
  exact k_retI (sz := 0) (v := nI 2) hx hb hr hlocks hAe hS hP hD () (rfl) (rfl) dL_path_20
set_option maxHeartbeats 4000000 in
set_option maxRecDepth 100000 in
theorem c_L_keep (l : Launch) (g : va_G) (cI cJ cZ : ClassId) (x tk sc ga : Nat) (mh kr kq fq bq gq h : Nat) (rcv ncl bl rd hd jn sn : Nat) (kp : Nat → Nat) (i mm : Nat) (hrv : rcv < 2 ^ 31) (hi : 1 ≤ i ∧ i ≤ 24) (hrc : rcv / 2 ^ i &&& 1 = 1) (hm : mm ≤ 255) : kI l g (kty cI cJ cZ) yL_keep wsL_keep ({ frames := 3, cells := 0, slots := 0, locals := 64 }) [.ref x, .int (nI i), .int (nI mm)] [(x, .inr (3, [.ref tk, .ref mh, .ref sc, .ref ga, .int (nI 1)])), (mh, .inr (0, [.ref kr, .ref h, .ref kq, .ref fq, .ref bq, .ref gq, .int (nI rcv), .int (nI ncl), .int (nI bl), .int (nI rd), .int (nI hd), .int (nI jn), .int (nI sn)])), (kq, .inl (cI, 25, .inl (fun j => nI (kp j))))] (S := Unit) (fun r u => r = nI 0 ∧ (fun _ => True) u) (fun u => [(x, .inr (3, [.ref tk, .ref mh, .ref sc, .ref ga, .int (nI 1)])), (mh, .inr (0, [.ref kr, .ref h, .ref kq, .ref fq, .ref bq, .ref gq, .int (nI rcv), .int (nI ncl), .int (nI bl), .int (nI rd), .int (nI hd), .int (nI jn), .int (nI sn)])), (kq, .inl (cI, 25, .inl (fun j => nI ((upN kp i mm) j))))]) 0 0 := by
  intro sz
  refine va_MetW (cc := cL_keep) (maxL := 4) (ret := (some .int)) (by decide) rfl ?_
  intro p e s m args below meth c s₁ B hml hv
  obtain ⟨rfl, hsz, hP, hk, hD0⟩ := hv
  subst hsz
  have hx := B.exec
  have hb := B.bytes
  have hr := B.returns
  have hts := atoms_spec (ws := wsL_keep) B.pre
  have hown : s.vm.findClass RL = some m.cls := findClass_of_methodNamed B.named
  have hlocks := B.notSynchronized
  have hK := hk.1
  obtain ⟨A, hAe⟩ : ∃ A, va_A [(x, .inr (3, [.ref tk, .ref mh, .ref sc, .ref ga, .int (nI 1)])), (mh, .inr (0, [.ref kr, .ref h, .ref kq, .ref fq, .ref bq, .ref gq, .int (nI rcv), .int (nI ncl), .int (nI bl), .int (nI rd), .int (nI hd), .int (nI jn), .int (nI sn)])), (kq, .inl (cI, 25, .inl (fun j => nI (kp j))))] s.heap.size = A := ⟨_, rfl⟩
  have hD := hD0.self (sz := s.heap.size)
  rw [hAe] at hD
  have hA : ∀ q : Nat, s.heap.size ≤ q → A q := fun q h => by rw [← hAe]; exact Or.inr h
  have hS : va_S A s.heap s.heap [] := va_S.rf
  have hl := lv_entry ([.ref x, .int (nI i), .int (nI mm)]) (n := 4) (Nat.le_of_ble_eq_true rfl)
  rw [lg_entry_eq]
  generalize (lg_sl ([.ref x, .int (nI i), .int (nI mm)]) ++ List.replicate (4 - (lg_sl ([.ref x, .int (nI i), .int (nI mm)])).length) Slot.unset).toArray = ls at hl ⊢
  have hl : lv_has ls 4 [(0, .ref x), (1, .int (nI i)), (2, .int (nI mm))] := hl
  have htb : c.exceptionTable.toList = _ := vx_table (x := yL_keep) B (hts _ List.mem_cons_self)
  refine lv_aload_n hx hb dL_keep_0 rfl (lv_at hl 0 rfl) ?_
  refine lv_iload_n hx hb dL_keep_1 rfl (lv_at hl 1 rfl) ?_
  refine lv_iload_n hx hb dL_keep_2 rfl (lv_at hl 2 rfl) ?_
  refine k_goV (wr := []) (va_runV (As := [.int (nI i), .int (nI mm)]) (rest := []) ⟨hx, hb, hml, hown, hts⟩ (c_X3_keep l g cI cJ cZ x tk sc ga mh kr kq fq bq gq h rcv ncl bl rd hd jn sn kp i mm  hrv hi hrc hm _) (cwV 2 hts gL_keep_X3_keep rfl rfl rfl (by decide +kernel) ⟨Nat.le_of_ble_eq_true rfl, Nat.le_of_ble_eq_true rfl⟩) (k_preV hk hP hD [0, 1, 2] rfl rfl (ci := 3) (q0 := 0) rfl rfl) rfl rfl hl.1 rfl (lv_room (Nat.le_of_ble_eq_true rfl)) dL_keep_3 ⟨by first | exact Nat.zero_le _ | omega, by first | exact Nat.zero_le _ | omega⟩) hP hD hS hA [0, 1, 2] [] rfl rfl rfl (by decide) (fun _ H locs hu hP hD hS => ?_)
  have hP : va_P g vwCl [(x, .inr (3, [.ref tk, .ref mh, .ref sc, .ref ga, .int (nI 1)])), (mh, .inr (0, [.ref kr, .ref h, .ref kq, .ref fq, .ref bq, .ref gq, .int (nI rcv), .int (nI ncl), .int (nI bl), .int (nI rd), .int (nI hd), .int (nI jn), .int (nI sn)])), (kq, .inl (cI, 25, .inl (fun j => nI ((upN kp i mm) j))))] H := hP
  have hD : va_D A [(x, .inr (3, [.ref tk, .ref mh, .ref sc, .ref ga, .int (nI 1)])), (mh, .inr (0, [.ref kr, .ref h, .ref kq, .ref fq, .ref bq, .ref gq, .int (nI rcv), .int (nI ncl), .int (nI bl), .int (nI rd), .int (nI hd), .int (nI jn), .int (nI sn)])), (kq, .inl (cI, 25, .inl (fun j => nI ((upN kp i mm) j))))] := hD
  refine lv_goto (tgt := 15) hx hb dL_keep_6 (by decide) ?_
  refine lv_iconst (v := nI 0) hx hb dL_keep_15 (by decide) ?_
  refine W.widen (k := 0) (n := 0) (by first | exact Nat.le_refl _ | omega) (by first | exact Nat.le_refl _ | omega) ?_
  exact k_retI (sz := 0) (v := nI 0) hx hb hr hlocks hAe hS hP hD () (rfl) (⟨rfl, hu⟩) dL_keep_16
set_option maxHeartbeats 4000000 in
set_option maxRecDepth 100000 in
theorem c_L_keep_tM (l : Launch) (g : va_G) (cI cJ cZ : ClassId) (hst : l.stackTraces = false) (x tk sc ga : Nat) (mh : Nat) (v v2 : Int32)  : kIx l g (kty cI cJ cZ) yL_keep wsL_keep ({ frames := 8, cells := 1, slots := 6, locals := 132 }) [.ref x, .int v, .int v2] [(x, .inr (3, [.ref tk, .ref mh, .ref sc, .ref ga, .int (nI 0)]))] (S := Unit) (fun r _ => r = nI 1) (fun u => [(x, .inr (3, [.ref tk, .ref mh, .ref sc, .ref ga, .int (nI 0)]))]) 1 6 := by
  intro sz
  refine va_MetW (cc := cL_keep) (maxL := 4) (ret := (some .int)) (by decide) rfl ?_
  intro p e s m args below meth c s₁ B hml hv
  obtain ⟨rfl, ⟨hsz, hP, hk, hD0⟩, hxT, hxZ⟩ := hv
  subst hsz
  have hx := B.exec
  have hb := B.bytes
  have hr := B.returns
  have hts := atoms_spec (ws := wsL_keep) B.pre
  have hown : s.vm.findClass RL = some m.cls := findClass_of_methodNamed B.named
  have hlocks := B.notSynchronized
  have hK := hk.1
  obtain ⟨A, hAe⟩ : ∃ A, va_A [(x, .inr (3, [.ref tk, .ref mh, .ref sc, .ref ga, .int (nI 0)]))] s.heap.size = A := ⟨_, rfl⟩
  have hD := hD0.self (sz := s.heap.size)
  rw [hAe] at hD hxZ
  have hA : ∀ q : Nat, s.heap.size ≤ q → A q := fun q h => by rw [← hAe]; exact Or.inr h
  have hS : va_S A s.heap s.heap [] := va_S.rf
  have hl := lv_entry ([.ref x, .int v, .int v2]) (n := 4) (Nat.le_of_ble_eq_true rfl)
  rw [lg_entry_eq]
  generalize (lg_sl ([.ref x, .int v, .int v2]) ++ List.replicate (4 - (lg_sl ([.ref x, .int v, .int v2])).length) Slot.unset).toArray = ls at hl ⊢
  have hl : lv_has ls 4 [(0, .ref x), (1, .int v), (2, .int v2)] := hl
  have htb : c.exceptionTable.toList = _ := vx_table (x := yL_keep) B (hts _ List.mem_cons_self)
  refine lv_aload_n hx hb dL_keep_0 rfl (lv_at hl 0 rfl) ?_
  refine lv_iload_n hx hb dL_keep_1 rfl (lv_at hl 1 rfl) ?_
  refine lv_iload_n hx hb dL_keep_2 rfl (lv_at hl 2 rfl) ?_
  refine k_goT (wr := []) (vx_runV (As := [.int v, .int v2]) (rest := []) ⟨hx, hb, hml, hown, hts⟩ (c_X3_keep_tM l g cI cJ cZ hst x tk sc ga mh v v2   _) (cwV 2 hts gL_keep_X3_keep rfl rfl rfl (by decide +kernel) ⟨Nat.le_of_ble_eq_true rfl, Nat.le_of_ble_eq_true rfl⟩) (k_preVx hk hxT (hxZ.kept (fun a h1 h2 => hS.2.1 a h1 h2)) hP hD hS hA [0] rfl rfl (ci := 3) (q0 := 0) rfl rfl) rfl rfl hl.1 rfl (lv_room (Nat.le_of_ble_eq_true rfl)) dL_keep_3 ⟨Nat.le_of_ble_eq_true rfl, Nat.le_of_ble_eq_true rfl⟩) hP hD hS hA [0] [] rfl rfl rfl (by decide) (fun ce q9 H locs hP hD hS hkp hce hcv hcl => ?_)
  have hP : va_P g vwCl [(x, .inr (3, [.ref tk, .ref mh, .ref sc, .ref ga, .int (nI 0)]))] H := hP
  have hD : va_D A [(x, .inr (3, [.ref tk, .ref mh, .ref sc, .ref ga, .int (nI 0)]))] := hD
  refine vx_catch (E := xI) (own := RL) (name := "java/lang/IllegalStateException") hown [] ⟨0, 6, 9, 25⟩ [⟨0, 6, 12, 13⟩] htb (fun z hz => by cases hz) (by decide) (by decide) (hts (.classLink RL 25 "java/lang/IllegalStateException") (by decide +kernel)) (va_Nw.use rfl (hxT.2 _ (by decide +kernel))) hce hcv hcl ?_
  refine lv_astore_n (lv' := [(3, .ref q9), (0, .ref x), (1, .int v), (2, .int v2)]) hx hb dL_keep_9 rfl hl (by decide) rfl (fun ls hl => ?_)
  refine lv_iconst (v := nI 1) hx hb dL_keep_10 (by decide) ?_
  have hP := hP.sub (ws' := [(x, .inr (3, [.ref tk, .ref mh, .ref sc, .ref ga, .int (nI 0)]))]) [0] rfl
  have hD := hD.sub (ws' := [(x, .inr (3, [.ref tk, .ref mh, .ref sc, .ref ga, .int (nI 0)]))]) [0] rfl rfl
  refine W.widen (k := 1) (n := 6) (by first | exact Nat.le_refl _ | omega) (by first | exact Nat.le_refl _ | omega) ?_
  exact k_retI (sz := 0) (v := nI 1) hx hb hr hlocks hAe hS hP hD () (rfl) (rfl) dL_keep_11
set_option maxHeartbeats 4000000 in
set_option maxRecDepth 100000 in
theorem c_L_keep_tR (l : Launch) (g : va_G) (cI cJ cZ : ClassId) (hst : l.stackTraces = false) (x tk sc ga : Nat) (mh kr kq fq bq gq h : Nat) (rcv ncl bl rd hd jn sn : Nat) (v v2 : Int32) (hrv : rcv < 2 ^ 31) (hv : ∀ i, 1 ≤ i → i ≤ 24 → v = nI i → ¬ rcv / 2 ^ i &&& 1 = 1) : kIc l g (kty cI cJ cZ) yL_keep wsL_keep ({ frames := 8, cells := 1, slots := 6, locals := 133 }) [.ref x, .int v, .int v2] [(x, .inr (3, [.ref tk, .ref mh, .ref sc, .ref ga, .int (nI 1)])), (mh, .inr (0, [.ref kr, .ref h, .ref kq, .ref fq, .ref bq, .ref gq, .int (nI rcv), .int (nI ncl), .int (nI bl), .int (nI rd), .int (nI hd), .int (nI jn), .int (nI sn)]))] (S := Unit) (fun r _ => r = nI 2) (fun u => [(x, .inr (3, [.ref tk, .ref mh, .ref sc, .ref ga, .int (nI 1)])), (mh, .inr (0, [.ref kr, .ref h, .ref kq, .ref fq, .ref bq, .ref gq, .int (nI rcv), .int (nI ncl), .int (nI bl), .int (nI rd), .int (nI hd), .int (nI jn), .int (nI sn)]))]) 1 6 := by
  intro sz
  refine va_MetW (cc := cL_keep) (maxL := 4) (ret := (some .int)) (by decide) rfl ?_
  intro p e s m args below meth c s₁ B hml hv
  obtain ⟨rfl, ⟨hsz, hP, hk, hD0⟩, hxT, hxZ, hxC⟩ := hv
  subst hsz
  have hx := B.exec
  have hb := B.bytes
  have hr := B.returns
  have hts := atoms_spec (ws := wsL_keep) B.pre
  have hown : s.vm.findClass RL = some m.cls := findClass_of_methodNamed B.named
  have hlocks := B.notSynchronized
  have hK := hk.1
  obtain ⟨A, hAe⟩ : ∃ A, va_A [(x, .inr (3, [.ref tk, .ref mh, .ref sc, .ref ga, .int (nI 1)])), (mh, .inr (0, [.ref kr, .ref h, .ref kq, .ref fq, .ref bq, .ref gq, .int (nI rcv), .int (nI ncl), .int (nI bl), .int (nI rd), .int (nI hd), .int (nI jn), .int (nI sn)]))] s.heap.size = A := ⟨_, rfl⟩
  have hD := hD0.self (sz := s.heap.size)
  rw [hAe] at hD hxZ
  have hA : ∀ q : Nat, s.heap.size ≤ q → A q := fun q h => by rw [← hAe]; exact Or.inr h
  have hS : va_S A s.heap s.heap [] := va_S.rf
  have hl := lv_entry ([.ref x, .int v, .int v2]) (n := 4) (Nat.le_of_ble_eq_true rfl)
  rw [lg_entry_eq]
  generalize (lg_sl ([.ref x, .int v, .int v2]) ++ List.replicate (4 - (lg_sl ([.ref x, .int v, .int v2])).length) Slot.unset).toArray = ls at hl ⊢
  have hl : lv_has ls 4 [(0, .ref x), (1, .int v), (2, .int v2)] := hl
  have htb : c.exceptionTable.toList = _ := vx_table (x := yL_keep) B (hts _ List.mem_cons_self)
  refine lv_aload_n hx hb dL_keep_0 rfl (lv_at hl 0 rfl) ?_
  refine lv_iload_n hx hb dL_keep_1 rfl (lv_at hl 1 rfl) ?_
  refine lv_iload_n hx hb dL_keep_2 rfl (lv_at hl 2 rfl) ?_
  refine k_goT (wr := []) (vx_runV (As := [.int v, .int v2]) (rest := []) ⟨hx, hb, hml, hown, hts⟩ (c_X3_keep_tR l g cI cJ cZ hst x tk sc ga mh kr kq fq bq gq h rcv ncl bl rd hd jn sn v v2  hrv hv _) (cwV 2 hts gL_keep_X3_keep rfl rfl rfl (by decide +kernel) ⟨Nat.le_of_ble_eq_true rfl, Nat.le_of_ble_eq_true rfl⟩) (k_preVx hk hxT (hxZ.kept (fun a h1 h2 => hS.2.1 a h1 h2)) hP hD hS hA [0, 1] rfl rfl (ci := 3) (q0 := 0) rfl rfl) rfl rfl hl.1 rfl (lv_room (Nat.le_of_ble_eq_true rfl)) dL_keep_3 ⟨Nat.le_of_ble_eq_true rfl, Nat.le_of_ble_eq_true rfl⟩) hP hD hS hA [0, 1] [] rfl rfl rfl (by decide) (fun ce q9 H locs hP hD hS hkp hce hcv hcl => ?_)
  have hP : va_P g vwCl [(x, .inr (3, [.ref tk, .ref mh, .ref sc, .ref ga, .int (nI 1)])), (mh, .inr (0, [.ref kr, .ref h, .ref kq, .ref fq, .ref bq, .ref gq, .int (nI rcv), .int (nI ncl), .int (nI bl), .int (nI rd), .int (nI hd), .int (nI jn), .int (nI sn)]))] H := hP
  have hD : va_D A [(x, .inr (3, [.ref tk, .ref mh, .ref sc, .ref ga, .int (nI 1)])), (mh, .inr (0, [.ref kr, .ref h, .ref kq, .ref fq, .ref bq, .ref gq, .int (nI rcv), .int (nI ncl), .int (nI bl), .int (nI rd), .int (nI hd), .int (nI jn), .int (nI sn)]))] := hD
  refine vx_catch (E := xA) (own := RL) (name := "java/lang/IllegalArgumentException") hown [⟨0, 6, 9, 25⟩] ⟨0, 6, 12, 13⟩ [] htb (fun z hz => by rw [List.mem_singleton.mp hz]; exact Or.inr ⟨by decide, _, hts (.classLink RL 25 "java/lang/IllegalStateException") (by decide +kernel), hxC⟩) (by decide) (by decide) (hts (.classLink RL 13 "java/lang/IllegalArgumentException") (by decide +kernel)) (va_Nw.use rfl (hxT.2 _ (by decide +kernel))) hce hcv hcl ?_
  refine lv_astore_n (lv' := [(3, .ref q9), (0, .ref x), (1, .int v), (2, .int v2)]) hx hb dL_keep_12 rfl hl (by decide) rfl (fun ls hl => ?_)
  refine lv_iconst (v := nI 2) hx hb dL_keep_13 (by decide) ?_
  have hP := hP.sub (ws' := [(x, .inr (3, [.ref tk, .ref mh, .ref sc, .ref ga, .int (nI 1)])), (mh, .inr (0, [.ref kr, .ref h, .ref kq, .ref fq, .ref bq, .ref gq, .int (nI rcv), .int (nI ncl), .int (nI bl), .int (nI rd), .int (nI hd), .int (nI jn), .int (nI sn)]))]) [0, 1] rfl
  have hD := hD.sub (ws' := [(x, .inr (3, [.ref tk, .ref mh, .ref sc, .ref ga, .int (nI 1)])), (mh, .inr (0, [.ref kr, .ref h, .ref kq, .ref fq, .ref bq, .ref gq, .int (nI rcv), .int (nI ncl), .int (nI bl), .int (nI rd), .int (nI hd), .int (nI jn), .int (nI sn)]))]) [0, 1] rfl rfl
  refine W.widen (k := 1) (n := 6) (by first | exact Nat.le_refl _ | omega) (by first | exact Nat.le_refl _ | omega) ?_
  exact k_retI (sz := 0) (v := nI 2) hx hb hr hlocks hAe hS hP hD () (rfl) (rfl) dL_keep_14
set_option maxHeartbeats 4000000 in
set_option maxRecDepth 100000 in
theorem c_L_keep_tA (l : Launch) (g : va_G) (cI cJ cZ : ClassId) (hst : l.stackTraces = false) (x tk sc ga : Nat) (mh kr kq fq bq gq h : Nat) (rcv ncl bl rd hd jn sn : Nat) (i : Nat) (v2 : Int32) (hrv : rcv < 2 ^ 31) (hi : 1 ≤ i ∧ i ≤ 24) (hrc : rcv / 2 ^ i &&& 1 = 1) (hv2 : v2 < 0 ∨ ¬ v2 ≤ nI 255) : kIc l g (kty cI cJ cZ) yL_keep wsL_keep ({ frames := 7, cells := 1, slots := 6, locals := 112 }) [.ref x, .int (nI i), .int v2] [(x, .inr (3, [.ref tk, .ref mh, .ref sc, .ref ga, .int (nI 1)])), (mh, .inr (0, [.ref kr, .ref h, .ref kq, .ref fq, .ref bq, .ref gq, .int (nI rcv), .int (nI ncl), .int (nI bl), .int (nI rd), .int (nI hd), .int (nI jn), .int (nI sn)]))] (S := Unit) (fun r _ => r = nI 2) (fun u => [(x, .inr (3, [.ref tk, .ref mh, .ref sc, .ref ga, .int (nI 1)])), (mh, .inr (0, [.ref kr, .ref h, .ref kq, .ref fq, .ref bq, .ref gq, .int (nI rcv), .int (nI ncl), .int (nI bl), .int (nI rd), .int (nI hd), .int (nI jn), .int (nI sn)]))]) 1 6 := by
  intro sz
  refine va_MetW (cc := cL_keep) (maxL := 4) (ret := (some .int)) (by decide) rfl ?_
  intro p e s m args below meth c s₁ B hml hv
  obtain ⟨rfl, ⟨hsz, hP, hk, hD0⟩, hxT, hxZ, hxC⟩ := hv
  subst hsz
  have hx := B.exec
  have hb := B.bytes
  have hr := B.returns
  have hts := atoms_spec (ws := wsL_keep) B.pre
  have hown : s.vm.findClass RL = some m.cls := findClass_of_methodNamed B.named
  have hlocks := B.notSynchronized
  have hK := hk.1
  obtain ⟨A, hAe⟩ : ∃ A, va_A [(x, .inr (3, [.ref tk, .ref mh, .ref sc, .ref ga, .int (nI 1)])), (mh, .inr (0, [.ref kr, .ref h, .ref kq, .ref fq, .ref bq, .ref gq, .int (nI rcv), .int (nI ncl), .int (nI bl), .int (nI rd), .int (nI hd), .int (nI jn), .int (nI sn)]))] s.heap.size = A := ⟨_, rfl⟩
  have hD := hD0.self (sz := s.heap.size)
  rw [hAe] at hD hxZ
  have hA : ∀ q : Nat, s.heap.size ≤ q → A q := fun q h => by rw [← hAe]; exact Or.inr h
  have hS : va_S A s.heap s.heap [] := va_S.rf
  have hl := lv_entry ([.ref x, .int (nI i), .int v2]) (n := 4) (Nat.le_of_ble_eq_true rfl)
  rw [lg_entry_eq]
  generalize (lg_sl ([.ref x, .int (nI i), .int v2]) ++ List.replicate (4 - (lg_sl ([.ref x, .int (nI i), .int v2])).length) Slot.unset).toArray = ls at hl ⊢
  have hl : lv_has ls 4 [(0, .ref x), (1, .int (nI i)), (2, .int v2)] := hl
  have htb : c.exceptionTable.toList = _ := vx_table (x := yL_keep) B (hts _ List.mem_cons_self)
  refine lv_aload_n hx hb dL_keep_0 rfl (lv_at hl 0 rfl) ?_
  refine lv_iload_n hx hb dL_keep_1 rfl (lv_at hl 1 rfl) ?_
  refine lv_iload_n hx hb dL_keep_2 rfl (lv_at hl 2 rfl) ?_
  refine k_goT (wr := []) (vx_runV (As := [.int (nI i), .int v2]) (rest := []) ⟨hx, hb, hml, hown, hts⟩ (c_X3_keep_tA l g cI cJ cZ hst x tk sc ga mh kr kq fq bq gq h rcv ncl bl rd hd jn sn i v2  hrv hi hrc hv2 _) (cwV 2 hts gL_keep_X3_keep rfl rfl rfl (by decide +kernel) ⟨Nat.le_of_ble_eq_true rfl, Nat.le_of_ble_eq_true rfl⟩) (k_preVx hk hxT (hxZ.kept (fun a h1 h2 => hS.2.1 a h1 h2)) hP hD hS hA [0, 1] rfl rfl (ci := 3) (q0 := 0) rfl rfl) rfl rfl hl.1 rfl (lv_room (Nat.le_of_ble_eq_true rfl)) dL_keep_3 ⟨Nat.le_of_ble_eq_true rfl, Nat.le_of_ble_eq_true rfl⟩) hP hD hS hA [0, 1] [] rfl rfl rfl (by decide) (fun ce q9 H locs hP hD hS hkp hce hcv hcl => ?_)
  have hP : va_P g vwCl [(x, .inr (3, [.ref tk, .ref mh, .ref sc, .ref ga, .int (nI 1)])), (mh, .inr (0, [.ref kr, .ref h, .ref kq, .ref fq, .ref bq, .ref gq, .int (nI rcv), .int (nI ncl), .int (nI bl), .int (nI rd), .int (nI hd), .int (nI jn), .int (nI sn)]))] H := hP
  have hD : va_D A [(x, .inr (3, [.ref tk, .ref mh, .ref sc, .ref ga, .int (nI 1)])), (mh, .inr (0, [.ref kr, .ref h, .ref kq, .ref fq, .ref bq, .ref gq, .int (nI rcv), .int (nI ncl), .int (nI bl), .int (nI rd), .int (nI hd), .int (nI jn), .int (nI sn)]))] := hD
  refine vx_catch (E := xA) (own := RL) (name := "java/lang/IllegalArgumentException") hown [⟨0, 6, 9, 25⟩] ⟨0, 6, 12, 13⟩ [] htb (fun z hz => by rw [List.mem_singleton.mp hz]; exact Or.inr ⟨by decide, _, hts (.classLink RL 25 "java/lang/IllegalStateException") (by decide +kernel), hxC⟩) (by decide) (by decide) (hts (.classLink RL 13 "java/lang/IllegalArgumentException") (by decide +kernel)) (va_Nw.use rfl (hxT.2 _ (by decide +kernel))) hce hcv hcl ?_
  refine lv_astore_n (lv' := [(3, .ref q9), (0, .ref x), (1, .int (nI i)), (2, .int v2)]) hx hb dL_keep_12 rfl hl (by decide) rfl (fun ls hl => ?_)
  refine lv_iconst (v := nI 2) hx hb dL_keep_13 (by decide) ?_
  have hP := hP.sub (ws' := [(x, .inr (3, [.ref tk, .ref mh, .ref sc, .ref ga, .int (nI 1)])), (mh, .inr (0, [.ref kr, .ref h, .ref kq, .ref fq, .ref bq, .ref gq, .int (nI rcv), .int (nI ncl), .int (nI bl), .int (nI rd), .int (nI hd), .int (nI jn), .int (nI sn)]))]) [0, 1] rfl
  have hD := hD.sub (ws' := [(x, .inr (3, [.ref tk, .ref mh, .ref sc, .ref ga, .int (nI 1)])), (mh, .inr (0, [.ref kr, .ref h, .ref kq, .ref fq, .ref bq, .ref gq, .int (nI rcv), .int (nI ncl), .int (nI bl), .int (nI rd), .int (nI hd), .int (nI jn), .int (nI sn)]))]) [0, 1] rfl rfl
  refine W.widen (k := 1) (n := 6) (by first | exact Nat.le_refl _ | omega) (by first | exact Nat.le_refl _ | omega) ?_
  exact k_retI (sz := 0) (v := nI 2) hx hb hr hlocks hAe hS hP hD () (rfl) (rfl) dL_keep_14
set_option maxHeartbeats 4000000 in
set_option maxRecDepth 100000 in
theorem c_L_join (l : Launch) (g : va_G) (cI cJ cZ : ClassId) (x tk sc ga : Nat) (mh kr kq fq bq gq : Nat) (rcv ncl bl rd hd jn sn : Nat) (fo : Nat → Nat) (h q1 q2 q3 q4 q5 q6 q7 n : Nat) (pa ch kd ad ra su un : Nat → Nat) (mk sv : Nat) (top : Nat) (S L R : Nat → Nat) (rc : Nat → Bool) (sp : Nat → Bool) (rq nu : Nat → Nat) (oa : Nat) (ou : Nat → Int64) (hn : n < 2 ^ 25) (hR : RuleOK S L R rc top) (hI : wI top S L R sp rq nu ([]) n mk sv pa ch kd ad ra su un fo bl rd hd) : kI l g (kty cI cJ cZ) yL_join wsL_join ({ frames := 5, cells := 0, slots := 0, locals := 110 }) [.ref x, .ref oa] [(x, .inr (3, [.ref tk, .ref mh, .ref sc, .ref ga, .int (nI 1)])), (mh, .inr (0, [.ref kr, .ref h, .ref kq, .ref fq, .ref bq, .ref gq, .int (nI rcv), .int (nI ncl), .int (nI bl), .int (nI rd), .int (nI hd), .int (nI jn), .int (nI sn)])), (fq, .inl (cI, 25, .inl (fun j => nI (fo j)))), (h, .inr (2, [.ref q1, .ref q2, .ref q3, .ref q4, .ref q5, .ref q6, .ref q7, .int (nI mk), .int (nI sv)])), (q1, .inl (cI, n, .inl (fun j => nI (pa j)))), (q2, .inl (cI, n, .inl (fun j => nI (ch j)))), (q3, .inl (cI, n, .inl (fun j => nI (kd j)))), (q4, .inl (cI, n, .inl (fun j => nI (ad j)))), (q5, .inl (cI, n, .inl (fun j => nI (ra j)))), (q6, .inl (cI, n, .inl (fun j => nI (su j)))), (q7, .inl (cI, n, .inl (fun j => nI (un j)))), (oa, .inl (cJ, 1, .inr (.inl ou)))] (S := Int32 × ((Nat → Nat) × (Nat → Nat) × (Nat → Nat) × (Nat → Nat) × (Nat → Nat) × (Nat → Nat) × Nat)) (fun r u => r = nI 0 ∧ (fun r u => r = nI ((lvs sp 1).length - (lvs (jal sp rq) 1).length) ∧ wI top S L R (jal sp rq) rq nu ([]) n mk (u.2.2.2.2.2.2) (u.1) (u.2.1) kd ad (u.2.2.1) (u.2.2.2.1) (u.2.2.2.2.1) (u.2.2.2.2.2.1) bl rd hd) u.1 u.2) (fun u => [(x, .inr (3, [.ref tk, .ref mh, .ref sc, .ref ga, .int (nI 1)])), (mh, .inr (0, [.ref kr, .ref h, .ref kq, .ref fq, .ref bq, .ref gq, .int (nI rcv), .int (nI ncl), .int (nI bl), .int (nI rd), .int (nI hd), .int (nI (jn + ((lvs sp 1).length - (lvs (jal sp rq) 1).length))), .int (nI sn)])), (fq, .inl (cI, 25, .inl (fun j => nI (u.2.2.2.2.2.2.1 j)))), (h, .inr (2, [.ref q1, .ref q2, .ref q3, .ref q4, .ref q5, .ref q6, .ref q7, .int (nI mk), .int (nI (u.2.2.2.2.2.2.2))])), (q1, .inl (cI, n, .inl (fun j => nI (u.2.1 j)))), (q2, .inl (cI, n, .inl (fun j => nI (u.2.2.1 j)))), (q3, .inl (cI, n, .inl (fun j => nI (kd j)))), (q4, .inl (cI, n, .inl (fun j => nI (ad j)))), (q5, .inl (cI, n, .inl (fun j => nI (u.2.2.2.1 j)))), (q6, .inl (cI, n, .inl (fun j => nI (u.2.2.2.2.1 j)))), (q7, .inl (cI, n, .inl (fun j => nI (u.2.2.2.2.2.1 j)))), (oa, .inl (cJ, 1, .inr (.inl (vp_updL ou 0 (u.1).toInt64))))]) 0 0 := by
  intro sz
  refine va_MetW (cc := cL_join) (maxL := 3) (ret := (some .int)) (by decide) rfl ?_
  intro p e s m args below meth c s₁ B hml hv
  obtain ⟨rfl, hsz, hP, hk, hD0⟩ := hv
  subst hsz
  have hx := B.exec
  have hb := B.bytes
  have hr := B.returns
  have hts := atoms_spec (ws := wsL_join) B.pre
  have hown : s.vm.findClass RL = some m.cls := findClass_of_methodNamed B.named
  have hlocks := B.notSynchronized
  have hK := hk.1
  obtain ⟨A, hAe⟩ : ∃ A, va_A [(x, .inr (3, [.ref tk, .ref mh, .ref sc, .ref ga, .int (nI 1)])), (mh, .inr (0, [.ref kr, .ref h, .ref kq, .ref fq, .ref bq, .ref gq, .int (nI rcv), .int (nI ncl), .int (nI bl), .int (nI rd), .int (nI hd), .int (nI jn), .int (nI sn)])), (fq, .inl (cI, 25, .inl (fun j => nI (fo j)))), (h, .inr (2, [.ref q1, .ref q2, .ref q3, .ref q4, .ref q5, .ref q6, .ref q7, .int (nI mk), .int (nI sv)])), (q1, .inl (cI, n, .inl (fun j => nI (pa j)))), (q2, .inl (cI, n, .inl (fun j => nI (ch j)))), (q3, .inl (cI, n, .inl (fun j => nI (kd j)))), (q4, .inl (cI, n, .inl (fun j => nI (ad j)))), (q5, .inl (cI, n, .inl (fun j => nI (ra j)))), (q6, .inl (cI, n, .inl (fun j => nI (su j)))), (q7, .inl (cI, n, .inl (fun j => nI (un j)))), (oa, .inl (cJ, 1, .inr (.inl ou)))] s.heap.size = A := ⟨_, rfl⟩
  have hD := hD0.self (sz := s.heap.size)
  rw [hAe] at hD
  have hA : ∀ q : Nat, s.heap.size ≤ q → A q := fun q h => by rw [← hAe]; exact Or.inr h
  have hS : va_S A s.heap s.heap [] := va_S.rf
  have hl := lv_entry ([.ref x, .ref oa]) (n := 3) (Nat.le_of_ble_eq_true rfl)
  rw [lg_entry_eq]
  generalize (lg_sl ([.ref x, .ref oa]) ++ List.replicate (3 - (lg_sl ([.ref x, .ref oa])).length) Slot.unset).toArray = ls at hl ⊢
  have hl : lv_has ls 3 [(0, .ref x), (1, .ref oa)] := hl
  have htb : c.exceptionTable.toList = _ := vx_table (x := yL_join) B (hts _ List.mem_cons_self)
  refine lv_aload_n hx hb dL_join_0 rfl (lv_at hl 1 rfl) ?_
  refine lv_iconst (v := nI 0) hx hb dL_join_1 (by decide) ?_
  refine lv_aload_n hx hb dL_join_2 rfl (lv_at hl 0 rfl) ?_
  refine k_goI (wr := [(oa, .inl (cJ, 1, .inr (.inl ou)))]) (va_runV (As := []) (rest := [.int (nI 0), .ref oa]) ⟨hx, hb, hml, hown, hts⟩ (c_X3_join l g cI cJ cZ x tk sc ga mh kr kq fq bq gq rcv ncl bl rd hd jn sn fo h q1 q2 q3 q4 q5 q6 q7 n pa ch kd ad ra su un mk sv top S L R rc sp rq nu  hn hR hI _) (cwV 0 hts gL_join_X3_join rfl rfl rfl (by decide +kernel) ⟨Nat.le_of_ble_eq_true rfl, Nat.le_of_ble_eq_true rfl⟩) (k_preV hk hP hD [0, 1, 2, 3, 4, 5, 6, 7, 8, 9, 10] rfl rfl (ci := 3) (q0 := 0) rfl rfl) rfl rfl hl.1 rfl (lv_room (Nat.le_of_ble_eq_true rfl)) dL_join_3 ⟨by first | exact Nat.zero_le _ | omega, by first | exact Nat.zero_le _ | omega⟩) hP hD hS hA [0, 1, 2, 3, 4, 5, 6, 7, 8, 9, 10] [11] rfl rfl rfl (by decide) (fun rv u H locs hu hP hD hS => ?_)
  have hP : va_P g vwCl [(oa, .inl (cJ, 1, .inr (.inl ou))), (x, .inr (3, [.ref tk, .ref mh, .ref sc, .ref ga, .int (nI 1)])), (mh, .inr (0, [.ref kr, .ref h, .ref kq, .ref fq, .ref bq, .ref gq, .int (nI rcv), .int (nI ncl), .int (nI bl), .int (nI rd), .int (nI hd), .int (nI (jn + ((lvs sp 1).length - (lvs (jal sp rq) 1).length))), .int (nI sn)])), (fq, .inl (cI, 25, .inl (fun j => nI (u.2.2.2.2.2.1 j)))), (h, .inr (2, [.ref q1, .ref q2, .ref q3, .ref q4, .ref q5, .ref q6, .ref q7, .int (nI mk), .int (nI (u.2.2.2.2.2.2))])), (q1, .inl (cI, n, .inl (fun j => nI (u.1 j)))), (q2, .inl (cI, n, .inl (fun j => nI (u.2.1 j)))), (q3, .inl (cI, n, .inl (fun j => nI (kd j)))), (q4, .inl (cI, n, .inl (fun j => nI (ad j)))), (q5, .inl (cI, n, .inl (fun j => nI (u.2.2.1 j)))), (q6, .inl (cI, n, .inl (fun j => nI (u.2.2.2.1 j)))), (q7, .inl (cI, n, .inl (fun j => nI (u.2.2.2.2.1 j))))] H := hP
  have hD : va_D A [(oa, .inl (cJ, 1, .inr (.inl ou))), (x, .inr (3, [.ref tk, .ref mh, .ref sc, .ref ga, .int (nI 1)])), (mh, .inr (0, [.ref kr, .ref h, .ref kq, .ref fq, .ref bq, .ref gq, .int (nI rcv), .int (nI ncl), .int (nI bl), .int (nI rd), .int (nI hd), .int (nI (jn + ((lvs sp 1).length - (lvs (jal sp rq) 1).length))), .int (nI sn)])), (fq, .inl (cI, 25, .inl (fun j => nI (u.2.2.2.2.2.1 j)))), (h, .inr (2, [.ref q1, .ref q2, .ref q3, .ref q4, .ref q5, .ref q6, .ref q7, .int (nI mk), .int (nI (u.2.2.2.2.2.2))])), (q1, .inl (cI, n, .inl (fun j => nI (u.1 j)))), (q2, .inl (cI, n, .inl (fun j => nI (u.2.1 j)))), (q3, .inl (cI, n, .inl (fun j => nI (kd j)))), (q4, .inl (cI, n, .inl (fun j => nI (ad j)))), (q5, .inl (cI, n, .inl (fun j => nI (u.2.2.1 j)))), (q6, .inl (cI, n, .inl (fun j => nI (u.2.2.2.1 j)))), (q7, .inl (cI, n, .inl (fun j => nI (u.2.2.2.2.1 j))))] := hD
  refine lv_i2l hx hb dL_join_6 rfl ?_
  refine n_last hx hb hK hP hD hS 0 1 rfl rfl (i := 0) (v := ((rv).toInt64)) (by decide) (by decide) dL_join_7 (fun H locs hP hD hS => ?_)
  have hP : va_P g vwCl [(oa, .inl (cJ, 1, .inr (.inl (vp_updL ou 0 ((rv).toInt64))))), (x, .inr (3, [.ref tk, .ref mh, .ref sc, .ref ga, .int (nI 1)])), (mh, .inr (0, [.ref kr, .ref h, .ref kq, .ref fq, .ref bq, .ref gq, .int (nI rcv), .int (nI ncl), .int (nI bl), .int (nI rd), .int (nI hd), .int (nI (jn + ((lvs sp 1).length - (lvs (jal sp rq) 1).length))), .int (nI sn)])), (fq, .inl (cI, 25, .inl (fun j => nI (u.2.2.2.2.2.1 j)))), (h, .inr (2, [.ref q1, .ref q2, .ref q3, .ref q4, .ref q5, .ref q6, .ref q7, .int (nI mk), .int (nI (u.2.2.2.2.2.2))])), (q1, .inl (cI, n, .inl (fun j => nI (u.1 j)))), (q2, .inl (cI, n, .inl (fun j => nI (u.2.1 j)))), (q3, .inl (cI, n, .inl (fun j => nI (kd j)))), (q4, .inl (cI, n, .inl (fun j => nI (ad j)))), (q5, .inl (cI, n, .inl (fun j => nI (u.2.2.1 j)))), (q6, .inl (cI, n, .inl (fun j => nI (u.2.2.2.1 j)))), (q7, .inl (cI, n, .inl (fun j => nI (u.2.2.2.2.1 j))))] H := hP
  have hD : va_D A [(oa, .inl (cJ, 1, .inr (.inl (vp_updL ou 0 ((rv).toInt64))))), (x, .inr (3, [.ref tk, .ref mh, .ref sc, .ref ga, .int (nI 1)])), (mh, .inr (0, [.ref kr, .ref h, .ref kq, .ref fq, .ref bq, .ref gq, .int (nI rcv), .int (nI ncl), .int (nI bl), .int (nI rd), .int (nI hd), .int (nI (jn + ((lvs sp 1).length - (lvs (jal sp rq) 1).length))), .int (nI sn)])), (fq, .inl (cI, 25, .inl (fun j => nI (u.2.2.2.2.2.1 j)))), (h, .inr (2, [.ref q1, .ref q2, .ref q3, .ref q4, .ref q5, .ref q6, .ref q7, .int (nI mk), .int (nI (u.2.2.2.2.2.2))])), (q1, .inl (cI, n, .inl (fun j => nI (u.1 j)))), (q2, .inl (cI, n, .inl (fun j => nI (u.2.1 j)))), (q3, .inl (cI, n, .inl (fun j => nI (kd j)))), (q4, .inl (cI, n, .inl (fun j => nI (ad j)))), (q5, .inl (cI, n, .inl (fun j => nI (u.2.2.1 j)))), (q6, .inl (cI, n, .inl (fun j => nI (u.2.2.2.1 j)))), (q7, .inl (cI, n, .inl (fun j => nI (u.2.2.2.2.1 j))))] := hD
  refine lv_goto (tgt := 14) hx hb dL_join_8 (by decide) ?_
  refine lv_iconst (v := nI 0) hx hb dL_join_14 (by decide) ?_
  have hP := hP.sub (ws' := [(x, .inr (3, [.ref tk, .ref mh, .ref sc, .ref ga, .int (nI 1)])), (mh, .inr (0, [.ref kr, .ref h, .ref kq, .ref fq, .ref bq, .ref gq, .int (nI rcv), .int (nI ncl), .int (nI bl), .int (nI rd), .int (nI hd), .int (nI (jn + ((lvs sp 1).length - (lvs (jal sp rq) 1).length))), .int (nI sn)])), (fq, .inl (cI, 25, .inl (fun j => nI (u.2.2.2.2.2.1 j)))), (h, .inr (2, [.ref q1, .ref q2, .ref q3, .ref q4, .ref q5, .ref q6, .ref q7, .int (nI mk), .int (nI (u.2.2.2.2.2.2))])), (q1, .inl (cI, n, .inl (fun j => nI (u.1 j)))), (q2, .inl (cI, n, .inl (fun j => nI (u.2.1 j)))), (q3, .inl (cI, n, .inl (fun j => nI (kd j)))), (q4, .inl (cI, n, .inl (fun j => nI (ad j)))), (q5, .inl (cI, n, .inl (fun j => nI (u.2.2.1 j)))), (q6, .inl (cI, n, .inl (fun j => nI (u.2.2.2.1 j)))), (q7, .inl (cI, n, .inl (fun j => nI (u.2.2.2.2.1 j)))), (oa, .inl (cJ, 1, .inr (.inl (vp_updL ou 0 ((rv).toInt64)))))]) [1, 2, 3, 4, 5, 6, 7, 8, 9, 10, 11, 0] rfl
  have hD := hD.sub (ws' := [(x, .inr (3, [.ref tk, .ref mh, .ref sc, .ref ga, .int (nI 1)])), (mh, .inr (0, [.ref kr, .ref h, .ref kq, .ref fq, .ref bq, .ref gq, .int (nI rcv), .int (nI ncl), .int (nI bl), .int (nI rd), .int (nI hd), .int (nI (jn + ((lvs sp 1).length - (lvs (jal sp rq) 1).length))), .int (nI sn)])), (fq, .inl (cI, 25, .inl (fun j => nI (u.2.2.2.2.2.1 j)))), (h, .inr (2, [.ref q1, .ref q2, .ref q3, .ref q4, .ref q5, .ref q6, .ref q7, .int (nI mk), .int (nI (u.2.2.2.2.2.2))])), (q1, .inl (cI, n, .inl (fun j => nI (u.1 j)))), (q2, .inl (cI, n, .inl (fun j => nI (u.2.1 j)))), (q3, .inl (cI, n, .inl (fun j => nI (kd j)))), (q4, .inl (cI, n, .inl (fun j => nI (ad j)))), (q5, .inl (cI, n, .inl (fun j => nI (u.2.2.1 j)))), (q6, .inl (cI, n, .inl (fun j => nI (u.2.2.2.1 j)))), (q7, .inl (cI, n, .inl (fun j => nI (u.2.2.2.2.1 j)))), (oa, .inl (cJ, 1, .inr (.inl (vp_updL ou 0 ((rv).toInt64)))))]) [1, 2, 3, 4, 5, 6, 7, 8, 9, 10, 11, 0] rfl rfl
  refine W.widen (k := 0) (n := 0) (by first | exact Nat.le_refl _ | omega) (by first | exact Nat.le_refl _ | omega) ?_
  exact k_retI (sz := 0) (v := nI 0) hx hb hr hlocks hAe hS hP hD (rv, u) (rfl) (⟨rfl, hu⟩) dL_join_15
set_option maxHeartbeats 4000000 in
set_option maxRecDepth 100000 in
theorem c_L_join_tM (l : Launch) (g : va_G) (cI cJ cZ : ClassId) (hst : l.stackTraces = false) (x tk sc ga : Nat) (mh : Nat)  (oa : Nat) (ou : Nat → Int64)  : kIx l g (kty cI cJ cZ) yL_join wsL_join ({ frames := 8, cells := 1, slots := 6, locals := 130 }) [.ref x, .ref oa] [(x, .inr (3, [.ref tk, .ref mh, .ref sc, .ref ga, .int (nI 0)])), (oa, .inl (cJ, 1, .inr (.inl ou)))] (S := Unit) (fun r _ => r = nI 1) (fun u => [(x, .inr (3, [.ref tk, .ref mh, .ref sc, .ref ga, .int (nI 0)])), (oa, .inl (cJ, 1, .inr (.inl ou)))]) 1 6 := by
  intro sz
  refine va_MetW (cc := cL_join) (maxL := 3) (ret := (some .int)) (by decide) rfl ?_
  intro p e s m args below meth c s₁ B hml hv
  obtain ⟨rfl, ⟨hsz, hP, hk, hD0⟩, hxT, hxZ⟩ := hv
  subst hsz
  have hx := B.exec
  have hb := B.bytes
  have hr := B.returns
  have hts := atoms_spec (ws := wsL_join) B.pre
  have hown : s.vm.findClass RL = some m.cls := findClass_of_methodNamed B.named
  have hlocks := B.notSynchronized
  have hK := hk.1
  obtain ⟨A, hAe⟩ : ∃ A, va_A [(x, .inr (3, [.ref tk, .ref mh, .ref sc, .ref ga, .int (nI 0)])), (oa, .inl (cJ, 1, .inr (.inl ou)))] s.heap.size = A := ⟨_, rfl⟩
  have hD := hD0.self (sz := s.heap.size)
  rw [hAe] at hD hxZ
  have hA : ∀ q : Nat, s.heap.size ≤ q → A q := fun q h => by rw [← hAe]; exact Or.inr h
  have hS : va_S A s.heap s.heap [] := va_S.rf
  have hl := lv_entry ([.ref x, .ref oa]) (n := 3) (Nat.le_of_ble_eq_true rfl)
  rw [lg_entry_eq]
  generalize (lg_sl ([.ref x, .ref oa]) ++ List.replicate (3 - (lg_sl ([.ref x, .ref oa])).length) Slot.unset).toArray = ls at hl ⊢
  have hl : lv_has ls 3 [(0, .ref x), (1, .ref oa)] := hl
  have htb : c.exceptionTable.toList = _ := vx_table (x := yL_join) B (hts _ List.mem_cons_self)
  refine lv_aload_n hx hb dL_join_0 rfl (lv_at hl 1 rfl) ?_
  refine lv_iconst (v := nI 0) hx hb dL_join_1 (by decide) ?_
  refine lv_aload_n hx hb dL_join_2 rfl (lv_at hl 0 rfl) ?_
  refine k_goT (wr := [(oa, .inl (cJ, 1, .inr (.inl ou)))]) (vx_runV (As := []) (rest := [.int (nI 0), .ref oa]) ⟨hx, hb, hml, hown, hts⟩ (c_X3_join_tM l g cI cJ cZ hst x tk sc ga mh   _) (cwV 0 hts gL_join_X3_join rfl rfl rfl (by decide +kernel) ⟨Nat.le_of_ble_eq_true rfl, Nat.le_of_ble_eq_true rfl⟩) (k_preVx hk hxT (hxZ.kept (fun a h1 h2 => hS.2.1 a h1 h2)) hP hD hS hA [0] rfl rfl (ci := 3) (q0 := 0) rfl rfl) rfl rfl hl.1 rfl (lv_room (Nat.le_of_ble_eq_true rfl)) dL_join_3 ⟨Nat.le_of_ble_eq_true rfl, Nat.le_of_ble_eq_true rfl⟩) hP hD hS hA [0] [1] rfl rfl rfl (by decide) (fun ce q9 H locs hP hD hS hkp hce hcv hcl => ?_)
  have hP : va_P g vwCl [(oa, .inl (cJ, 1, .inr (.inl ou))), (x, .inr (3, [.ref tk, .ref mh, .ref sc, .ref ga, .int (nI 0)]))] H := hP
  have hD : va_D A [(oa, .inl (cJ, 1, .inr (.inl ou))), (x, .inr (3, [.ref tk, .ref mh, .ref sc, .ref ga, .int (nI 0)]))] := hD
  refine vx_catch (E := xI) (own := RL) (name := "java/lang/IllegalStateException") hown [] ⟨0, 8, 11, 25⟩ [] htb (fun z hz => by cases hz) (by decide) (by decide) (hts (.classLink RL 25 "java/lang/IllegalStateException") (by decide +kernel)) (va_Nw.use rfl (hxT.2 _ (by decide +kernel))) hce hcv hcl ?_
  refine lv_astore_n (lv' := [(2, .ref q9), (0, .ref x), (1, .ref oa)]) hx hb dL_join_11 rfl hl (by decide) rfl (fun ls hl => ?_)
  refine lv_iconst (v := nI 1) hx hb dL_join_12 (by decide) ?_
  have hP := hP.sub (ws' := [(x, .inr (3, [.ref tk, .ref mh, .ref sc, .ref ga, .int (nI 0)])), (oa, .inl (cJ, 1, .inr (.inl ou)))]) [1, 0] rfl
  have hD := hD.sub (ws' := [(x, .inr (3, [.ref tk, .ref mh, .ref sc, .ref ga, .int (nI 0)])), (oa, .inl (cJ, 1, .inr (.inl ou)))]) [1, 0] rfl rfl
  refine W.widen (k := 1) (n := 6) (by first | exact Nat.le_refl _ | omega) (by first | exact Nat.le_refl _ | omega) ?_
  exact k_retI (sz := 0) (v := nI 1) hx hb hr hlocks hAe hS hP hD () (rfl) (rfl) dL_join_13
set_option maxHeartbeats 4000000 in
set_option maxRecDepth 100000 in
theorem c_L_nodes (l : Launch) (g : va_G) (cI cJ cZ : ClassId) (x tk sc ga : Nat) (mh kr kq fq bq gq : Nat) (rcv ncl bl rd hd jn sn : Nat) (fo : Nat → Nat) (h q1 q2 q3 q4 q5 q6 q7 n : Nat) (pa ch kd ad ra su un : Nat → Nat) (mk sv : Nat) (top : Nat) (S L R : Nat → Nat) (rc : Nat → Bool) (sp : Nat → Bool) (rq nu : Nat → Nat) (i : Nat) (v2 : Int32) (oa : Nat) (ou : Nat → Int64) (hn : n < 2 ^ 25) (hR : RuleOK S L R rc top) (hI : wI top S L R sp rq nu ([]) n mk sv pa ch kd ad ra su un fo bl rd hd) (hrv : rcv < 2 ^ 31) (hi : 1 ≤ i ∧ i ≤ 24) (hrc : rcv / 2 ^ i &&& 1 = 1) (hv2 : v2 = nI 0 ∨ v2 = nI 1 ∨ v2 = nI 2) : kI l g (kty cI cJ cZ) yL_nodes wsL_nodes ({ frames := 3, cells := 0, slots := 0, locals := 64 }) [.ref x, .int (nI i), .int v2, .ref oa] [(x, .inr (3, [.ref tk, .ref mh, .ref sc, .ref ga, .int (nI 1)])), (mh, .inr (0, [.ref kr, .ref h, .ref kq, .ref fq, .ref bq, .ref gq, .int (nI rcv), .int (nI ncl), .int (nI bl), .int (nI rd), .int (nI hd), .int (nI jn), .int (nI sn)])), (fq, .inl (cI, 25, .inl (fun j => nI (fo j)))), (h, .inr (2, [.ref q1, .ref q2, .ref q3, .ref q4, .ref q5, .ref q6, .ref q7, .int (nI mk), .int (nI sv)])), (q1, .inl (cI, n, .inl (fun j => nI (pa j)))), (q2, .inl (cI, n, .inl (fun j => nI (ch j)))), (q3, .inl (cI, n, .inl (fun j => nI (kd j)))), (q4, .inl (cI, n, .inl (fun j => nI (ad j)))), (q5, .inl (cI, n, .inl (fun j => nI (ra j)))), (q6, .inl (cI, n, .inl (fun j => nI (su j)))), (q7, .inl (cI, n, .inl (fun j => nI (un j)))), (oa, .inl (cJ, 1, .inr (.inl ou)))] (S := Int32 × (Unit)) (fun r u => r = nI 0 ∧ (fun r _ => r = if v2 = nI 0 then nI (fo i) else if v2 = nI 1 then (if (fsO (cls top L R) rq i (lvs sp 1)) = 0 then -1 else nI (adr top S L R (fsO (cls top L R) rq i (lvs sp 1)))) else (if (fsO (cls top L R) rq i (lvs sp 1).reverse) = 0 then -1 else nI (adr top S L R (fsO (cls top L R) rq i (lvs sp 1).reverse)))) u.1 u.2) (fun u => [(x, .inr (3, [.ref tk, .ref mh, .ref sc, .ref ga, .int (nI 1)])), (mh, .inr (0, [.ref kr, .ref h, .ref kq, .ref fq, .ref bq, .ref gq, .int (nI rcv), .int (nI ncl), .int (nI bl), .int (nI rd), .int (nI hd), .int (nI jn), .int (nI sn)])), (fq, .inl (cI, 25, .inl (fun j => nI (fo j)))), (h, .inr (2, [.ref q1, .ref q2, .ref q3, .ref q4, .ref q5, .ref q6, .ref q7, .int (nI mk), .int (nI sv)])), (q1, .inl (cI, n, .inl (fun j => nI (pa j)))), (q2, .inl (cI, n, .inl (fun j => nI (ch j)))), (q3, .inl (cI, n, .inl (fun j => nI (kd j)))), (q4, .inl (cI, n, .inl (fun j => nI (ad j)))), (q5, .inl (cI, n, .inl (fun j => nI (ra j)))), (q6, .inl (cI, n, .inl (fun j => nI (su j)))), (q7, .inl (cI, n, .inl (fun j => nI (un j)))), (oa, .inl (cJ, 1, .inr (.inl (vp_updL ou 0 (u.1).toInt64))))]) 0 0 := by
  intro sz
  refine va_MetW (cc := cL_nodes) (maxL := 5) (ret := (some .int)) (by decide) rfl ?_
  intro p e s m args below meth c s₁ B hml hv
  obtain ⟨rfl, hsz, hP, hk, hD0⟩ := hv
  subst hsz
  have hx := B.exec
  have hb := B.bytes
  have hr := B.returns
  have hts := atoms_spec (ws := wsL_nodes) B.pre
  have hown : s.vm.findClass RL = some m.cls := findClass_of_methodNamed B.named
  have hlocks := B.notSynchronized
  have hK := hk.1
  obtain ⟨A, hAe⟩ : ∃ A, va_A [(x, .inr (3, [.ref tk, .ref mh, .ref sc, .ref ga, .int (nI 1)])), (mh, .inr (0, [.ref kr, .ref h, .ref kq, .ref fq, .ref bq, .ref gq, .int (nI rcv), .int (nI ncl), .int (nI bl), .int (nI rd), .int (nI hd), .int (nI jn), .int (nI sn)])), (fq, .inl (cI, 25, .inl (fun j => nI (fo j)))), (h, .inr (2, [.ref q1, .ref q2, .ref q3, .ref q4, .ref q5, .ref q6, .ref q7, .int (nI mk), .int (nI sv)])), (q1, .inl (cI, n, .inl (fun j => nI (pa j)))), (q2, .inl (cI, n, .inl (fun j => nI (ch j)))), (q3, .inl (cI, n, .inl (fun j => nI (kd j)))), (q4, .inl (cI, n, .inl (fun j => nI (ad j)))), (q5, .inl (cI, n, .inl (fun j => nI (ra j)))), (q6, .inl (cI, n, .inl (fun j => nI (su j)))), (q7, .inl (cI, n, .inl (fun j => nI (un j)))), (oa, .inl (cJ, 1, .inr (.inl ou)))] s.heap.size = A := ⟨_, rfl⟩
  have hD := hD0.self (sz := s.heap.size)
  rw [hAe] at hD
  have hA : ∀ q : Nat, s.heap.size ≤ q → A q := fun q h => by rw [← hAe]; exact Or.inr h
  have hS : va_S A s.heap s.heap [] := va_S.rf
  have hl := lv_entry ([.ref x, .int (nI i), .int v2, .ref oa]) (n := 5) (Nat.le_of_ble_eq_true rfl)
  rw [lg_entry_eq]
  generalize (lg_sl ([.ref x, .int (nI i), .int v2, .ref oa]) ++ List.replicate (5 - (lg_sl ([.ref x, .int (nI i), .int v2, .ref oa])).length) Slot.unset).toArray = ls at hl ⊢
  have hl : lv_has ls 5 [(0, .ref x), (1, .int (nI i)), (2, .int v2), (3, .ref oa)] := hl
  have htb : c.exceptionTable.toList = _ := vx_table (x := yL_nodes) B (hts _ List.mem_cons_self)
  refine lv_aload_n hx hb dL_nodes_0 rfl (lv_at hl 3 rfl) ?_
  refine lv_iconst (v := nI 0) hx hb dL_nodes_1 (by decide) ?_
  refine lv_aload_n hx hb dL_nodes_2 rfl (lv_at hl 0 rfl) ?_
  refine lv_iload_n hx hb dL_nodes_3 rfl (lv_at hl 1 rfl) ?_
  refine lv_iload_n hx hb dL_nodes_4 rfl (lv_at hl 2 rfl) ?_
  refine k_goI (wr := [(oa, .inl (cJ, 1, .inr (.inl ou)))]) (va_runV (As := [.int (nI i), .int v2]) (rest := [.int (nI 0), .ref oa]) ⟨hx, hb, hml, hown, hts⟩ (c_X3_nodes l g cI cJ cZ x tk sc ga mh kr kq fq bq gq rcv ncl bl rd hd jn sn fo h q1 q2 q3 q4 q5 q6 q7 n pa ch kd ad ra su un mk sv top S L R rc sp rq nu i v2  hn hR hI hrv hi hrc hv2 _) (cwV 2 hts gL_nodes_X3_nodes rfl rfl rfl (by decide +kernel) ⟨Nat.le_of_ble_eq_true rfl, Nat.le_of_ble_eq_true rfl⟩) (k_preV hk hP hD [0, 1, 2, 3, 4, 5, 6, 7, 8, 9, 10] rfl rfl (ci := 3) (q0 := 0) rfl rfl) rfl rfl hl.1 rfl (lv_room (Nat.le_of_ble_eq_true rfl)) dL_nodes_5 ⟨by first | exact Nat.zero_le _ | omega, by first | exact Nat.zero_le _ | omega⟩) hP hD hS hA [0, 1, 2, 3, 4, 5, 6, 7, 8, 9, 10] [11] rfl rfl rfl (by decide) (fun rv _ H locs hu hP hD hS => ?_)
  have hP : va_P g vwCl [(oa, .inl (cJ, 1, .inr (.inl ou))), (x, .inr (3, [.ref tk, .ref mh, .ref sc, .ref ga, .int (nI 1)])), (mh, .inr (0, [.ref kr, .ref h, .ref kq, .ref fq, .ref bq, .ref gq, .int (nI rcv), .int (nI ncl), .int (nI bl), .int (nI rd), .int (nI hd), .int (nI jn), .int (nI sn)])), (fq, .inl (cI, 25, .inl (fun j => nI (fo j)))), (h, .inr (2, [.ref q1, .ref q2, .ref q3, .ref q4, .ref q5, .ref q6, .ref q7, .int (nI mk), .int (nI sv)])), (q1, .inl (cI, n, .inl (fun j => nI (pa j)))), (q2, .inl (cI, n, .inl (fun j => nI (ch j)))), (q3, .inl (cI, n, .inl (fun j => nI (kd j)))), (q4, .inl (cI, n, .inl (fun j => nI (ad j)))), (q5, .inl (cI, n, .inl (fun j => nI (ra j)))), (q6, .inl (cI, n, .inl (fun j => nI (su j)))), (q7, .inl (cI, n, .inl (fun j => nI (un j))))] H := hP
  have hD : va_D A [(oa, .inl (cJ, 1, .inr (.inl ou))), (x, .inr (3, [.ref tk, .ref mh, .ref sc, .ref ga, .int (nI 1)])), (mh, .inr (0, [.ref kr, .ref h, .ref kq, .ref fq, .ref bq, .ref gq, .int (nI rcv), .int (nI ncl), .int (nI bl), .int (nI rd), .int (nI hd), .int (nI jn), .int (nI sn)])), (fq, .inl (cI, 25, .inl (fun j => nI (fo j)))), (h, .inr (2, [.ref q1, .ref q2, .ref q3, .ref q4, .ref q5, .ref q6, .ref q7, .int (nI mk), .int (nI sv)])), (q1, .inl (cI, n, .inl (fun j => nI (pa j)))), (q2, .inl (cI, n, .inl (fun j => nI (ch j)))), (q3, .inl (cI, n, .inl (fun j => nI (kd j)))), (q4, .inl (cI, n, .inl (fun j => nI (ad j)))), (q5, .inl (cI, n, .inl (fun j => nI (ra j)))), (q6, .inl (cI, n, .inl (fun j => nI (su j)))), (q7, .inl (cI, n, .inl (fun j => nI (un j))))] := hD
  refine lv_i2l hx hb dL_nodes_8 rfl ?_
  refine n_last hx hb hK hP hD hS 0 1 rfl rfl (i := 0) (v := ((rv).toInt64)) (by decide) (by decide) dL_nodes_9 (fun H locs hP hD hS => ?_)
  have hP : va_P g vwCl [(oa, .inl (cJ, 1, .inr (.inl (vp_updL ou 0 ((rv).toInt64))))), (x, .inr (3, [.ref tk, .ref mh, .ref sc, .ref ga, .int (nI 1)])), (mh, .inr (0, [.ref kr, .ref h, .ref kq, .ref fq, .ref bq, .ref gq, .int (nI rcv), .int (nI ncl), .int (nI bl), .int (nI rd), .int (nI hd), .int (nI jn), .int (nI sn)])), (fq, .inl (cI, 25, .inl (fun j => nI (fo j)))), (h, .inr (2, [.ref q1, .ref q2, .ref q3, .ref q4, .ref q5, .ref q6, .ref q7, .int (nI mk), .int (nI sv)])), (q1, .inl (cI, n, .inl (fun j => nI (pa j)))), (q2, .inl (cI, n, .inl (fun j => nI (ch j)))), (q3, .inl (cI, n, .inl (fun j => nI (kd j)))), (q4, .inl (cI, n, .inl (fun j => nI (ad j)))), (q5, .inl (cI, n, .inl (fun j => nI (ra j)))), (q6, .inl (cI, n, .inl (fun j => nI (su j)))), (q7, .inl (cI, n, .inl (fun j => nI (un j))))] H := hP
  have hD : va_D A [(oa, .inl (cJ, 1, .inr (.inl (vp_updL ou 0 ((rv).toInt64))))), (x, .inr (3, [.ref tk, .ref mh, .ref sc, .ref ga, .int (nI 1)])), (mh, .inr (0, [.ref kr, .ref h, .ref kq, .ref fq, .ref bq, .ref gq, .int (nI rcv), .int (nI ncl), .int (nI bl), .int (nI rd), .int (nI hd), .int (nI jn), .int (nI sn)])), (fq, .inl (cI, 25, .inl (fun j => nI (fo j)))), (h, .inr (2, [.ref q1, .ref q2, .ref q3, .ref q4, .ref q5, .ref q6, .ref q7, .int (nI mk), .int (nI sv)])), (q1, .inl (cI, n, .inl (fun j => nI (pa j)))), (q2, .inl (cI, n, .inl (fun j => nI (ch j)))), (q3, .inl (cI, n, .inl (fun j => nI (kd j)))), (q4, .inl (cI, n, .inl (fun j => nI (ad j)))), (q5, .inl (cI, n, .inl (fun j => nI (ra j)))), (q6, .inl (cI, n, .inl (fun j => nI (su j)))), (q7, .inl (cI, n, .inl (fun j => nI (un j))))] := hD
  refine lv_goto (tgt := 21) hx hb dL_nodes_10 (by decide) ?_
  refine lv_iconst (v := nI 0) hx hb dL_nodes_21 (by decide) ?_
  have hP := hP.sub (ws' := [(x, .inr (3, [.ref tk, .ref mh, .ref sc, .ref ga, .int (nI 1)])), (mh, .inr (0, [.ref kr, .ref h, .ref kq, .ref fq, .ref bq, .ref gq, .int (nI rcv), .int (nI ncl), .int (nI bl), .int (nI rd), .int (nI hd), .int (nI jn), .int (nI sn)])), (fq, .inl (cI, 25, .inl (fun j => nI (fo j)))), (h, .inr (2, [.ref q1, .ref q2, .ref q3, .ref q4, .ref q5, .ref q6, .ref q7, .int (nI mk), .int (nI sv)])), (q1, .inl (cI, n, .inl (fun j => nI (pa j)))), (q2, .inl (cI, n, .inl (fun j => nI (ch j)))), (q3, .inl (cI, n, .inl (fun j => nI (kd j)))), (q4, .inl (cI, n, .inl (fun j => nI (ad j)))), (q5, .inl (cI, n, .inl (fun j => nI (ra j)))), (q6, .inl (cI, n, .inl (fun j => nI (su j)))), (q7, .inl (cI, n, .inl (fun j => nI (un j)))), (oa, .inl (cJ, 1, .inr (.inl (vp_updL ou 0 ((rv).toInt64)))))]) [1, 2, 3, 4, 5, 6, 7, 8, 9, 10, 11, 0] rfl
  have hD := hD.sub (ws' := [(x, .inr (3, [.ref tk, .ref mh, .ref sc, .ref ga, .int (nI 1)])), (mh, .inr (0, [.ref kr, .ref h, .ref kq, .ref fq, .ref bq, .ref gq, .int (nI rcv), .int (nI ncl), .int (nI bl), .int (nI rd), .int (nI hd), .int (nI jn), .int (nI sn)])), (fq, .inl (cI, 25, .inl (fun j => nI (fo j)))), (h, .inr (2, [.ref q1, .ref q2, .ref q3, .ref q4, .ref q5, .ref q6, .ref q7, .int (nI mk), .int (nI sv)])), (q1, .inl (cI, n, .inl (fun j => nI (pa j)))), (q2, .inl (cI, n, .inl (fun j => nI (ch j)))), (q3, .inl (cI, n, .inl (fun j => nI (kd j)))), (q4, .inl (cI, n, .inl (fun j => nI (ad j)))), (q5, .inl (cI, n, .inl (fun j => nI (ra j)))), (q6, .inl (cI, n, .inl (fun j => nI (su j)))), (q7, .inl (cI, n, .inl (fun j => nI (un j)))), (oa, .inl (cJ, 1, .inr (.inl (vp_updL ou 0 ((rv).toInt64)))))]) [1, 2, 3, 4, 5, 6, 7, 8, 9, 10, 11, 0] rfl rfl
  refine W.widen (k := 0) (n := 0) (by first | exact Nat.le_refl _ | omega) (by first | exact Nat.le_refl _ | omega) ?_
  exact k_retI (sz := 0) (v := nI 0) hx hb hr hlocks hAe hS hP hD (rv, ()) (rfl) (⟨rfl, hu⟩) dL_nodes_22
set_option maxHeartbeats 4000000 in
set_option maxRecDepth 100000 in
theorem c_L_nodes_tM (l : Launch) (g : va_G) (cI cJ cZ : ClassId) (hst : l.stackTraces = false) (x tk sc ga : Nat) (mh : Nat) (v v2 : Int32) (oa : Nat) (ou : Nat → Int64)  : kIx l g (kty cI cJ cZ) yL_nodes wsL_nodes ({ frames := 8, cells := 1, slots := 6, locals := 132 }) [.ref x, .int v, .int v2, .ref oa] [(x, .inr (3, [.ref tk, .ref mh, .ref sc, .ref ga, .int (nI 0)])), (oa, .inl (cJ, 1, .inr (.inl ou)))] (S := Unit) (fun r _ => r = nI 1) (fun u => [(x, .inr (3, [.ref tk, .ref mh, .ref sc, .ref ga, .int (nI 0)])), (oa, .inl (cJ, 1, .inr (.inl ou)))]) 1 6 := by
  intro sz
  refine va_MetW (cc := cL_nodes) (maxL := 5) (ret := (some .int)) (by decide) rfl ?_
  intro p e s m args below meth c s₁ B hml hv
  obtain ⟨rfl, ⟨hsz, hP, hk, hD0⟩, hxT, hxZ⟩ := hv
  subst hsz
  have hx := B.exec
  have hb := B.bytes
  have hr := B.returns
  have hts := atoms_spec (ws := wsL_nodes) B.pre
  have hown : s.vm.findClass RL = some m.cls := findClass_of_methodNamed B.named
  have hlocks := B.notSynchronized
  have hK := hk.1
  obtain ⟨A, hAe⟩ : ∃ A, va_A [(x, .inr (3, [.ref tk, .ref mh, .ref sc, .ref ga, .int (nI 0)])), (oa, .inl (cJ, 1, .inr (.inl ou)))] s.heap.size = A := ⟨_, rfl⟩
  have hD := hD0.self (sz := s.heap.size)
  rw [hAe] at hD hxZ
  have hA : ∀ q : Nat, s.heap.size ≤ q → A q := fun q h => by rw [← hAe]; exact Or.inr h
  have hS : va_S A s.heap s.heap [] := va_S.rf
  have hl := lv_entry ([.ref x, .int v, .int v2, .ref oa]) (n := 5) (Nat.le_of_ble_eq_true rfl)
  rw [lg_entry_eq]
  generalize (lg_sl ([.ref x, .int v, .int v2, .ref oa]) ++ List.replicate (5 - (lg_sl ([.ref x, .int v, .int v2, .ref oa])).length) Slot.unset).toArray = ls at hl ⊢
  have hl : lv_has ls 5 [(0, .ref x), (1, .int v), (2, .int v2), (3, .ref oa)] := hl
  have htb : c.exceptionTable.toList = _ := vx_table (x := yL_nodes) B (hts _ List.mem_cons_self)
  refine lv_aload_n hx hb dL_nodes_0 rfl (lv_at hl 3 rfl) ?_
  refine lv_iconst (v := nI 0) hx hb dL_nodes_1 (by decide) ?_
  refine lv_aload_n hx hb dL_nodes_2 rfl (lv_at hl 0 rfl) ?_
  refine lv_iload_n hx hb dL_nodes_3 rfl (lv_at hl 1 rfl) ?_
  refine lv_iload_n hx hb dL_nodes_4 rfl (lv_at hl 2 rfl) ?_
  refine k_goT (wr := [(oa, .inl (cJ, 1, .inr (.inl ou)))]) (vx_runV (As := [.int v, .int v2]) (rest := [.int (nI 0), .ref oa]) ⟨hx, hb, hml, hown, hts⟩ (c_X3_nodes_tM l g cI cJ cZ hst x tk sc ga mh v v2   _) (cwV 2 hts gL_nodes_X3_nodes rfl rfl rfl (by decide +kernel) ⟨Nat.le_of_ble_eq_true rfl, Nat.le_of_ble_eq_true rfl⟩) (k_preVx hk hxT (hxZ.kept (fun a h1 h2 => hS.2.1 a h1 h2)) hP hD hS hA [0] rfl rfl (ci := 3) (q0 := 0) rfl rfl) rfl rfl hl.1 rfl (lv_room (Nat.le_of_ble_eq_true rfl)) dL_nodes_5 ⟨Nat.le_of_ble_eq_true rfl, Nat.le_of_ble_eq_true rfl⟩) hP hD hS hA [0] [1] rfl rfl rfl (by decide) (fun ce q9 H locs hP hD hS hkp hce hcv hcl => ?_)
  have hP : va_P g vwCl [(oa, .inl (cJ, 1, .inr (.inl ou))), (x, .inr (3, [.ref tk, .ref mh, .ref sc, .ref ga, .int (nI 0)]))] H := hP
  have hD : va_D A [(oa, .inl (cJ, 1, .inr (.inl ou))), (x, .inr (3, [.ref tk, .ref mh, .ref sc, .ref ga, .int (nI 0)]))] := hD
  refine vx_catch (E := xI) (own := RL) (name := "java/lang/IllegalStateException") hown [] ⟨0, 10, 13, 25⟩ [⟨0, 10, 17, 13⟩] htb (fun z hz => by cases hz) (by decide) (by decide) (hts (.classLink RL 25 "java/lang/IllegalStateException") (by decide +kernel)) (va_Nw.use rfl (hxT.2 _ (by decide +kernel))) hce hcv hcl ?_
  refine lv_astore (lv' := [(4, .ref q9), (0, .ref x), (1, .int v), (2, .int v2), (3, .ref oa)]) hx hb dL_nodes_13 hl (by decide) rfl (fun ls hl => ?_)
  refine lv_iconst (v := nI 1) hx hb dL_nodes_15 (by decide) ?_
  have hP := hP.sub (ws' := [(x, .inr (3, [.ref tk, .ref mh, .ref sc, .ref ga, .int (nI 0)])), (oa, .inl (cJ, 1, .inr (.inl ou)))]) [1, 0] rfl
  have hD := hD.sub (ws' := [(x, .inr (3, [.ref tk, .ref mh, .ref sc, .ref ga, .int (nI 0)])), (oa, .inl (cJ, 1, .inr (.inl ou)))]) [1, 0] rfl rfl
  refine W.widen (k := 1) (n := 6) (by first | exact Nat.le_refl _ | omega) (by first | exact Nat.le_refl _ | omega) ?_
  exact k_retI (sz := 0) (v := nI 1) hx hb hr hlocks hAe hS hP hD () (rfl) (rfl) dL_nodes_16
set_option maxHeartbeats 4000000 in
set_option maxRecDepth 100000 in
theorem c_L_nodes_tR (l : Launch) (g : va_G) (cI cJ cZ : ClassId) (hst : l.stackTraces = false) (x tk sc ga : Nat) (mh kr kq fq bq gq h : Nat) (rcv ncl bl rd hd jn sn : Nat) (v v2 : Int32) (oa : Nat) (ou : Nat → Int64) (hrv : rcv < 2 ^ 31) (hv : ∀ i, 1 ≤ i → i ≤ 24 → v = nI i → ¬ rcv / 2 ^ i &&& 1 = 1) : kIc l g (kty cI cJ cZ) yL_nodes wsL_nodes ({ frames := 8, cells := 1, slots := 6, locals := 133 }) [.ref x, .int v, .int v2, .ref oa] [(x, .inr (3, [.ref tk, .ref mh, .ref sc, .ref ga, .int (nI 1)])), (mh, .inr (0, [.ref kr, .ref h, .ref kq, .ref fq, .ref bq, .ref gq, .int (nI rcv), .int (nI ncl), .int (nI bl), .int (nI rd), .int (nI hd), .int (nI jn), .int (nI sn)])), (oa, .inl (cJ, 1, .inr (.inl ou)))] (S := Unit) (fun r _ => r = nI 2) (fun u => [(x, .inr (3, [.ref tk, .ref mh, .ref sc, .ref ga, .int (nI 1)])), (mh, .inr (0, [.ref kr, .ref h, .ref kq, .ref fq, .ref bq, .ref gq, .int (nI rcv), .int (nI ncl), .int (nI bl), .int (nI rd), .int (nI hd), .int (nI jn), .int (nI sn)])), (oa, .inl (cJ, 1, .inr (.inl ou)))]) 1 6 := by
  intro sz
  refine va_MetW (cc := cL_nodes) (maxL := 5) (ret := (some .int)) (by decide) rfl ?_
  intro p e s m args below meth c s₁ B hml hv
  obtain ⟨rfl, ⟨hsz, hP, hk, hD0⟩, hxT, hxZ, hxC⟩ := hv
  subst hsz
  have hx := B.exec
  have hb := B.bytes
  have hr := B.returns
  have hts := atoms_spec (ws := wsL_nodes) B.pre
  have hown : s.vm.findClass RL = some m.cls := findClass_of_methodNamed B.named
  have hlocks := B.notSynchronized
  have hK := hk.1
  obtain ⟨A, hAe⟩ : ∃ A, va_A [(x, .inr (3, [.ref tk, .ref mh, .ref sc, .ref ga, .int (nI 1)])), (mh, .inr (0, [.ref kr, .ref h, .ref kq, .ref fq, .ref bq, .ref gq, .int (nI rcv), .int (nI ncl), .int (nI bl), .int (nI rd), .int (nI hd), .int (nI jn), .int (nI sn)])), (oa, .inl (cJ, 1, .inr (.inl ou)))] s.heap.size = A := ⟨_, rfl⟩
  have hD := hD0.self (sz := s.heap.size)
  rw [hAe] at hD hxZ
  have hA : ∀ q : Nat, s.heap.size ≤ q → A q := fun q h => by rw [← hAe]; exact Or.inr h
  have hS : va_S A s.heap s.heap [] := va_S.rf
  have hl := lv_entry ([.ref x, .int v, .int v2, .ref oa]) (n := 5) (Nat.le_of_ble_eq_true rfl)
  rw [lg_entry_eq]
  generalize (lg_sl ([.ref x, .int v, .int v2, .ref oa]) ++ List.replicate (5 - (lg_sl ([.ref x, .int v, .int v2, .ref oa])).length) Slot.unset).toArray = ls at hl ⊢
  have hl : lv_has ls 5 [(0, .ref x), (1, .int v), (2, .int v2), (3, .ref oa)] := hl
  have htb : c.exceptionTable.toList = _ := vx_table (x := yL_nodes) B (hts _ List.mem_cons_self)
  refine lv_aload_n hx hb dL_nodes_0 rfl (lv_at hl 3 rfl) ?_
  refine lv_iconst (v := nI 0) hx hb dL_nodes_1 (by decide) ?_
  refine lv_aload_n hx hb dL_nodes_2 rfl (lv_at hl 0 rfl) ?_
  refine lv_iload_n hx hb dL_nodes_3 rfl (lv_at hl 1 rfl) ?_
  refine lv_iload_n hx hb dL_nodes_4 rfl (lv_at hl 2 rfl) ?_
  refine k_goT (wr := [(oa, .inl (cJ, 1, .inr (.inl ou)))]) (vx_runV (As := [.int v, .int v2]) (rest := [.int (nI 0), .ref oa]) ⟨hx, hb, hml, hown, hts⟩ (c_X3_nodes_tR l g cI cJ cZ hst x tk sc ga mh kr kq fq bq gq h rcv ncl bl rd hd jn sn v v2  hrv hv _) (cwV 2 hts gL_nodes_X3_nodes rfl rfl rfl (by decide +kernel) ⟨Nat.le_of_ble_eq_true rfl, Nat.le_of_ble_eq_true rfl⟩) (k_preVx hk hxT (hxZ.kept (fun a h1 h2 => hS.2.1 a h1 h2)) hP hD hS hA [0, 1] rfl rfl (ci := 3) (q0 := 0) rfl rfl) rfl rfl hl.1 rfl (lv_room (Nat.le_of_ble_eq_true rfl)) dL_nodes_5 ⟨Nat.le_of_ble_eq_true rfl, Nat.le_of_ble_eq_true rfl⟩) hP hD hS hA [0, 1] [2] rfl rfl rfl (by decide) (fun ce q9 H locs hP hD hS hkp hce hcv hcl => ?_)
  have hP : va_P g vwCl [(oa, .inl (cJ, 1, .inr (.inl ou))), (x, .inr (3, [.ref tk, .ref mh, .ref sc, .ref ga, .int (nI 1)])), (mh, .inr (0, [.ref kr, .ref h, .ref kq, .ref fq, .ref bq, .ref gq, .int (nI rcv), .int (nI ncl), .int (nI bl), .int (nI rd), .int (nI hd), .int (nI jn), .int (nI sn)]))] H := hP
  have hD : va_D A [(oa, .inl (cJ, 1, .inr (.inl ou))), (x, .inr (3, [.ref tk, .ref mh, .ref sc, .ref ga, .int (nI 1)])), (mh, .inr (0, [.ref kr, .ref h, .ref kq, .ref fq, .ref bq, .ref gq, .int (nI rcv), .int (nI ncl), .int (nI bl), .int (nI rd), .int (nI hd), .int (nI jn), .int (nI sn)]))] := hD
  refine vx_catch (E := xA) (own := RL) (name := "java/lang/IllegalArgumentException") hown [⟨0, 10, 13, 25⟩] ⟨0, 10, 17, 13⟩ [] htb (fun z hz => by rw [List.mem_singleton.mp hz]; exact Or.inr ⟨by decide, _, hts (.classLink RL 25 "java/lang/IllegalStateException") (by decide +kernel), hxC⟩) (by decide) (by decide) (hts (.classLink RL 13 "java/lang/IllegalArgumentException") (by decide +kernel)) (va_Nw.use rfl (hxT.2 _ (by decide +kernel))) hce hcv hcl ?_
  refine lv_astore (lv' := [(4, .ref q9), (0, .ref x), (1, .int v), (2, .int v2), (3, .ref oa)]) hx hb dL_nodes_17 hl (by decide) rfl (fun ls hl => ?_)
  refine lv_iconst (v := nI 2) hx hb dL_nodes_19 (by decide) ?_
  have hP := hP.sub (ws' := [(x, .inr (3, [.ref tk, .ref mh, .ref sc, .ref ga, .int (nI 1)])), (mh, .inr (0, [.ref kr, .ref h, .ref kq, .ref fq, .ref bq, .ref gq, .int (nI rcv), .int (nI ncl), .int (nI bl), .int (nI rd), .int (nI hd), .int (nI jn), .int (nI sn)])), (oa, .inl (cJ, 1, .inr (.inl ou)))]) [1, 2, 0] rfl
  have hD := hD.sub (ws' := [(x, .inr (3, [.ref tk, .ref mh, .ref sc, .ref ga, .int (nI 1)])), (mh, .inr (0, [.ref kr, .ref h, .ref kq, .ref fq, .ref bq, .ref gq, .int (nI rcv), .int (nI ncl), .int (nI bl), .int (nI rd), .int (nI hd), .int (nI jn), .int (nI sn)])), (oa, .inl (cJ, 1, .inr (.inl ou)))]) [1, 2, 0] rfl rfl
  refine W.widen (k := 1) (n := 6) (by first | exact Nat.le_refl _ | omega) (by first | exact Nat.le_refl _ | omega) ?_
  exact k_retI (sz := 0) (v := nI 2) hx hb hr hlocks hAe hS hP hD () (rfl) (rfl) dL_nodes_20
set_option maxHeartbeats 4000000 in
set_option maxRecDepth 100000 in
theorem c_L_nodes_tA (l : Launch) (g : va_G) (cI cJ cZ : ClassId) (hst : l.stackTraces = false) (x tk sc ga : Nat) (mh kr kq fq bq gq h : Nat) (rcv ncl bl rd hd jn sn : Nat) (i : Nat) (v2 : Int32) (oa : Nat) (ou : Nat → Int64) (hrv : rcv < 2 ^ 31) (hi : 1 ≤ i ∧ i ≤ 24) (hrc : rcv / 2 ^ i &&& 1 = 1) (hv2 : ¬ v2 = nI 0 ∧ ¬ v2 = nI 1 ∧ ¬ v2 = nI 2) : kIc l g (kty cI cJ cZ) yL_nodes wsL_nodes ({ frames := 7, cells := 1, slots := 6, locals := 112 }) [.ref x, .int (nI i), .int v2, .ref oa] [(x, .inr (3, [.ref tk, .ref mh, .ref sc, .ref ga, .int (nI 1)])), (mh, .inr (0, [.ref kr, .ref h, .ref kq, .ref fq, .ref bq, .ref gq, .int (nI rcv), .int (nI ncl), .int (nI bl), .int (nI rd), .int (nI hd), .int (nI jn), .int (nI sn)])), (oa, .inl (cJ, 1, .inr (.inl ou)))] (S := Unit) (fun r _ => r = nI 2) (fun u => [(x, .inr (3, [.ref tk, .ref mh, .ref sc, .ref ga, .int (nI 1)])), (mh, .inr (0, [.ref kr, .ref h, .ref kq, .ref fq, .ref bq, .ref gq, .int (nI rcv), .int (nI ncl), .int (nI bl), .int (nI rd), .int (nI hd), .int (nI jn), .int (nI sn)])), (oa, .inl (cJ, 1, .inr (.inl ou)))]) 1 6 := by
  intro sz
  refine va_MetW (cc := cL_nodes) (maxL := 5) (ret := (some .int)) (by decide) rfl ?_
  intro p e s m args below meth c s₁ B hml hv
  obtain ⟨rfl, ⟨hsz, hP, hk, hD0⟩, hxT, hxZ, hxC⟩ := hv
  subst hsz
  have hx := B.exec
  have hb := B.bytes
  have hr := B.returns
  have hts := atoms_spec (ws := wsL_nodes) B.pre
  have hown : s.vm.findClass RL = some m.cls := findClass_of_methodNamed B.named
  have hlocks := B.notSynchronized
  have hK := hk.1
  obtain ⟨A, hAe⟩ : ∃ A, va_A [(x, .inr (3, [.ref tk, .ref mh, .ref sc, .ref ga, .int (nI 1)])), (mh, .inr (0, [.ref kr, .ref h, .ref kq, .ref fq, .ref bq, .ref gq, .int (nI rcv), .int (nI ncl), .int (nI bl), .int (nI rd), .int (nI hd), .int (nI jn), .int (nI sn)])), (oa, .inl (cJ, 1, .inr (.inl ou)))] s.heap.size = A := ⟨_, rfl⟩
  have hD := hD0.self (sz := s.heap.size)
  rw [hAe] at hD hxZ
  have hA : ∀ q : Nat, s.heap.size ≤ q → A q := fun q h => by rw [← hAe]; exact Or.inr h
  have hS : va_S A s.heap s.heap [] := va_S.rf
  have hl := lv_entry ([.ref x, .int (nI i), .int v2, .ref oa]) (n := 5) (Nat.le_of_ble_eq_true rfl)
  rw [lg_entry_eq]
  generalize (lg_sl ([.ref x, .int (nI i), .int v2, .ref oa]) ++ List.replicate (5 - (lg_sl ([.ref x, .int (nI i), .int v2, .ref oa])).length) Slot.unset).toArray = ls at hl ⊢
  have hl : lv_has ls 5 [(0, .ref x), (1, .int (nI i)), (2, .int v2), (3, .ref oa)] := hl
  have htb : c.exceptionTable.toList = _ := vx_table (x := yL_nodes) B (hts _ List.mem_cons_self)
  refine lv_aload_n hx hb dL_nodes_0 rfl (lv_at hl 3 rfl) ?_
  refine lv_iconst (v := nI 0) hx hb dL_nodes_1 (by decide) ?_
  refine lv_aload_n hx hb dL_nodes_2 rfl (lv_at hl 0 rfl) ?_
  refine lv_iload_n hx hb dL_nodes_3 rfl (lv_at hl 1 rfl) ?_
  refine lv_iload_n hx hb dL_nodes_4 rfl (lv_at hl 2 rfl) ?_
  refine k_goT (wr := [(oa, .inl (cJ, 1, .inr (.inl ou)))]) (vx_runV (As := [.int (nI i), .int v2]) (rest := [.int (nI 0), .ref oa]) ⟨hx, hb, hml, hown, hts⟩ (c_X3_nodes_tA l g cI cJ cZ hst x tk sc ga mh kr kq fq bq gq h rcv ncl bl rd hd jn sn i v2  hrv hi hrc hv2 _) (cwV 2 hts gL_nodes_X3_nodes rfl rfl rfl (by decide +kernel) ⟨Nat.le_of_ble_eq_true rfl, Nat.le_of_ble_eq_true rfl⟩) (k_preVx hk hxT (hxZ.kept (fun a h1 h2 => hS.2.1 a h1 h2)) hP hD hS hA [0, 1] rfl rfl (ci := 3) (q0 := 0) rfl rfl) rfl rfl hl.1 rfl (lv_room (Nat.le_of_ble_eq_true rfl)) dL_nodes_5 ⟨Nat.le_of_ble_eq_true rfl, Nat.le_of_ble_eq_true rfl⟩) hP hD hS hA [0, 1] [2] rfl rfl rfl (by decide) (fun ce q9 H locs hP hD hS hkp hce hcv hcl => ?_)
  have hP : va_P g vwCl [(oa, .inl (cJ, 1, .inr (.inl ou))), (x, .inr (3, [.ref tk, .ref mh, .ref sc, .ref ga, .int (nI 1)])), (mh, .inr (0, [.ref kr, .ref h, .ref kq, .ref fq, .ref bq, .ref gq, .int (nI rcv), .int (nI ncl), .int (nI bl), .int (nI rd), .int (nI hd), .int (nI jn), .int (nI sn)]))] H := hP
  have hD : va_D A [(oa, .inl (cJ, 1, .inr (.inl ou))), (x, .inr (3, [.ref tk, .ref mh, .ref sc, .ref ga, .int (nI 1)])), (mh, .inr (0, [.ref kr, .ref h, .ref kq, .ref fq, .ref bq, .ref gq, .int (nI rcv), .int (nI ncl), .int (nI bl), .int (nI rd), .int (nI hd), .int (nI jn), .int (nI sn)]))] := hD
  refine vx_catch (E := xA) (own := RL) (name := "java/lang/IllegalArgumentException") hown [⟨0, 10, 13, 25⟩] ⟨0, 10, 17, 13⟩ [] htb (fun z hz => by rw [List.mem_singleton.mp hz]; exact Or.inr ⟨by decide, _, hts (.classLink RL 25 "java/lang/IllegalStateException") (by decide +kernel), hxC⟩) (by decide) (by decide) (hts (.classLink RL 13 "java/lang/IllegalArgumentException") (by decide +kernel)) (va_Nw.use rfl (hxT.2 _ (by decide +kernel))) hce hcv hcl ?_
  refine lv_astore (lv' := [(4, .ref q9), (0, .ref x), (1, .int (nI i)), (2, .int v2), (3, .ref oa)]) hx hb dL_nodes_17 hl (by decide) rfl (fun ls hl => ?_)
  refine lv_iconst (v := nI 2) hx hb dL_nodes_19 (by decide) ?_
  have hP := hP.sub (ws' := [(x, .inr (3, [.ref tk, .ref mh, .ref sc, .ref ga, .int (nI 1)])), (mh, .inr (0, [.ref kr, .ref h, .ref kq, .ref fq, .ref bq, .ref gq, .int (nI rcv), .int (nI ncl), .int (nI bl), .int (nI rd), .int (nI hd), .int (nI jn), .int (nI sn)])), (oa, .inl (cJ, 1, .inr (.inl ou)))]) [1, 2, 0] rfl
  have hD := hD.sub (ws' := [(x, .inr (3, [.ref tk, .ref mh, .ref sc, .ref ga, .int (nI 1)])), (mh, .inr (0, [.ref kr, .ref h, .ref kq, .ref fq, .ref bq, .ref gq, .int (nI rcv), .int (nI ncl), .int (nI bl), .int (nI rd), .int (nI hd), .int (nI jn), .int (nI sn)])), (oa, .inl (cJ, 1, .inr (.inl ou)))]) [1, 2, 0] rfl rfl
  refine W.widen (k := 1) (n := 6) (by first | exact Nat.le_refl _ | omega) (by first | exact Nat.le_refl _ | omega) ?_
  exact k_retI (sz := 0) (v := nI 2) hx hb hr hlocks hAe hS hP hD () (rfl) (rfl) dL_nodes_20
set_option maxHeartbeats 4000000 in
set_option maxRecDepth 100000 in
theorem c_L_leaf (l : Launch) (g : va_G) (cI cJ cZ : ClassId) (x tk sc ga : Nat) (mh kr kq fq bq gq : Nat) (rcv ncl bl rd hd jn sn : Nat) (fo : Nat → Nat) (h q1 q2 q3 q4 q5 q6 q7 n : Nat) (pa ch kd ad ra su un : Nat → Nat) (mk sv : Nat) (top : Nat) (S L R : Nat → Nat) (rc : Nat → Bool) (sp : Nat → Bool) (rq nu : Nat → Nat) (v v2 : Int32) (y : Nat) (oa : Nat) (ou : Nat → Int64) (hn : n < 2 ^ 25) (hR : RuleOK S L R rc top) (hI : wI top S L R sp rq nu ([]) n mk sv pa ch kd ad ra su un fo bl rd hd) (hyv : lfA (lvs sp 1) v = y) : kI l g (kty cI cJ cZ) yL_leaf wsL_leaf ({ frames := 2, cells := 0, slots := 0, locals := 47 }) [.ref x, .int v, .int v2, .ref oa] [(x, .inr (3, [.ref tk, .ref mh, .ref sc, .ref ga, .int (nI 1)])), (mh, .inr (0, [.ref kr, .ref h, .ref kq, .ref fq, .ref bq, .ref gq, .int (nI rcv), .int (nI ncl), .int (nI bl), .int (nI rd), .int (nI hd), .int (nI jn), .int (nI sn)])), (h, .inr (2, [.ref q1, .ref q2, .ref q3, .ref q4, .ref q5, .ref q6, .ref q7, .int (nI mk), .int (nI sv)])), (q1, .inl (cI, n, .inl (fun j => nI (pa j)))), (q2, .inl (cI, n, .inl (fun j => nI (ch j)))), (q3, .inl (cI, n, .inl (fun j => nI (kd j)))), (q4, .inl (cI, n, .inl (fun j => nI (ad j)))), (q5, .inl (cI, n, .inl (fun j => nI (ra j)))), (q6, .inl (cI, n, .inl (fun j => nI (su j)))), (q7, .inl (cI, n, .inl (fun j => nI (un j)))), (oa, .inl (cJ, 1, .inr (.inl ou)))] (S := Int32 × (Unit)) (fun r u => r = nI 0 ∧ (fun r _ => r = if y = 0 then -1 else if v2 = nI 0 then nI (adr top S L R y) else if v2 = nI 1 then nI (cls top L R y) else if v2 = nI 2 then nI (rq y) else -1) u.1 u.2) (fun u => [(x, .inr (3, [.ref tk, .ref mh, .ref sc, .ref ga, .int (nI 1)])), (mh, .inr (0, [.ref kr, .ref h, .ref kq, .ref fq, .ref bq, .ref gq, .int (nI rcv), .int (nI ncl), .int (nI bl), .int (nI rd), .int (nI hd), .int (nI jn), .int (nI sn)])), (h, .inr (2, [.ref q1, .ref q2, .ref q3, .ref q4, .ref q5, .ref q6, .ref q7, .int (nI mk), .int (nI sv)])), (q1, .inl (cI, n, .inl (fun j => nI (pa j)))), (q2, .inl (cI, n, .inl (fun j => nI (ch j)))), (q3, .inl (cI, n, .inl (fun j => nI (kd j)))), (q4, .inl (cI, n, .inl (fun j => nI (ad j)))), (q5, .inl (cI, n, .inl (fun j => nI (ra j)))), (q6, .inl (cI, n, .inl (fun j => nI (su j)))), (q7, .inl (cI, n, .inl (fun j => nI (un j)))), (oa, .inl (cJ, 1, .inr (.inl (vp_updL ou 0 (u.1).toInt64))))]) 0 0 := by
  intro sz
  refine va_MetW (cc := cL_leaf) (maxL := 5) (ret := (some .int)) (by decide) rfl ?_
  intro p e s m args below meth c s₁ B hml hv
  obtain ⟨rfl, hsz, hP, hk, hD0⟩ := hv
  subst hsz
  have hx := B.exec
  have hb := B.bytes
  have hr := B.returns
  have hts := atoms_spec (ws := wsL_leaf) B.pre
  have hown : s.vm.findClass RL = some m.cls := findClass_of_methodNamed B.named
  have hlocks := B.notSynchronized
  have hK := hk.1
  obtain ⟨A, hAe⟩ : ∃ A, va_A [(x, .inr (3, [.ref tk, .ref mh, .ref sc, .ref ga, .int (nI 1)])), (mh, .inr (0, [.ref kr, .ref h, .ref kq, .ref fq, .ref bq, .ref gq, .int (nI rcv), .int (nI ncl), .int (nI bl), .int (nI rd), .int (nI hd), .int (nI jn), .int (nI sn)])), (h, .inr (2, [.ref q1, .ref q2, .ref q3, .ref q4, .ref q5, .ref q6, .ref q7, .int (nI mk), .int (nI sv)])), (q1, .inl (cI, n, .inl (fun j => nI (pa j)))), (q2, .inl (cI, n, .inl (fun j => nI (ch j)))), (q3, .inl (cI, n, .inl (fun j => nI (kd j)))), (q4, .inl (cI, n, .inl (fun j => nI (ad j)))), (q5, .inl (cI, n, .inl (fun j => nI (ra j)))), (q6, .inl (cI, n, .inl (fun j => nI (su j)))), (q7, .inl (cI, n, .inl (fun j => nI (un j)))), (oa, .inl (cJ, 1, .inr (.inl ou)))] s.heap.size = A := ⟨_, rfl⟩
  have hD := hD0.self (sz := s.heap.size)
  rw [hAe] at hD
  have hA : ∀ q : Nat, s.heap.size ≤ q → A q := fun q h => by rw [← hAe]; exact Or.inr h
  have hS : va_S A s.heap s.heap [] := va_S.rf
  have hl := lv_entry ([.ref x, .int v, .int v2, .ref oa]) (n := 5) (Nat.le_of_ble_eq_true rfl)
  rw [lg_entry_eq]
  generalize (lg_sl ([.ref x, .int v, .int v2, .ref oa]) ++ List.replicate (5 - (lg_sl ([.ref x, .int v, .int v2, .ref oa])).length) Slot.unset).toArray = ls at hl ⊢
  have hl : lv_has ls 5 [(0, .ref x), (1, .int v), (2, .int v2), (3, .ref oa)] := hl
  have htb : c.exceptionTable.toList = _ := vx_table (x := yL_leaf) B (hts _ List.mem_cons_self)
  refine lv_aload_n hx hb dL_leaf_0 rfl (lv_at hl 3 rfl) ?_
  refine lv_iconst (v := nI 0) hx hb dL_leaf_1 (by decide) ?_
  refine lv_aload_n hx hb dL_leaf_2 rfl (lv_at hl 0 rfl) ?_
  refine lv_iload_n hx hb dL_leaf_3 rfl (lv_at hl 1 rfl) ?_
  refine lv_iload_n hx hb dL_leaf_4 rfl (lv_at hl 2 rfl) ?_
  refine k_goI (wr := [(oa, .inl (cJ, 1, .inr (.inl ou)))]) (va_runV (As := [.int v, .int v2]) (rest := [.int (nI 0), .ref oa]) ⟨hx, hb, hml, hown, hts⟩ (c_X3_leaf l g cI cJ cZ x tk sc ga mh kr kq fq bq gq rcv ncl bl rd hd jn sn fo h q1 q2 q3 q4 q5 q6 q7 n pa ch kd ad ra su un mk sv top S L R rc sp rq nu v v2 y  hn hR hI hyv _) (cwV 2 hts gL_leaf_X3_leaf rfl rfl rfl (by decide +kernel) ⟨Nat.le_of_ble_eq_true rfl, Nat.le_of_ble_eq_true rfl⟩) (k_preV hk hP hD [0, 1, 2, 3, 4, 5, 6, 7, 8, 9] rfl rfl (ci := 3) (q0 := 0) rfl rfl) rfl rfl hl.1 rfl (lv_room (Nat.le_of_ble_eq_true rfl)) dL_leaf_5 ⟨by first | exact Nat.zero_le _ | omega, by first | exact Nat.zero_le _ | omega⟩) hP hD hS hA [0, 1, 2, 3, 4, 5, 6, 7, 8, 9] [10] rfl rfl rfl (by decide) (fun rv _ H locs hu hP hD hS => ?_)
  have hP : va_P g vwCl [(oa, .inl (cJ, 1, .inr (.inl ou))), (x, .inr (3, [.ref tk, .ref mh, .ref sc, .ref ga, .int (nI 1)])), (mh, .inr (0, [.ref kr, .ref h, .ref kq, .ref fq, .ref bq, .ref gq, .int (nI rcv), .int (nI ncl), .int (nI bl), .int (nI rd), .int (nI hd), .int (nI jn), .int (nI sn)])), (h, .inr (2, [.ref q1, .ref q2, .ref q3, .ref q4, .ref q5, .ref q6, .ref q7, .int (nI mk), .int (nI sv)])), (q1, .inl (cI, n, .inl (fun j => nI (pa j)))), (q2, .inl (cI, n, .inl (fun j => nI (ch j)))), (q3, .inl (cI, n, .inl (fun j => nI (kd j)))), (q4, .inl (cI, n, .inl (fun j => nI (ad j)))), (q5, .inl (cI, n, .inl (fun j => nI (ra j)))), (q6, .inl (cI, n, .inl (fun j => nI (su j)))), (q7, .inl (cI, n, .inl (fun j => nI (un j))))] H := hP
  have hD : va_D A [(oa, .inl (cJ, 1, .inr (.inl ou))), (x, .inr (3, [.ref tk, .ref mh, .ref sc, .ref ga, .int (nI 1)])), (mh, .inr (0, [.ref kr, .ref h, .ref kq, .ref fq, .ref bq, .ref gq, .int (nI rcv), .int (nI ncl), .int (nI bl), .int (nI rd), .int (nI hd), .int (nI jn), .int (nI sn)])), (h, .inr (2, [.ref q1, .ref q2, .ref q3, .ref q4, .ref q5, .ref q6, .ref q7, .int (nI mk), .int (nI sv)])), (q1, .inl (cI, n, .inl (fun j => nI (pa j)))), (q2, .inl (cI, n, .inl (fun j => nI (ch j)))), (q3, .inl (cI, n, .inl (fun j => nI (kd j)))), (q4, .inl (cI, n, .inl (fun j => nI (ad j)))), (q5, .inl (cI, n, .inl (fun j => nI (ra j)))), (q6, .inl (cI, n, .inl (fun j => nI (su j)))), (q7, .inl (cI, n, .inl (fun j => nI (un j))))] := hD
  refine lv_i2l hx hb dL_leaf_8 rfl ?_
  refine n_last hx hb hK hP hD hS 0 1 rfl rfl (i := 0) (v := ((rv).toInt64)) (by decide) (by decide) dL_leaf_9 (fun H locs hP hD hS => ?_)
  have hP : va_P g vwCl [(oa, .inl (cJ, 1, .inr (.inl (vp_updL ou 0 ((rv).toInt64))))), (x, .inr (3, [.ref tk, .ref mh, .ref sc, .ref ga, .int (nI 1)])), (mh, .inr (0, [.ref kr, .ref h, .ref kq, .ref fq, .ref bq, .ref gq, .int (nI rcv), .int (nI ncl), .int (nI bl), .int (nI rd), .int (nI hd), .int (nI jn), .int (nI sn)])), (h, .inr (2, [.ref q1, .ref q2, .ref q3, .ref q4, .ref q5, .ref q6, .ref q7, .int (nI mk), .int (nI sv)])), (q1, .inl (cI, n, .inl (fun j => nI (pa j)))), (q2, .inl (cI, n, .inl (fun j => nI (ch j)))), (q3, .inl (cI, n, .inl (fun j => nI (kd j)))), (q4, .inl (cI, n, .inl (fun j => nI (ad j)))), (q5, .inl (cI, n, .inl (fun j => nI (ra j)))), (q6, .inl (cI, n, .inl (fun j => nI (su j)))), (q7, .inl (cI, n, .inl (fun j => nI (un j))))] H := hP
  have hD : va_D A [(oa, .inl (cJ, 1, .inr (.inl (vp_updL ou 0 ((rv).toInt64))))), (x, .inr (3, [.ref tk, .ref mh, .ref sc, .ref ga, .int (nI 1)])), (mh, .inr (0, [.ref kr, .ref h, .ref kq, .ref fq, .ref bq, .ref gq, .int (nI rcv), .int (nI ncl), .int (nI bl), .int (nI rd), .int (nI hd), .int (nI jn), .int (nI sn)])), (h, .inr (2, [.ref q1, .ref q2, .ref q3, .ref q4, .ref q5, .ref q6, .ref q7, .int (nI mk), .int (nI sv)])), (q1, .inl (cI, n, .inl (fun j => nI (pa j)))), (q2, .inl (cI, n, .inl (fun j => nI (ch j)))), (q3, .inl (cI, n, .inl (fun j => nI (kd j)))), (q4, .inl (cI, n, .inl (fun j => nI (ad j)))), (q5, .inl (cI, n, .inl (fun j => nI (ra j)))), (q6, .inl (cI, n, .inl (fun j => nI (su j)))), (q7, .inl (cI, n, .inl (fun j => nI (un j))))] := hD
  refine lv_goto (tgt := 17) hx hb dL_leaf_10 (by decide) ?_
  refine lv_iconst (v := nI 0) hx hb dL_leaf_17 (by decide) ?_
  have hP := hP.sub (ws' := [(x, .inr (3, [.ref tk, .ref mh, .ref sc, .ref ga, .int (nI 1)])), (mh, .inr (0, [.ref kr, .ref h, .ref kq, .ref fq, .ref bq, .ref gq, .int (nI rcv), .int (nI ncl), .int (nI bl), .int (nI rd), .int (nI hd), .int (nI jn), .int (nI sn)])), (h, .inr (2, [.ref q1, .ref q2, .ref q3, .ref q4, .ref q5, .ref q6, .ref q7, .int (nI mk), .int (nI sv)])), (q1, .inl (cI, n, .inl (fun j => nI (pa j)))), (q2, .inl (cI, n, .inl (fun j => nI (ch j)))), (q3, .inl (cI, n, .inl (fun j => nI (kd j)))), (q4, .inl (cI, n, .inl (fun j => nI (ad j)))), (q5, .inl (cI, n, .inl (fun j => nI (ra j)))), (q6, .inl (cI, n, .inl (fun j => nI (su j)))), (q7, .inl (cI, n, .inl (fun j => nI (un j)))), (oa, .inl (cJ, 1, .inr (.inl (vp_updL ou 0 ((rv).toInt64)))))]) [1, 2, 3, 4, 5, 6, 7, 8, 9, 10, 0] rfl
  have hD := hD.sub (ws' := [(x, .inr (3, [.ref tk, .ref mh, .ref sc, .ref ga, .int (nI 1)])), (mh, .inr (0, [.ref kr, .ref h, .ref kq, .ref fq, .ref bq, .ref gq, .int (nI rcv), .int (nI ncl), .int (nI bl), .int (nI rd), .int (nI hd), .int (nI jn), .int (nI sn)])), (h, .inr (2, [.ref q1, .ref q2, .ref q3, .ref q4, .ref q5, .ref q6, .ref q7, .int (nI mk), .int (nI sv)])), (q1, .inl (cI, n, .inl (fun j => nI (pa j)))), (q2, .inl (cI, n, .inl (fun j => nI (ch j)))), (q3, .inl (cI, n, .inl (fun j => nI (kd j)))), (q4, .inl (cI, n, .inl (fun j => nI (ad j)))), (q5, .inl (cI, n, .inl (fun j => nI (ra j)))), (q6, .inl (cI, n, .inl (fun j => nI (su j)))), (q7, .inl (cI, n, .inl (fun j => nI (un j)))), (oa, .inl (cJ, 1, .inr (.inl (vp_updL ou 0 ((rv).toInt64)))))]) [1, 2, 3, 4, 5, 6, 7, 8, 9, 10, 0] rfl rfl
  refine W.widen (k := 0) (n := 0) (by first | exact Nat.le_refl _ | omega) (by first | exact Nat.le_refl _ | omega) ?_
  exact k_retI (sz := 0) (v := nI 0) hx hb hr hlocks hAe hS hP hD (rv, ()) (rfl) (⟨rfl, hu⟩) dL_leaf_18
set_option maxHeartbeats 4000000 in
set_option maxRecDepth 100000 in
theorem c_L_leaf_tM (l : Launch) (g : va_G) (cI cJ cZ : ClassId) (hst : l.stackTraces = false) (x tk sc ga : Nat) (mh : Nat) (v v2 : Int32) (oa : Nat) (ou : Nat → Int64)  : kIx l g (kty cI cJ cZ) yL_leaf wsL_leaf ({ frames := 8, cells := 1, slots := 6, locals := 133 }) [.ref x, .int v, .int v2, .ref oa] [(x, .inr (3, [.ref tk, .ref mh, .ref sc, .ref ga, .int (nI 0)])), (oa, .inl (cJ, 1, .inr (.inl ou)))] (S := Unit) (fun r _ => r = nI 1) (fun u => [(x, .inr (3, [.ref tk, .ref mh, .ref sc, .ref ga, .int (nI 0)])), (oa, .inl (cJ, 1, .inr (.inl ou)))]) 1 6 := by
  intro sz
  refine va_MetW (cc := cL_leaf) (maxL := 5) (ret := (some .int)) (by decide) rfl ?_
  intro p e s m args below meth c s₁ B hml hv
  obtain ⟨rfl, ⟨hsz, hP, hk, hD0⟩, hxT, hxZ⟩ := hv
  subst hsz
  have hx := B.exec
  have hb := B.bytes
  have hr := B.returns
  have hts := atoms_spec (ws := wsL_leaf) B.pre
  have hown : s.vm.findClass RL = some m.cls := findClass_of_methodNamed B.named
  have hlocks := B.notSynchronized
  have hK := hk.1
  obtain ⟨A, hAe⟩ : ∃ A, va_A [(x, .inr (3, [.ref tk, .ref mh, .ref sc, .ref ga, .int (nI 0)])), (oa, .inl (cJ, 1, .inr (.inl ou)))] s.heap.size = A := ⟨_, rfl⟩
  have hD := hD0.self (sz := s.heap.size)
  rw [hAe] at hD hxZ
  have hA : ∀ q : Nat, s.heap.size ≤ q → A q := fun q h => by rw [← hAe]; exact Or.inr h
  have hS : va_S A s.heap s.heap [] := va_S.rf
  have hl := lv_entry ([.ref x, .int v, .int v2, .ref oa]) (n := 5) (Nat.le_of_ble_eq_true rfl)
  rw [lg_entry_eq]
  generalize (lg_sl ([.ref x, .int v, .int v2, .ref oa]) ++ List.replicate (5 - (lg_sl ([.ref x, .int v, .int v2, .ref oa])).length) Slot.unset).toArray = ls at hl ⊢
  have hl : lv_has ls 5 [(0, .ref x), (1, .int v), (2, .int v2), (3, .ref oa)] := hl
  have htb : c.exceptionTable.toList = _ := vx_table (x := yL_leaf) B (hts _ List.mem_cons_self)
  refine lv_aload_n hx hb dL_leaf_0 rfl (lv_at hl 3 rfl) ?_
  refine lv_iconst (v := nI 0) hx hb dL_leaf_1 (by decide) ?_
  refine lv_aload_n hx hb dL_leaf_2 rfl (lv_at hl 0 rfl) ?_
  refine lv_iload_n hx hb dL_leaf_3 rfl (lv_at hl 1 rfl) ?_
  refine lv_iload_n hx hb dL_leaf_4 rfl (lv_at hl 2 rfl) ?_
  refine k_goT (wr := [(oa, .inl (cJ, 1, .inr (.inl ou)))]) (vx_runV (As := [.int v, .int v2]) (rest := [.int (nI 0), .ref oa]) ⟨hx, hb, hml, hown, hts⟩ (c_X3_leaf_tM l g cI cJ cZ hst x tk sc ga mh v v2   _) (cwV 2 hts gL_leaf_X3_leaf rfl rfl rfl (by decide +kernel) ⟨Nat.le_of_ble_eq_true rfl, Nat.le_of_ble_eq_true rfl⟩) (k_preVx hk hxT (hxZ.kept (fun a h1 h2 => hS.2.1 a h1 h2)) hP hD hS hA [0] rfl rfl (ci := 3) (q0 := 0) rfl rfl) rfl rfl hl.1 rfl (lv_room (Nat.le_of_ble_eq_true rfl)) dL_leaf_5 ⟨Nat.le_of_ble_eq_true rfl, Nat.le_of_ble_eq_true rfl⟩) hP hD hS hA [0] [1] rfl rfl rfl (by decide) (fun ce q9 H locs hP hD hS hkp hce hcv hcl => ?_)
  have hP : va_P g vwCl [(oa, .inl (cJ, 1, .inr (.inl ou))), (x, .inr (3, [.ref tk, .ref mh, .ref sc, .ref ga, .int (nI 0)]))] H := hP
  have hD : va_D A [(oa, .inl (cJ, 1, .inr (.inl ou))), (x, .inr (3, [.ref tk, .ref mh, .ref sc, .ref ga, .int (nI 0)]))] := hD
  refine vx_catch (E := xI) (own := RL) (name := "java/lang/IllegalStateException") hown [] ⟨0, 10, 13, 25⟩ [] htb (fun z hz => by cases hz) (by decide) (by decide) (hts (.classLink RL 25 "java/lang/IllegalStateException") (by decide +kernel)) (va_Nw.use rfl (hxT.2 _ (by decide +kernel))) hce hcv hcl ?_
  refine lv_astore (lv' := [(4, .ref q9), (0, .ref x), (1, .int v), (2, .int v2), (3, .ref oa)]) hx hb dL_leaf_13 hl (by decide) rfl (fun ls hl => ?_)
  refine lv_iconst (v := nI 1) hx hb dL_leaf_15 (by decide) ?_
  have hP := hP.sub (ws' := [(x, .inr (3, [.ref tk, .ref mh, .ref sc, .ref ga, .int (nI 0)])), (oa, .inl (cJ, 1, .inr (.inl ou)))]) [1, 0] rfl
  have hD := hD.sub (ws' := [(x, .inr (3, [.ref tk, .ref mh, .ref sc, .ref ga, .int (nI 0)])), (oa, .inl (cJ, 1, .inr (.inl ou)))]) [1, 0] rfl rfl
  refine W.widen (k := 1) (n := 6) (by first | exact Nat.le_refl _ | omega) (by first | exact Nat.le_refl _ | omega) ?_
  exact k_retI (sz := 0) (v := nI 1) hx hb hr hlocks hAe hS hP hD () (rfl) (rfl) dL_leaf_16
set_option maxHeartbeats 4000000 in
set_option maxRecDepth 100000 in
theorem c_L_count (l : Launch) (g : va_G) (cI cJ cZ : ClassId) (x tk sc ga : Nat) (mh kr kq fq bq gq : Nat) (rcv ncl bl rd hd jn sn : Nat) (fo : Nat → Nat) (r1 r2 r3 r4 : Nat) (sz lf rt tr : Nat → Int32) (h q1 q2 q3 q4 q5 q6 q7 n : Nat) (pa ch kd ad ra su un : Nat → Nat) (mk sv : Nat) (top : Nat) (S L R : Nat → Nat) (rc : Nat → Bool) (sp : Nat → Bool) (rq nu : Nat → Nat) (v : Int32) (oa : Nat) (ou : Nat → Int64) (hn : n < 2 ^ 25) (hR : RuleOK S L R rc top) (hrl : rOK S L R rc sz lf rt) (hI : wI top S L R sp rq nu ([]) n mk sv pa ch kd ad ra su un fo bl rd hd) : kI l g (kty cI cJ cZ) yL_count wsL_count ({ frames := 4, cells := 0, slots := 0, locals := 108 }) [.ref x, .int v, .ref oa] [(x, .inr (3, [.ref tk, .ref mh, .ref sc, .ref ga, .int (nI 1)])), (mh, .inr (0, [.ref kr, .ref h, .ref kq, .ref fq, .ref bq, .ref gq, .int (nI rcv), .int (nI ncl), .int (nI bl), .int (nI rd), .int (nI hd), .int (nI jn), .int (nI sn)])), (kr, .inr (1, [.ref r1, .ref r2, .ref r3, .ref r4])), (r1, .inl (cI, 25, .inl sz)), (r2, .inl (cI, 25, .inl lf)), (r3, .inl (cI, 25, .inl rt)), (r4, .inl (cI, 25, .inl tr)), (h, .inr (2, [.ref q1, .ref q2, .ref q3, .ref q4, .ref q5, .ref q6, .ref q7, .int (nI mk), .int (nI sv)])), (q1, .inl (cI, n, .inl (fun j => nI (pa j)))), (q2, .inl (cI, n, .inl (fun j => nI (ch j)))), (q3, .inl (cI, n, .inl (fun j => nI (kd j)))), (q4, .inl (cI, n, .inl (fun j => nI (ad j)))), (q5, .inl (cI, n, .inl (fun j => nI (ra j)))), (q6, .inl (cI, n, .inl (fun j => nI (su j)))), (q7, .inl (cI, n, .inl (fun j => nI (un j)))), (oa, .inl (cJ, 1, .inr (.inl ou)))] (S := Int32 × (Unit)) (fun r u => r = nI 0 ∧ (fun r _ => r = cVal top S L R sp rq bl rd hd jn sn v) u.1 u.2) (fun u => [(x, .inr (3, [.ref tk, .ref mh, .ref sc, .ref ga, .int (nI 1)])), (mh, .inr (0, [.ref kr, .ref h, .ref kq, .ref fq, .ref bq, .ref gq, .int (nI rcv), .int (nI ncl), .int (nI bl), .int (nI rd), .int (nI hd), .int (nI jn), .int (nI sn)])), (kr, .inr (1, [.ref r1, .ref r2, .ref r3, .ref r4])), (r1, .inl (cI, 25, .inl sz)), (r2, .inl (cI, 25, .inl lf)), (r3, .inl (cI, 25, .inl rt)), (r4, .inl (cI, 25, .inl tr)), (h, .inr (2, [.ref q1, .ref q2, .ref q3, .ref q4, .ref q5, .ref q6, .ref q7, .int (nI mk), .int (nI sv)])), (q1, .inl (cI, n, .inl (fun j => nI (pa j)))), (q2, .inl (cI, n, .inl (fun j => nI (ch j)))), (q3, .inl (cI, n, .inl (fun j => nI (kd j)))), (q4, .inl (cI, n, .inl (fun j => nI (ad j)))), (q5, .inl (cI, n, .inl (fun j => nI (ra j)))), (q6, .inl (cI, n, .inl (fun j => nI (su j)))), (q7, .inl (cI, n, .inl (fun j => nI (un j)))), (oa, .inl (cJ, 1, .inr (.inl (vp_updL ou 0 (u.1).toInt64))))]) 0 0 := by
  intro sz
  refine va_MetW (cc := cL_count) (maxL := 4) (ret := (some .int)) (by decide) rfl ?_
  intro p e s m args below meth c s₁ B hml hv
  obtain ⟨rfl, hsz, hP, hk, hD0⟩ := hv
  subst hsz
  have hx := B.exec
  have hb := B.bytes
  have hr := B.returns
  have hts := atoms_spec (ws := wsL_count) B.pre
  have hown : s.vm.findClass RL = some m.cls := findClass_of_methodNamed B.named
  have hlocks := B.notSynchronized
  have hK := hk.1
  obtain ⟨A, hAe⟩ : ∃ A, va_A [(x, .inr (3, [.ref tk, .ref mh, .ref sc, .ref ga, .int (nI 1)])), (mh, .inr (0, [.ref kr, .ref h, .ref kq, .ref fq, .ref bq, .ref gq, .int (nI rcv), .int (nI ncl), .int (nI bl), .int (nI rd), .int (nI hd), .int (nI jn), .int (nI sn)])), (kr, .inr (1, [.ref r1, .ref r2, .ref r3, .ref r4])), (r1, .inl (cI, 25, .inl sz)), (r2, .inl (cI, 25, .inl lf)), (r3, .inl (cI, 25, .inl rt)), (r4, .inl (cI, 25, .inl tr)), (h, .inr (2, [.ref q1, .ref q2, .ref q3, .ref q4, .ref q5, .ref q6, .ref q7, .int (nI mk), .int (nI sv)])), (q1, .inl (cI, n, .inl (fun j => nI (pa j)))), (q2, .inl (cI, n, .inl (fun j => nI (ch j)))), (q3, .inl (cI, n, .inl (fun j => nI (kd j)))), (q4, .inl (cI, n, .inl (fun j => nI (ad j)))), (q5, .inl (cI, n, .inl (fun j => nI (ra j)))), (q6, .inl (cI, n, .inl (fun j => nI (su j)))), (q7, .inl (cI, n, .inl (fun j => nI (un j)))), (oa, .inl (cJ, 1, .inr (.inl ou)))] s.heap.size = A := ⟨_, rfl⟩
  have hD := hD0.self (sz := s.heap.size)
  rw [hAe] at hD
  have hA : ∀ q : Nat, s.heap.size ≤ q → A q := fun q h => by rw [← hAe]; exact Or.inr h
  have hS : va_S A s.heap s.heap [] := va_S.rf
  have hl := lv_entry ([.ref x, .int v, .ref oa]) (n := 4) (Nat.le_of_ble_eq_true rfl)
  rw [lg_entry_eq]
  generalize (lg_sl ([.ref x, .int v, .ref oa]) ++ List.replicate (4 - (lg_sl ([.ref x, .int v, .ref oa])).length) Slot.unset).toArray = ls at hl ⊢
  have hl : lv_has ls 4 [(0, .ref x), (1, .int v), (2, .ref oa)] := hl
  have htb : c.exceptionTable.toList = _ := vx_table (x := yL_count) B (hts _ List.mem_cons_self)
  refine lv_aload_n hx hb dL_count_0 rfl (lv_at hl 2 rfl) ?_
  refine lv_iconst (v := nI 0) hx hb dL_count_1 (by decide) ?_
  refine lv_aload_n hx hb dL_count_2 rfl (lv_at hl 0 rfl) ?_
  refine lv_iload_n hx hb dL_count_3 rfl (lv_at hl 1 rfl) ?_
  refine k_goI (wr := [(oa, .inl (cJ, 1, .inr (.inl ou)))]) (va_runV (As := [.int v]) (rest := [.int (nI 0), .ref oa]) ⟨hx, hb, hml, hown, hts⟩ (c_X3_count l g cI cJ cZ x tk sc ga mh kr kq fq bq gq rcv ncl bl rd hd jn sn fo r1 r2 r3 r4 sz lf rt tr h q1 q2 q3 q4 q5 q6 q7 n pa ch kd ad ra su un mk sv top S L R rc sp rq nu v  hn hR hrl hI _) (cwV 1 hts gL_count_X3_count rfl rfl rfl (by decide +kernel) ⟨Nat.le_of_ble_eq_true rfl, Nat.le_of_ble_eq_true rfl⟩) (k_preV hk hP hD [0, 1, 2, 3, 4, 5, 6, 7, 8, 9, 10, 11, 12, 13, 14] rfl rfl (ci := 3) (q0 := 0) rfl rfl) rfl rfl hl.1 rfl (lv_room (Nat.le_of_ble_eq_true rfl)) dL_count_4 ⟨by first | exact Nat.zero_le _ | omega, by first | exact Nat.zero_le _ | omega⟩) hP hD hS hA [0, 1, 2, 3, 4, 5, 6, 7, 8, 9, 10, 11, 12, 13, 14] [15] rfl rfl rfl (by decide) (fun rv _ H locs hu hP hD hS => ?_)
  have hP : va_P g vwCl [(oa, .inl (cJ, 1, .inr (.inl ou))), (x, .inr (3, [.ref tk, .ref mh, .ref sc, .ref ga, .int (nI 1)])), (mh, .inr (0, [.ref kr, .ref h, .ref kq, .ref fq, .ref bq, .ref gq, .int (nI rcv), .int (nI ncl), .int (nI bl), .int (nI rd), .int (nI hd), .int (nI jn), .int (nI sn)])), (kr, .inr (1, [.ref r1, .ref r2, .ref r3, .ref r4])), (r1, .inl (cI, 25, .inl sz)), (r2, .inl (cI, 25, .inl lf)), (r3, .inl (cI, 25, .inl rt)), (r4, .inl (cI, 25, .inl tr)), (h, .inr (2, [.ref q1, .ref q2, .ref q3, .ref q4, .ref q5, .ref q6, .ref q7, .int (nI mk), .int (nI sv)])), (q1, .inl (cI, n, .inl (fun j => nI (pa j)))), (q2, .inl (cI, n, .inl (fun j => nI (ch j)))), (q3, .inl (cI, n, .inl (fun j => nI (kd j)))), (q4, .inl (cI, n, .inl (fun j => nI (ad j)))), (q5, .inl (cI, n, .inl (fun j => nI (ra j)))), (q6, .inl (cI, n, .inl (fun j => nI (su j)))), (q7, .inl (cI, n, .inl (fun j => nI (un j))))] H := hP
  have hD : va_D A [(oa, .inl (cJ, 1, .inr (.inl ou))), (x, .inr (3, [.ref tk, .ref mh, .ref sc, .ref ga, .int (nI 1)])), (mh, .inr (0, [.ref kr, .ref h, .ref kq, .ref fq, .ref bq, .ref gq, .int (nI rcv), .int (nI ncl), .int (nI bl), .int (nI rd), .int (nI hd), .int (nI jn), .int (nI sn)])), (kr, .inr (1, [.ref r1, .ref r2, .ref r3, .ref r4])), (r1, .inl (cI, 25, .inl sz)), (r2, .inl (cI, 25, .inl lf)), (r3, .inl (cI, 25, .inl rt)), (r4, .inl (cI, 25, .inl tr)), (h, .inr (2, [.ref q1, .ref q2, .ref q3, .ref q4, .ref q5, .ref q6, .ref q7, .int (nI mk), .int (nI sv)])), (q1, .inl (cI, n, .inl (fun j => nI (pa j)))), (q2, .inl (cI, n, .inl (fun j => nI (ch j)))), (q3, .inl (cI, n, .inl (fun j => nI (kd j)))), (q4, .inl (cI, n, .inl (fun j => nI (ad j)))), (q5, .inl (cI, n, .inl (fun j => nI (ra j)))), (q6, .inl (cI, n, .inl (fun j => nI (su j)))), (q7, .inl (cI, n, .inl (fun j => nI (un j))))] := hD
  refine lv_i2l hx hb dL_count_7 rfl ?_
  refine n_last hx hb hK hP hD hS 0 1 rfl rfl (i := 0) (v := ((rv).toInt64)) (by decide) (by decide) dL_count_8 (fun H locs hP hD hS => ?_)
  have hP : va_P g vwCl [(oa, .inl (cJ, 1, .inr (.inl (vp_updL ou 0 ((rv).toInt64))))), (x, .inr (3, [.ref tk, .ref mh, .ref sc, .ref ga, .int (nI 1)])), (mh, .inr (0, [.ref kr, .ref h, .ref kq, .ref fq, .ref bq, .ref gq, .int (nI rcv), .int (nI ncl), .int (nI bl), .int (nI rd), .int (nI hd), .int (nI jn), .int (nI sn)])), (kr, .inr (1, [.ref r1, .ref r2, .ref r3, .ref r4])), (r1, .inl (cI, 25, .inl sz)), (r2, .inl (cI, 25, .inl lf)), (r3, .inl (cI, 25, .inl rt)), (r4, .inl (cI, 25, .inl tr)), (h, .inr (2, [.ref q1, .ref q2, .ref q3, .ref q4, .ref q5, .ref q6, .ref q7, .int (nI mk), .int (nI sv)])), (q1, .inl (cI, n, .inl (fun j => nI (pa j)))), (q2, .inl (cI, n, .inl (fun j => nI (ch j)))), (q3, .inl (cI, n, .inl (fun j => nI (kd j)))), (q4, .inl (cI, n, .inl (fun j => nI (ad j)))), (q5, .inl (cI, n, .inl (fun j => nI (ra j)))), (q6, .inl (cI, n, .inl (fun j => nI (su j)))), (q7, .inl (cI, n, .inl (fun j => nI (un j))))] H := hP
  have hD : va_D A [(oa, .inl (cJ, 1, .inr (.inl (vp_updL ou 0 ((rv).toInt64))))), (x, .inr (3, [.ref tk, .ref mh, .ref sc, .ref ga, .int (nI 1)])), (mh, .inr (0, [.ref kr, .ref h, .ref kq, .ref fq, .ref bq, .ref gq, .int (nI rcv), .int (nI ncl), .int (nI bl), .int (nI rd), .int (nI hd), .int (nI jn), .int (nI sn)])), (kr, .inr (1, [.ref r1, .ref r2, .ref r3, .ref r4])), (r1, .inl (cI, 25, .inl sz)), (r2, .inl (cI, 25, .inl lf)), (r3, .inl (cI, 25, .inl rt)), (r4, .inl (cI, 25, .inl tr)), (h, .inr (2, [.ref q1, .ref q2, .ref q3, .ref q4, .ref q5, .ref q6, .ref q7, .int (nI mk), .int (nI sv)])), (q1, .inl (cI, n, .inl (fun j => nI (pa j)))), (q2, .inl (cI, n, .inl (fun j => nI (ch j)))), (q3, .inl (cI, n, .inl (fun j => nI (kd j)))), (q4, .inl (cI, n, .inl (fun j => nI (ad j)))), (q5, .inl (cI, n, .inl (fun j => nI (ra j)))), (q6, .inl (cI, n, .inl (fun j => nI (su j)))), (q7, .inl (cI, n, .inl (fun j => nI (un j))))] := hD
  refine lv_goto (tgt := 15) hx hb dL_count_9 (by decide) ?_
  refine lv_iconst (v := nI 0) hx hb dL_count_15 (by decide) ?_
  have hP := hP.sub (ws' := [(x, .inr (3, [.ref tk, .ref mh, .ref sc, .ref ga, .int (nI 1)])), (mh, .inr (0, [.ref kr, .ref h, .ref kq, .ref fq, .ref bq, .ref gq, .int (nI rcv), .int (nI ncl), .int (nI bl), .int (nI rd), .int (nI hd), .int (nI jn), .int (nI sn)])), (kr, .inr (1, [.ref r1, .ref r2, .ref r3, .ref r4])), (r1, .inl (cI, 25, .inl sz)), (r2, .inl (cI, 25, .inl lf)), (r3, .inl (cI, 25, .inl rt)), (r4, .inl (cI, 25, .inl tr)), (h, .inr (2, [.ref q1, .ref q2, .ref q3, .ref q4, .ref q5, .ref q6, .ref q7, .int (nI mk), .int (nI sv)])), (q1, .inl (cI, n, .inl (fun j => nI (pa j)))), (q2, .inl (cI, n, .inl (fun j => nI (ch j)))), (q3, .inl (cI, n, .inl (fun j => nI (kd j)))), (q4, .inl (cI, n, .inl (fun j => nI (ad j)))), (q5, .inl (cI, n, .inl (fun j => nI (ra j)))), (q6, .inl (cI, n, .inl (fun j => nI (su j)))), (q7, .inl (cI, n, .inl (fun j => nI (un j)))), (oa, .inl (cJ, 1, .inr (.inl (vp_updL ou 0 ((rv).toInt64)))))]) [1, 2, 3, 4, 5, 6, 7, 8, 9, 10, 11, 12, 13, 14, 15, 0] rfl
  have hD := hD.sub (ws' := [(x, .inr (3, [.ref tk, .ref mh, .ref sc, .ref ga, .int (nI 1)])), (mh, .inr (0, [.ref kr, .ref h, .ref kq, .ref fq, .ref bq, .ref gq, .int (nI rcv), .int (nI ncl), .int (nI bl), .int (nI rd), .int (nI hd), .int (nI jn), .int (nI sn)])), (kr, .inr (1, [.ref r1, .ref r2, .ref r3, .ref r4])), (r1, .inl (cI, 25, .inl sz)), (r2, .inl (cI, 25, .inl lf)), (r3, .inl (cI, 25, .inl rt)), (r4, .inl (cI, 25, .inl tr)), (h, .inr (2, [.ref q1, .ref q2, .ref q3, .ref q4, .ref q5, .ref q6, .ref q7, .int (nI mk), .int (nI sv)])), (q1, .inl (cI, n, .inl (fun j => nI (pa j)))), (q2, .inl (cI, n, .inl (fun j => nI (ch j)))), (q3, .inl (cI, n, .inl (fun j => nI (kd j)))), (q4, .inl (cI, n, .inl (fun j => nI (ad j)))), (q5, .inl (cI, n, .inl (fun j => nI (ra j)))), (q6, .inl (cI, n, .inl (fun j => nI (su j)))), (q7, .inl (cI, n, .inl (fun j => nI (un j)))), (oa, .inl (cJ, 1, .inr (.inl (vp_updL ou 0 ((rv).toInt64)))))]) [1, 2, 3, 4, 5, 6, 7, 8, 9, 10, 11, 12, 13, 14, 15, 0] rfl rfl
  refine W.widen (k := 0) (n := 0) (by first | exact Nat.le_refl _ | omega) (by first | exact Nat.le_refl _ | omega) ?_
  exact k_retI (sz := 0) (v := nI 0) hx hb hr hlocks hAe hS hP hD (rv, ()) (rfl) (⟨rfl, hu⟩) dL_count_16
set_option maxHeartbeats 4000000 in
set_option maxRecDepth 100000 in
theorem c_L_count_tM (l : Launch) (g : va_G) (cI cJ cZ : ClassId) (hst : l.stackTraces = false) (x tk sc ga : Nat) (mh : Nat) (v : Int32) (oa : Nat) (ou : Nat → Int64)  : kIx l g (kty cI cJ cZ) yL_count wsL_count ({ frames := 8, cells := 1, slots := 6, locals := 131 }) [.ref x, .int v, .ref oa] [(x, .inr (3, [.ref tk, .ref mh, .ref sc, .ref ga, .int (nI 0)])), (oa, .inl (cJ, 1, .inr (.inl ou)))] (S := Unit) (fun r _ => r = nI 1) (fun u => [(x, .inr (3, [.ref tk, .ref mh, .ref sc, .ref ga, .int (nI 0)])), (oa, .inl (cJ, 1, .inr (.inl ou)))]) 1 6 := by
  intro sz
  refine va_MetW (cc := cL_count) (maxL := 4) (ret := (some .int)) (by decide) rfl ?_
  intro p e s m args below meth c s₁ B hml hv
  obtain ⟨rfl, ⟨hsz, hP, hk, hD0⟩, hxT, hxZ⟩ := hv
  subst hsz
  have hx := B.exec
  have hb := B.bytes
  have hr := B.returns
  have hts := atoms_spec (ws := wsL_count) B.pre
  have hown : s.vm.findClass RL = some m.cls := findClass_of_methodNamed B.named
  have hlocks := B.notSynchronized
  have hK := hk.1
  obtain ⟨A, hAe⟩ : ∃ A, va_A [(x, .inr (3, [.ref tk, .ref mh, .ref sc, .ref ga, .int (nI 0)])), (oa, .inl (cJ, 1, .inr (.inl ou)))] s.heap.size = A := ⟨_, rfl⟩
  have hD := hD0.self (sz := s.heap.size)
  rw [hAe] at hD hxZ
  have hA : ∀ q : Nat, s.heap.size ≤ q → A q := fun q h => by rw [← hAe]; exact Or.inr h
  have hS : va_S A s.heap s.heap [] := va_S.rf
  have hl := lv_entry ([.ref x, .int v, .ref oa]) (n := 4) (Nat.le_of_ble_eq_true rfl)
  rw [lg_entry_eq]
  generalize (lg_sl ([.ref x, .int v, .ref oa]) ++ List.replicate (4 - (lg_sl ([.ref x, .int v, .ref oa])).length) Slot.unset).toArray = ls at hl ⊢
  have hl : lv_has ls 4 [(0, .ref x), (1, .int v), (2, .ref oa)] := hl
  have htb : c.exceptionTable.toList = _ := vx_table (x := yL_count) B (hts _ List.mem_cons_self)
  refine lv_aload_n hx hb dL_count_0 rfl (lv_at hl 2 rfl) ?_
  refine lv_iconst (v := nI 0) hx hb dL_count_1 (by decide) ?_
  refine lv_aload_n hx hb dL_count_2 rfl (lv_at hl 0 rfl) ?_
  refine lv_iload_n hx hb dL_count_3 rfl (lv_at hl 1 rfl) ?_
  refine k_goT (wr := [(oa, .inl (cJ, 1, .inr (.inl ou)))]) (vx_runV (As := [.int v]) (rest := [.int (nI 0), .ref oa]) ⟨hx, hb, hml, hown, hts⟩ (c_X3_count_tM l g cI cJ cZ hst x tk sc ga mh v   _) (cwV 1 hts gL_count_X3_count rfl rfl rfl (by decide +kernel) ⟨Nat.le_of_ble_eq_true rfl, Nat.le_of_ble_eq_true rfl⟩) (k_preVx hk hxT (hxZ.kept (fun a h1 h2 => hS.2.1 a h1 h2)) hP hD hS hA [0] rfl rfl (ci := 3) (q0 := 0) rfl rfl) rfl rfl hl.1 rfl (lv_room (Nat.le_of_ble_eq_true rfl)) dL_count_4 ⟨Nat.le_of_ble_eq_true rfl, Nat.le_of_ble_eq_true rfl⟩) hP hD hS hA [0] [1] rfl rfl rfl (by decide) (fun ce q9 H locs hP hD hS hkp hce hcv hcl => ?_)
  have hP : va_P g vwCl [(oa, .inl (cJ, 1, .inr (.inl ou))), (x, .inr (3, [.ref tk, .ref mh, .ref sc, .ref ga, .int (nI 0)]))] H := hP
  have hD : va_D A [(oa, .inl (cJ, 1, .inr (.inl ou))), (x, .inr (3, [.ref tk, .ref mh, .ref sc, .ref ga, .int (nI 0)]))] := hD
  refine vx_catch (E := xI) (own := RL) (name := "java/lang/IllegalStateException") hown [] ⟨0, 9, 12, 25⟩ [] htb (fun z hz => by cases hz) (by decide) (by decide) (hts (.classLink RL 25 "java/lang/IllegalStateException") (by decide +kernel)) (va_Nw.use rfl (hxT.2 _ (by decide +kernel))) hce hcv hcl ?_
  refine lv_astore_n (lv' := [(3, .ref q9), (0, .ref x), (1, .int v), (2, .ref oa)]) hx hb dL_count_12 rfl hl (by decide) rfl (fun ls hl => ?_)
  refine lv_iconst (v := nI 1) hx hb dL_count_13 (by decide) ?_
  have hP := hP.sub (ws' := [(x, .inr (3, [.ref tk, .ref mh, .ref sc, .ref ga, .int (nI 0)])), (oa, .inl (cJ, 1, .inr (.inl ou)))]) [1, 0] rfl
  have hD := hD.sub (ws' := [(x, .inr (3, [.ref tk, .ref mh, .ref sc, .ref ga, .int (nI 0)])), (oa, .inl (cJ, 1, .inr (.inl ou)))]) [1, 0] rfl rfl
  refine W.widen (k := 1) (n := 6) (by first | exact Nat.le_refl _ | omega) (by first | exact Nat.le_refl _ | omega) ?_
  exact k_retI (sz := 0) (v := nI 1) hx hb hr hlocks hAe hS hP hD () (rfl) (rfl) dL_count_14
set_option maxHeartbeats 4000000 in
set_option maxRecDepth 100000 in
theorem c_L_room (l : Launch) (g : va_G) (cI cJ cZ : ClassId) (x tk sc ga : Nat) (mh kr kq fq bq gq : Nat) (rcv ncl bl rd hd jn sn : Nat) (fo : Nat → Nat) (bs gs0 : Nat → Nat) (r1 r2 r3 r4 : Nat) (sz lf rt tr : Nat → Int32) (h q1 q2 q3 q4 q5 q6 q7 n : Nat) (pa ch kd ad ra su un : Nat → Nat) (mk sv : Nat) (top : Nat) (S L R : Nat → Nat) (rc : Nat → Bool) (sp : Nat → Bool) (rq nu : Nat → Nat) (w : Nat) (oa : Nat) (ou : Nat → Int64) (hn : n < 2 ^ 25) (hR : RuleOK S L R rc top) (hrl : rOK S L R rc sz lf rt) (hbo : bOK S rc ncl bs) (hI : wI top S L R sp rq nu ([]) n mk sv pa ch kd ad ra su un fo bl rd hd) (hw1 : 1 ≤ w) (hw : w < 2 ^ 31) (hgs0 : gs0 0 = 0) : kI l g (kty cI cJ cZ) yL_room wsL_room ({ frames := 4, cells := 0, slots := 0, locals := 132 }) [.ref x, .int (nI w), .ref oa] [(x, .inr (3, [.ref tk, .ref mh, .ref sc, .ref ga, .int (nI 1)])), (mh, .inr (0, [.ref kr, .ref h, .ref kq, .ref fq, .ref bq, .ref gq, .int (nI rcv), .int (nI ncl), .int (nI bl), .int (nI rd), .int (nI hd), .int (nI jn), .int (nI sn)])), (bq, .inl (cI, 24, .inl (fun j => nI (bs j)))), (gq, .inl (cI, 25, .inl (fun j => nI (gs0 j)))), (kr, .inr (1, [.ref r1, .ref r2, .ref r3, .ref r4])), (r1, .inl (cI, 25, .inl sz)), (r2, .inl (cI, 25, .inl lf)), (r3, .inl (cI, 25, .inl rt)), (r4, .inl (cI, 25, .inl tr)), (h, .inr (2, [.ref q1, .ref q2, .ref q3, .ref q4, .ref q5, .ref q6, .ref q7, .int (nI mk), .int (nI sv)])), (q1, .inl (cI, n, .inl (fun j => nI (pa j)))), (q2, .inl (cI, n, .inl (fun j => nI (ch j)))), (q3, .inl (cI, n, .inl (fun j => nI (kd j)))), (q4, .inl (cI, n, .inl (fun j => nI (ad j)))), (q5, .inl (cI, n, .inl (fun j => nI (ra j)))), (q6, .inl (cI, n, .inl (fun j => nI (su j)))), (q7, .inl (cI, n, .inl (fun j => nI (un j)))), (oa, .inl (cJ, 1, .inr (.inl ou)))] (S := Int32 × (Nat → Nat)) (fun r u => r = nI 0 ∧ (fun r u => r = nI (rT S L R (cls top L R) sp rq w 1) ∧ u 0 = 0) u.1 u.2) (fun u => [(x, .inr (3, [.ref tk, .ref mh, .ref sc, .ref ga, .int (nI 1)])), (mh, .inr (0, [.ref kr, .ref h, .ref kq, .ref fq, .ref bq, .ref gq, .int (nI rcv), .int (nI ncl), .int (nI bl), .int (nI rd), .int (nI hd), .int (nI jn), .int (nI sn)])), (bq, .inl (cI, 24, .inl (fun j => nI (bs j)))), (gq, .inl (cI, 25, .inl (fun j => nI (u.2 j)))), (kr, .inr (1, [.ref r1, .ref r2, .ref r3, .ref r4])), (r1, .inl (cI, 25, .inl sz)), (r2, .inl (cI, 25, .inl lf)), (r3, .inl (cI, 25, .inl rt)), (r4, .inl (cI, 25, .inl tr)), (h, .inr (2, [.ref q1, .ref q2, .ref q3, .ref q4, .ref q5, .ref q6, .ref q7, .int (nI mk), .int (nI sv)])), (q1, .inl (cI, n, .inl (fun j => nI (pa j)))), (q2, .inl (cI, n, .inl (fun j => nI (ch j)))), (q3, .inl (cI, n, .inl (fun j => nI (kd j)))), (q4, .inl (cI, n, .inl (fun j => nI (ad j)))), (q5, .inl (cI, n, .inl (fun j => nI (ra j)))), (q6, .inl (cI, n, .inl (fun j => nI (su j)))), (q7, .inl (cI, n, .inl (fun j => nI (un j)))), (oa, .inl (cJ, 1, .inr (.inl (vp_updL ou 0 (u.1).toInt64))))]) 0 0 := by
  intro sz
  refine va_MetW (cc := cL_room) (maxL := 4) (ret := (some .int)) (by decide) rfl ?_
  intro p e s m args below meth c s₁ B hml hv
  obtain ⟨rfl, hsz, hP, hk, hD0⟩ := hv
  subst hsz
  have hx := B.exec
  have hb := B.bytes
  have hr := B.returns
  have hts := atoms_spec (ws := wsL_room) B.pre
  have hown : s.vm.findClass RL = some m.cls := findClass_of_methodNamed B.named
  have hlocks := B.notSynchronized
  have hK := hk.1
  obtain ⟨A, hAe⟩ : ∃ A, va_A [(x, .inr (3, [.ref tk, .ref mh, .ref sc, .ref ga, .int (nI 1)])), (mh, .inr (0, [.ref kr, .ref h, .ref kq, .ref fq, .ref bq, .ref gq, .int (nI rcv), .int (nI ncl), .int (nI bl), .int (nI rd), .int (nI hd), .int (nI jn), .int (nI sn)])), (bq, .inl (cI, 24, .inl (fun j => nI (bs j)))), (gq, .inl (cI, 25, .inl (fun j => nI (gs0 j)))), (kr, .inr (1, [.ref r1, .ref r2, .ref r3, .ref r4])), (r1, .inl (cI, 25, .inl sz)), (r2, .inl (cI, 25, .inl lf)), (r3, .inl (cI, 25, .inl rt)), (r4, .inl (cI, 25, .inl tr)), (h, .inr (2, [.ref q1, .ref q2, .ref q3, .ref q4, .ref q5, .ref q6, .ref q7, .int (nI mk), .int (nI sv)])), (q1, .inl (cI, n, .inl (fun j => nI (pa j)))), (q2, .inl (cI, n, .inl (fun j => nI (ch j)))), (q3, .inl (cI, n, .inl (fun j => nI (kd j)))), (q4, .inl (cI, n, .inl (fun j => nI (ad j)))), (q5, .inl (cI, n, .inl (fun j => nI (ra j)))), (q6, .inl (cI, n, .inl (fun j => nI (su j)))), (q7, .inl (cI, n, .inl (fun j => nI (un j)))), (oa, .inl (cJ, 1, .inr (.inl ou)))] s.heap.size = A := ⟨_, rfl⟩
  have hD := hD0.self (sz := s.heap.size)
  rw [hAe] at hD
  have hA : ∀ q : Nat, s.heap.size ≤ q → A q := fun q h => by rw [← hAe]; exact Or.inr h
  have hS : va_S A s.heap s.heap [] := va_S.rf
  have hl := lv_entry ([.ref x, .int (nI w), .ref oa]) (n := 4) (Nat.le_of_ble_eq_true rfl)
  rw [lg_entry_eq]
  generalize (lg_sl ([.ref x, .int (nI w), .ref oa]) ++ List.replicate (4 - (lg_sl ([.ref x, .int (nI w), .ref oa])).length) Slot.unset).toArray = ls at hl ⊢
  have hl : lv_has ls 4 [(0, .ref x), (1, .int (nI w)), (2, .ref oa)] := hl
  have htb : c.exceptionTable.toList = _ := vx_table (x := yL_room) B (hts _ List.mem_cons_self)
  refine lv_aload_n hx hb dL_room_0 rfl (lv_at hl 2 rfl) ?_
  refine lv_iconst (v := nI 0) hx hb dL_room_1 (by decide) ?_
  refine lv_aload_n hx hb dL_room_2 rfl (lv_at hl 0 rfl) ?_
  refine lv_iload_n hx hb dL_room_3 rfl (lv_at hl 1 rfl) ?_
  refine k_goI (wr := [(oa, .inl (cJ, 1, .inr (.inl ou)))]) (va_runV (As := [.int (nI w)]) (rest := [.int (nI 0), .ref oa]) ⟨hx, hb, hml, hown, hts⟩ (c_X3_room l g cI cJ cZ x tk sc ga mh kr kq fq bq gq rcv ncl bl rd hd jn sn fo bs gs0 r1 r2 r3 r4 sz lf rt tr h q1 q2 q3 q4 q5 q6 q7 n pa ch kd ad ra su un mk sv top S L R rc sp rq nu w  hn hR hrl hbo hI hw1 hw hgs0 _) (cwV 1 hts gL_room_X3_room rfl rfl rfl (by decide +kernel) ⟨Nat.le_of_ble_eq_true rfl, Nat.le_of_ble_eq_true rfl⟩) (k_preV hk hP hD [0, 1, 2, 3, 4, 5, 6, 7, 8, 9, 10, 11, 12, 13, 14, 15, 16] rfl rfl (ci := 3) (q0 := 0) rfl rfl) rfl rfl hl.1 rfl (lv_room (Nat.le_of_ble_eq_true rfl)) dL_room_4 ⟨by first | exact Nat.zero_le _ | omega, by first | exact Nat.zero_le _ | omega⟩) hP hD hS hA [0, 1, 2, 3, 4, 5, 6, 7, 8, 9, 10, 11, 12, 13, 14, 15, 16] [17] rfl rfl rfl (by decide) (fun rv u H locs hu hP hD hS => ?_)
  have hP : va_P g vwCl [(oa, .inl (cJ, 1, .inr (.inl ou))), (x, .inr (3, [.ref tk, .ref mh, .ref sc, .ref ga, .int (nI 1)])), (mh, .inr (0, [.ref kr, .ref h, .ref kq, .ref fq, .ref bq, .ref gq, .int (nI rcv), .int (nI ncl), .int (nI bl), .int (nI rd), .int (nI hd), .int (nI jn), .int (nI sn)])), (bq, .inl (cI, 24, .inl (fun j => nI (bs j)))), (gq, .inl (cI, 25, .inl (fun j => nI (u j)))), (kr, .inr (1, [.ref r1, .ref r2, .ref r3, .ref r4])), (r1, .inl (cI, 25, .inl sz)), (r2, .inl (cI, 25, .inl lf)), (r3, .inl (cI, 25, .inl rt)), (r4, .inl (cI, 25, .inl tr)), (h, .inr (2, [.ref q1, .ref q2, .ref q3, .ref q4, .ref q5, .ref q6, .ref q7, .int (nI mk), .int (nI sv)])), (q1, .inl (cI, n, .inl (fun j => nI (pa j)))), (q2, .inl (cI, n, .inl (fun j => nI (ch j)))), (q3, .inl (cI, n, .inl (fun j => nI (kd j)))), (q4, .inl (cI, n, .inl (fun j => nI (ad j)))), (q5, .inl (cI, n, .inl (fun j => nI (ra j)))), (q6, .inl (cI, n, .inl (fun j => nI (su j)))), (q7, .inl (cI, n, .inl (fun j => nI (un j))))] H := hP
  have hD : va_D A [(oa, .inl (cJ, 1, .inr (.inl ou))), (x, .inr (3, [.ref tk, .ref mh, .ref sc, .ref ga, .int (nI 1)])), (mh, .inr (0, [.ref kr, .ref h, .ref kq, .ref fq, .ref bq, .ref gq, .int (nI rcv), .int (nI ncl), .int (nI bl), .int (nI rd), .int (nI hd), .int (nI jn), .int (nI sn)])), (bq, .inl (cI, 24, .inl (fun j => nI (bs j)))), (gq, .inl (cI, 25, .inl (fun j => nI (u j)))), (kr, .inr (1, [.ref r1, .ref r2, .ref r3, .ref r4])), (r1, .inl (cI, 25, .inl sz)), (r2, .inl (cI, 25, .inl lf)), (r3, .inl (cI, 25, .inl rt)), (r4, .inl (cI, 25, .inl tr)), (h, .inr (2, [.ref q1, .ref q2, .ref q3, .ref q4, .ref q5, .ref q6, .ref q7, .int (nI mk), .int (nI sv)])), (q1, .inl (cI, n, .inl (fun j => nI (pa j)))), (q2, .inl (cI, n, .inl (fun j => nI (ch j)))), (q3, .inl (cI, n, .inl (fun j => nI (kd j)))), (q4, .inl (cI, n, .inl (fun j => nI (ad j)))), (q5, .inl (cI, n, .inl (fun j => nI (ra j)))), (q6, .inl (cI, n, .inl (fun j => nI (su j)))), (q7, .inl (cI, n, .inl (fun j => nI (un j))))] := hD
  refine lv_i2l hx hb dL_room_7 rfl ?_
  refine n_last hx hb hK hP hD hS 0 1 rfl rfl (i := 0) (v := ((rv).toInt64)) (by decide) (by decide) dL_room_8 (fun H locs hP hD hS => ?_)
  have hP : va_P g vwCl [(oa, .inl (cJ, 1, .inr (.inl (vp_updL ou 0 ((rv).toInt64))))), (x, .inr (3, [.ref tk, .ref mh, .ref sc, .ref ga, .int (nI 1)])), (mh, .inr (0, [.ref kr, .ref h, .ref kq, .ref fq, .ref bq, .ref gq, .int (nI rcv), .int (nI ncl), .int (nI bl), .int (nI rd), .int (nI hd), .int (nI jn), .int (nI sn)])), (bq, .inl (cI, 24, .inl (fun j => nI (bs j)))), (gq, .inl (cI, 25, .inl (fun j => nI (u j)))), (kr, .inr (1, [.ref r1, .ref r2, .ref r3, .ref r4])), (r1, .inl (cI, 25, .inl sz)), (r2, .inl (cI, 25, .inl lf)), (r3, .inl (cI, 25, .inl rt)), (r4, .inl (cI, 25, .inl tr)), (h, .inr (2, [.ref q1, .ref q2, .ref q3, .ref q4, .ref q5, .ref q6, .ref q7, .int (nI mk), .int (nI sv)])), (q1, .inl (cI, n, .inl (fun j => nI (pa j)))), (q2, .inl (cI, n, .inl (fun j => nI (ch j)))), (q3, .inl (cI, n, .inl (fun j => nI (kd j)))), (q4, .inl (cI, n, .inl (fun j => nI (ad j)))), (q5, .inl (cI, n, .inl (fun j => nI (ra j)))), (q6, .inl (cI, n, .inl (fun j => nI (su j)))), (q7, .inl (cI, n, .inl (fun j => nI (un j))))] H := hP
  have hD : va_D A [(oa, .inl (cJ, 1, .inr (.inl (vp_updL ou 0 ((rv).toInt64))))), (x, .inr (3, [.ref tk, .ref mh, .ref sc, .ref ga, .int (nI 1)])), (mh, .inr (0, [.ref kr, .ref h, .ref kq, .ref fq, .ref bq, .ref gq, .int (nI rcv), .int (nI ncl), .int (nI bl), .int (nI rd), .int (nI hd), .int (nI jn), .int (nI sn)])), (bq, .inl (cI, 24, .inl (fun j => nI (bs j)))), (gq, .inl (cI, 25, .inl (fun j => nI (u j)))), (kr, .inr (1, [.ref r1, .ref r2, .ref r3, .ref r4])), (r1, .inl (cI, 25, .inl sz)), (r2, .inl (cI, 25, .inl lf)), (r3, .inl (cI, 25, .inl rt)), (r4, .inl (cI, 25, .inl tr)), (h, .inr (2, [.ref q1, .ref q2, .ref q3, .ref q4, .ref q5, .ref q6, .ref q7, .int (nI mk), .int (nI sv)])), (q1, .inl (cI, n, .inl (fun j => nI (pa j)))), (q2, .inl (cI, n, .inl (fun j => nI (ch j)))), (q3, .inl (cI, n, .inl (fun j => nI (kd j)))), (q4, .inl (cI, n, .inl (fun j => nI (ad j)))), (q5, .inl (cI, n, .inl (fun j => nI (ra j)))), (q6, .inl (cI, n, .inl (fun j => nI (su j)))), (q7, .inl (cI, n, .inl (fun j => nI (un j))))] := hD
  refine lv_goto (tgt := 18) hx hb dL_room_9 (by decide) ?_
  refine lv_iconst (v := nI 0) hx hb dL_room_18 (by decide) ?_
  have hP := hP.sub (ws' := [(x, .inr (3, [.ref tk, .ref mh, .ref sc, .ref ga, .int (nI 1)])), (mh, .inr (0, [.ref kr, .ref h, .ref kq, .ref fq, .ref bq, .ref gq, .int (nI rcv), .int (nI ncl), .int (nI bl), .int (nI rd), .int (nI hd), .int (nI jn), .int (nI sn)])), (bq, .inl (cI, 24, .inl (fun j => nI (bs j)))), (gq, .inl (cI, 25, .inl (fun j => nI (u j)))), (kr, .inr (1, [.ref r1, .ref r2, .ref r3, .ref r4])), (r1, .inl (cI, 25, .inl sz)), (r2, .inl (cI, 25, .inl lf)), (r3, .inl (cI, 25, .inl rt)), (r4, .inl (cI, 25, .inl tr)), (h, .inr (2, [.ref q1, .ref q2, .ref q3, .ref q4, .ref q5, .ref q6, .ref q7, .int (nI mk), .int (nI sv)])), (q1, .inl (cI, n, .inl (fun j => nI (pa j)))), (q2, .inl (cI, n, .inl (fun j => nI (ch j)))), (q3, .inl (cI, n, .inl (fun j => nI (kd j)))), (q4, .inl (cI, n, .inl (fun j => nI (ad j)))), (q5, .inl (cI, n, .inl (fun j => nI (ra j)))), (q6, .inl (cI, n, .inl (fun j => nI (su j)))), (q7, .inl (cI, n, .inl (fun j => nI (un j)))), (oa, .inl (cJ, 1, .inr (.inl (vp_updL ou 0 ((rv).toInt64)))))]) [1, 2, 3, 4, 5, 6, 7, 8, 9, 10, 11, 12, 13, 14, 15, 16, 17, 0] rfl
  have hD := hD.sub (ws' := [(x, .inr (3, [.ref tk, .ref mh, .ref sc, .ref ga, .int (nI 1)])), (mh, .inr (0, [.ref kr, .ref h, .ref kq, .ref fq, .ref bq, .ref gq, .int (nI rcv), .int (nI ncl), .int (nI bl), .int (nI rd), .int (nI hd), .int (nI jn), .int (nI sn)])), (bq, .inl (cI, 24, .inl (fun j => nI (bs j)))), (gq, .inl (cI, 25, .inl (fun j => nI (u j)))), (kr, .inr (1, [.ref r1, .ref r2, .ref r3, .ref r4])), (r1, .inl (cI, 25, .inl sz)), (r2, .inl (cI, 25, .inl lf)), (r3, .inl (cI, 25, .inl rt)), (r4, .inl (cI, 25, .inl tr)), (h, .inr (2, [.ref q1, .ref q2, .ref q3, .ref q4, .ref q5, .ref q6, .ref q7, .int (nI mk), .int (nI sv)])), (q1, .inl (cI, n, .inl (fun j => nI (pa j)))), (q2, .inl (cI, n, .inl (fun j => nI (ch j)))), (q3, .inl (cI, n, .inl (fun j => nI (kd j)))), (q4, .inl (cI, n, .inl (fun j => nI (ad j)))), (q5, .inl (cI, n, .inl (fun j => nI (ra j)))), (q6, .inl (cI, n, .inl (fun j => nI (su j)))), (q7, .inl (cI, n, .inl (fun j => nI (un j)))), (oa, .inl (cJ, 1, .inr (.inl (vp_updL ou 0 ((rv).toInt64)))))]) [1, 2, 3, 4, 5, 6, 7, 8, 9, 10, 11, 12, 13, 14, 15, 16, 17, 0] rfl rfl
  refine W.widen (k := 0) (n := 0) (by first | exact Nat.le_refl _ | omega) (by first | exact Nat.le_refl _ | omega) ?_
  exact k_retI (sz := 0) (v := nI 0) hx hb hr hlocks hAe hS hP hD (rv, u) (rfl) (⟨rfl, hu⟩) dL_room_19
set_option maxHeartbeats 4000000 in
set_option maxRecDepth 100000 in
theorem c_L_room_tM (l : Launch) (g : va_G) (cI cJ cZ : ClassId) (hst : l.stackTraces = false) (x tk sc ga : Nat) (mh : Nat) (v : Int32) (oa : Nat) (ou : Nat → Int64)  : kIx l g (kty cI cJ cZ) yL_room wsL_room ({ frames := 8, cells := 1, slots := 6, locals := 131 }) [.ref x, .int v, .ref oa] [(x, .inr (3, [.ref tk, .ref mh, .ref sc, .ref ga, .int (nI 0)])), (oa, .inl (cJ, 1, .inr (.inl ou)))] (S := Unit) (fun r _ => r = nI 1) (fun u => [(x, .inr (3, [.ref tk, .ref mh, .ref sc, .ref ga, .int (nI 0)])), (oa, .inl (cJ, 1, .inr (.inl ou)))]) 1 6 := by
  intro sz
  refine va_MetW (cc := cL_room) (maxL := 4) (ret := (some .int)) (by decide) rfl ?_
  intro p e s m args below meth c s₁ B hml hv
  obtain ⟨rfl, ⟨hsz, hP, hk, hD0⟩, hxT, hxZ⟩ := hv
  subst hsz
  have hx := B.exec
  have hb := B.bytes
  have hr := B.returns
  have hts := atoms_spec (ws := wsL_room) B.pre
  have hown : s.vm.findClass RL = some m.cls := findClass_of_methodNamed B.named
  have hlocks := B.notSynchronized
  have hK := hk.1
  obtain ⟨A, hAe⟩ : ∃ A, va_A [(x, .inr (3, [.ref tk, .ref mh, .ref sc, .ref ga, .int (nI 0)])), (oa, .inl (cJ, 1, .inr (.inl ou)))] s.heap.size = A := ⟨_, rfl⟩
  have hD := hD0.self (sz := s.heap.size)
  rw [hAe] at hD hxZ
  have hA : ∀ q : Nat, s.heap.size ≤ q → A q := fun q h => by rw [← hAe]; exact Or.inr h
  have hS : va_S A s.heap s.heap [] := va_S.rf
  have hl := lv_entry ([.ref x, .int v, .ref oa]) (n := 4) (Nat.le_of_ble_eq_true rfl)
  rw [lg_entry_eq]
  generalize (lg_sl ([.ref x, .int v, .ref oa]) ++ List.replicate (4 - (lg_sl ([.ref x, .int v, .ref oa])).length) Slot.unset).toArray = ls at hl ⊢
  have hl : lv_has ls 4 [(0, .ref x), (1, .int v), (2, .ref oa)] := hl
  have htb : c.exceptionTable.toList = _ := vx_table (x := yL_room) B (hts _ List.mem_cons_self)
  refine lv_aload_n hx hb dL_room_0 rfl (lv_at hl 2 rfl) ?_
  refine lv_iconst (v := nI 0) hx hb dL_room_1 (by decide) ?_
  refine lv_aload_n hx hb dL_room_2 rfl (lv_at hl 0 rfl) ?_
  refine lv_iload_n hx hb dL_room_3 rfl (lv_at hl 1 rfl) ?_
  refine k_goT (wr := [(oa, .inl (cJ, 1, .inr (.inl ou)))]) (vx_runV (As := [.int v]) (rest := [.int (nI 0), .ref oa]) ⟨hx, hb, hml, hown, hts⟩ (c_X3_room_tM l g cI cJ cZ hst x tk sc ga mh v   _) (cwV 1 hts gL_room_X3_room rfl rfl rfl (by decide +kernel) ⟨Nat.le_of_ble_eq_true rfl, Nat.le_of_ble_eq_true rfl⟩) (k_preVx hk hxT (hxZ.kept (fun a h1 h2 => hS.2.1 a h1 h2)) hP hD hS hA [0] rfl rfl (ci := 3) (q0 := 0) rfl rfl) rfl rfl hl.1 rfl (lv_room (Nat.le_of_ble_eq_true rfl)) dL_room_4 ⟨Nat.le_of_ble_eq_true rfl, Nat.le_of_ble_eq_true rfl⟩) hP hD hS hA [0] [1] rfl rfl rfl (by decide) (fun ce q9 H locs hP hD hS hkp hce hcv hcl => ?_)
  have hP : va_P g vwCl [(oa, .inl (cJ, 1, .inr (.inl ou))), (x, .inr (3, [.ref tk, .ref mh, .ref sc, .ref ga, .int (nI 0)]))] H := hP
  have hD : va_D A [(oa, .inl (cJ, 1, .inr (.inl ou))), (x, .inr (3, [.ref tk, .ref mh, .ref sc, .ref ga, .int (nI 0)]))] := hD
  refine vx_catch (E := xI) (own := RL) (name := "java/lang/IllegalStateException") hown [] ⟨0, 9, 12, 25⟩ [⟨0, 9, 15, 13⟩] htb (fun z hz => by cases hz) (by decide) (by decide) (hts (.classLink RL 25 "java/lang/IllegalStateException") (by decide +kernel)) (va_Nw.use rfl (hxT.2 _ (by decide +kernel))) hce hcv hcl ?_
  refine lv_astore_n (lv' := [(3, .ref q9), (0, .ref x), (1, .int v), (2, .ref oa)]) hx hb dL_room_12 rfl hl (by decide) rfl (fun ls hl => ?_)
  refine lv_iconst (v := nI 1) hx hb dL_room_13 (by decide) ?_
  have hP := hP.sub (ws' := [(x, .inr (3, [.ref tk, .ref mh, .ref sc, .ref ga, .int (nI 0)])), (oa, .inl (cJ, 1, .inr (.inl ou)))]) [1, 0] rfl
  have hD := hD.sub (ws' := [(x, .inr (3, [.ref tk, .ref mh, .ref sc, .ref ga, .int (nI 0)])), (oa, .inl (cJ, 1, .inr (.inl ou)))]) [1, 0] rfl rfl
  refine W.widen (k := 1) (n := 6) (by first | exact Nat.le_refl _ | omega) (by first | exact Nat.le_refl _ | omega) ?_
  exact k_retI (sz := 0) (v := nI 1) hx hb hr hlocks hAe hS hP hD () (rfl) (rfl) dL_room_14
set_option maxHeartbeats 4000000 in
set_option maxRecDepth 100000 in
theorem c_L_room_tA (l : Launch) (g : va_G) (cI cJ cZ : ClassId) (hst : l.stackTraces = false) (x tk sc ga : Nat) (mh : Nat) (v : Int32) (oa : Nat) (ou : Nat → Int64) (hv : ¬ nI 1 ≤ v) : kIc l g (kty cI cJ cZ) yL_room wsL_room ({ frames := 8, cells := 1, slots := 6, locals := 131 }) [.ref x, .int v, .ref oa] [(x, .inr (3, [.ref tk, .ref mh, .ref sc, .ref ga, .int (nI 1)])), (oa, .inl (cJ, 1, .inr (.inl ou)))] (S := Unit) (fun r _ => r = nI 2) (fun u => [(x, .inr (3, [.ref tk, .ref mh, .ref sc, .ref ga, .int (nI 1)])), (oa, .inl (cJ, 1, .inr (.inl ou)))]) 1 6 := by
  intro sz
  refine va_MetW (cc := cL_room) (maxL := 4) (ret := (some .int)) (by decide) rfl ?_
  intro p e s m args below meth c s₁ B hml hv
  obtain ⟨rfl, ⟨hsz, hP, hk, hD0⟩, hxT, hxZ, hxC⟩ := hv
  subst hsz
  have hx := B.exec
  have hb := B.bytes
  have hr := B.returns
  have hts := atoms_spec (ws := wsL_room) B.pre
  have hown : s.vm.findClass RL = some m.cls := findClass_of_methodNamed B.named
  have hlocks := B.notSynchronized
  have hK := hk.1
  obtain ⟨A, hAe⟩ : ∃ A, va_A [(x, .inr (3, [.ref tk, .ref mh, .ref sc, .ref ga, .int (nI 1)])), (oa, .inl (cJ, 1, .inr (.inl ou)))] s.heap.size = A := ⟨_, rfl⟩
  have hD := hD0.self (sz := s.heap.size)
  rw [hAe] at hD hxZ
  have hA : ∀ q : Nat, s.heap.size ≤ q → A q := fun q h => by rw [← hAe]; exact Or.inr h
  have hS : va_S A s.heap s.heap [] := va_S.rf
  have hl := lv_entry ([.ref x, .int v, .ref oa]) (n := 4) (Nat.le_of_ble_eq_true rfl)
  rw [lg_entry_eq]
  generalize (lg_sl ([.ref x, .int v, .ref oa]) ++ List.replicate (4 - (lg_sl ([.ref x, .int v, .ref oa])).length) Slot.unset).toArray = ls at hl ⊢
  have hl : lv_has ls 4 [(0, .ref x), (1, .int v), (2, .ref oa)] := hl
  have htb : c.exceptionTable.toList = _ := vx_table (x := yL_room) B (hts _ List.mem_cons_self)
  refine lv_aload_n hx hb dL_room_0 rfl (lv_at hl 2 rfl) ?_
  refine lv_iconst (v := nI 0) hx hb dL_room_1 (by decide) ?_
  refine lv_aload_n hx hb dL_room_2 rfl (lv_at hl 0 rfl) ?_
  refine lv_iload_n hx hb dL_room_3 rfl (lv_at hl 1 rfl) ?_
  refine k_goT (wr := [(oa, .inl (cJ, 1, .inr (.inl ou)))]) (vx_runV (As := [.int v]) (rest := [.int (nI 0), .ref oa]) ⟨hx, hb, hml, hown, hts⟩ (c_X3_room_tA l g cI cJ cZ hst x tk sc ga mh v  hv _) (cwV 1 hts gL_room_X3_room rfl rfl rfl (by decide +kernel) ⟨Nat.le_of_ble_eq_true rfl, Nat.le_of_ble_eq_true rfl⟩) (k_preVx hk hxT (hxZ.kept (fun a h1 h2 => hS.2.1 a h1 h2)) hP hD hS hA [0] rfl rfl (ci := 3) (q0 := 0) rfl rfl) rfl rfl hl.1 rfl (lv_room (Nat.le_of_ble_eq_true rfl)) dL_room_4 ⟨Nat.le_of_ble_eq_true rfl, Nat.le_of_ble_eq_true rfl⟩) hP hD hS hA [0] [1] rfl rfl rfl (by decide) (fun ce q9 H locs hP hD hS hkp hce hcv hcl => ?_)
  have hP : va_P g vwCl [(oa, .inl (cJ, 1, .inr (.inl ou))), (x, .inr (3, [.ref tk, .ref mh, .ref sc, .ref ga, .int (nI 1)]))] H := hP
  have hD : va_D A [(oa, .inl (cJ, 1, .inr (.inl ou))), (x, .inr (3, [.ref tk, .ref mh, .ref sc, .ref ga, .int (nI 1)]))] := hD
  refine vx_catch (E := xA) (own := RL) (name := "java/lang/IllegalArgumentException") hown [⟨0, 9, 12, 25⟩] ⟨0, 9, 15, 13⟩ [] htb (fun z hz => by rw [List.mem_singleton.mp hz]; exact Or.inr ⟨by decide, _, hts (.classLink RL 25 "java/lang/IllegalStateException") (by decide +kernel), hxC⟩) (by decide) (by decide) (hts (.classLink RL 13 "java/lang/IllegalArgumentException") (by decide +kernel)) (va_Nw.use rfl (hxT.2 _ (by decide +kernel))) hce hcv hcl ?_
  refine lv_astore_n (lv' := [(3, .ref q9), (0, .ref x), (1, .int v), (2, .ref oa)]) hx hb dL_room_15 rfl hl (by decide) rfl (fun ls hl => ?_)
  refine lv_iconst (v := nI 2) hx hb dL_room_16 (by decide) ?_
  have hP := hP.sub (ws' := [(x, .inr (3, [.ref tk, .ref mh, .ref sc, .ref ga, .int (nI 1)])), (oa, .inl (cJ, 1, .inr (.inl ou)))]) [1, 0] rfl
  have hD := hD.sub (ws' := [(x, .inr (3, [.ref tk, .ref mh, .ref sc, .ref ga, .int (nI 1)])), (oa, .inl (cJ, 1, .inr (.inl ou)))]) [1, 0] rfl rfl
  refine W.widen (k := 1) (n := 6) (by first | exact Nat.le_refl _ | omega) (by first | exact Nat.le_refl _ | omega) ?_
  exact k_retI (sz := 0) (v := nI 2) hx hb hr hlocks hAe hS hP hD () (rfl) (rfl) dL_room_17
set_option maxHeartbeats 4000000 in
set_option maxRecDepth 100000 in
theorem c_L_load (l : Launch) (g : va_G) (cI cJ cZ : ClassId) (x tk sc ga : Nat) (mh bu : Nat) (scr : Nat → Int32) (i : Nat) (v : Int32) (hi : i < 256) : kI l g (kty cI cJ cZ) yL_load wsL_load ({ frames := 1, cells := 0, slots := 0, locals := 22 }) [.ref x, .int (nI i), .int v] [(x, .inr (3, [.ref tk, .ref mh, .ref sc, .ref ga, .int (nI bu)])), (sc, .inl (cI, 256, .inl scr))] (S := Unit) (fun r u => r = nI 0 ∧ (fun _ => True) u) (fun u => [(x, .inr (3, [.ref tk, .ref mh, .ref sc, .ref ga, .int (nI bu)])), (sc, .inl (cI, 256, .inl (upd scr i v)))]) 0 0 := by
  intro sz
  refine va_MetW (cc := cL_load) (maxL := 4) (ret := (some .int)) (by decide) rfl ?_
  intro p e s m args below meth c s₁ B hml hv
  obtain ⟨rfl, hsz, hP, hk, hD0⟩ := hv
  subst hsz
  have hx := B.exec
  have hb := B.bytes
  have hr := B.returns
  have hts := atoms_spec (ws := wsL_load) B.pre
  have hown : s.vm.findClass RL = some m.cls := findClass_of_methodNamed B.named
  have hlocks := B.notSynchronized
  have hK := hk.1
  obtain ⟨A, hAe⟩ : ∃ A, va_A [(x, .inr (3, [.ref tk, .ref mh, .ref sc, .ref ga, .int (nI bu)])), (sc, .inl (cI, 256, .inl scr))] s.heap.size = A := ⟨_, rfl⟩
  have hD := hD0.self (sz := s.heap.size)
  rw [hAe] at hD
  have hA : ∀ q : Nat, s.heap.size ≤ q → A q := fun q h => by rw [← hAe]; exact Or.inr h
  have hS : va_S A s.heap s.heap [] := va_S.rf
  have hl := lv_entry ([.ref x, .int (nI i), .int v]) (n := 4) (Nat.le_of_ble_eq_true rfl)
  rw [lg_entry_eq]
  generalize (lg_sl ([.ref x, .int (nI i), .int v]) ++ List.replicate (4 - (lg_sl ([.ref x, .int (nI i), .int v])).length) Slot.unset).toArray = ls at hl ⊢
  have hl : lv_has ls 4 [(0, .ref x), (1, .int (nI i)), (2, .int v)] := hl
  have htb : c.exceptionTable.toList = _ := vx_table (x := yL_load) B (hts _ List.mem_cons_self)
  refine lv_aload_n hx hb dL_load_0 rfl (lv_at hl 0 rfl) ?_
  refine lv_iload_n hx hb dL_load_1 rfl (lv_at hl 1 rfl) ?_
  refine lv_iload_n hx hb dL_load_2 rfl (lv_at hl 2 rfl) ?_
  refine k_goV (wr := []) (va_runV (As := [.int (nI i), .int v]) (rest := []) ⟨hx, hb, hml, hown, hts⟩ (c_X3_load l g cI cJ cZ x tk sc ga mh bu scr i v  hi _) (cwV 2 hts gL_load_X3_load rfl rfl rfl (by decide +kernel) ⟨Nat.le_of_ble_eq_true rfl, Nat.le_of_ble_eq_true rfl⟩) (k_preV hk hP hD [0, 1] rfl rfl (ci := 3) (q0 := 0) rfl rfl) rfl rfl hl.1 rfl (lv_room (Nat.le_of_ble_eq_true rfl)) dL_load_3 ⟨by first | exact Nat.zero_le _ | omega, by first | exact Nat.zero_le _ | omega⟩) hP hD hS hA [0, 1] [] rfl rfl rfl (by decide) (fun _ H locs hu hP hD hS => ?_)
  have hP : va_P g vwCl [(x, .inr (3, [.ref tk, .ref mh, .ref sc, .ref ga, .int (nI bu)])), (sc, .inl (cI, 256, .inl (upd scr i v)))] H := hP
  have hD : va_D A [(x, .inr (3, [.ref tk, .ref mh, .ref sc, .ref ga, .int (nI bu)])), (sc, .inl (cI, 256, .inl (upd scr i v)))] := hD
  refine lv_goto (tgt := 12) hx hb dL_load_6 (by decide) ?_
  refine lv_iconst (v := nI 0) hx hb dL_load_12 (by decide) ?_
  refine W.widen (k := 0) (n := 0) (by first | exact Nat.le_refl _ | omega) (by first | exact Nat.le_refl _ | omega) ?_
  exact k_retI (sz := 0) (v := nI 0) hx hb hr hlocks hAe hS hP hD () (rfl) (⟨rfl, hu⟩) dL_load_13
set_option maxHeartbeats 4000000 in
set_option maxRecDepth 100000 in
theorem c_L_load_tA (l : Launch) (g : va_G) (cI cJ cZ : ClassId) (hst : l.stackTraces = false) (x tk sc ga : Nat) (mh bu : Nat) (v v2 : Int32) (hv : v < 0 ∨ ¬ v < nI 256) : kIx l g (kty cI cJ cZ) yL_load wsL_load ({ frames := 7, cells := 1, slots := 6, locals := 112 }) [.ref x, .int v, .int v2] [(x, .inr (3, [.ref tk, .ref mh, .ref sc, .ref ga, .int (nI bu)]))] (S := Unit) (fun r _ => r = nI 1) (fun u => [(x, .inr (3, [.ref tk, .ref mh, .ref sc, .ref ga, .int (nI bu)]))]) 1 6 := by
  intro sz
  refine va_MetW (cc := cL_load) (maxL := 4) (ret := (some .int)) (by decide) rfl ?_
  intro p e s m args below meth c s₁ B hml hv
  obtain ⟨rfl, ⟨hsz, hP, hk, hD0⟩, hxT, hxZ⟩ := hv
  subst hsz
  have hx := B.exec
  have hb := B.bytes
  have hr := B.returns
  have hts := atoms_spec (ws := wsL_load) B.pre
  have hown : s.vm.findClass RL = some m.cls := findClass_of_methodNamed B.named
  have hlocks := B.notSynchronized
  have hK := hk.1
  obtain ⟨A, hAe⟩ : ∃ A, va_A [(x, .inr (3, [.ref tk, .ref mh, .ref sc, .ref ga, .int (nI bu)]))] s.heap.size = A := ⟨_, rfl⟩
  have hD := hD0.self (sz := s.heap.size)
  rw [hAe] at hD hxZ
  have hA : ∀ q : Nat, s.heap.size ≤ q → A q := fun q h => by rw [← hAe]; exact Or.inr h
  have hS : va_S A s.heap s.heap [] := va_S.rf
  have hl := lv_entry ([.ref x, .int v, .int v2]) (n := 4) (Nat.le_of_ble_eq_true rfl)
  rw [lg_entry_eq]
  generalize (lg_sl ([.ref x, .int v, .int v2]) ++ List.replicate (4 - (lg_sl ([.ref x, .int v, .int v2])).length) Slot.unset).toArray = ls at hl ⊢
  have hl : lv_has ls 4 [(0, .ref x), (1, .int v), (2, .int v2)] := hl
  have htb : c.exceptionTable.toList = _ := vx_table (x := yL_load) B (hts _ List.mem_cons_self)
  refine lv_aload_n hx hb dL_load_0 rfl (lv_at hl 0 rfl) ?_
  refine lv_iload_n hx hb dL_load_1 rfl (lv_at hl 1 rfl) ?_
  refine lv_iload_n hx hb dL_load_2 rfl (lv_at hl 2 rfl) ?_
  refine k_goT (wr := []) (vx_runV (As := [.int v, .int v2]) (rest := []) ⟨hx, hb, hml, hown, hts⟩ (c_X3_load_tA l g cI cJ cZ hst x tk sc ga mh bu v v2  hv _) (cwV 2 hts gL_load_X3_load rfl rfl rfl (by decide +kernel) ⟨Nat.le_of_ble_eq_true rfl, Nat.le_of_ble_eq_true rfl⟩) (k_preVx hk hxT (hxZ.kept (fun a h1 h2 => hS.2.1 a h1 h2)) hP hD hS hA [0] rfl rfl (ci := 3) (q0 := 0) rfl rfl) rfl rfl hl.1 rfl (lv_room (Nat.le_of_ble_eq_true rfl)) dL_load_3 ⟨Nat.le_of_ble_eq_true rfl, Nat.le_of_ble_eq_true rfl⟩) hP hD hS hA [0] [] rfl rfl rfl (by decide) (fun ce q9 H locs hP hD hS hkp hce hcv hcl => ?_)
  have hP : va_P g vwCl [(x, .inr (3, [.ref tk, .ref mh, .ref sc, .ref ga, .int (nI bu)]))] H := hP
  have hD : va_D A [(x, .inr (3, [.ref tk, .ref mh, .ref sc, .ref ga, .int (nI bu)]))] := hD
  refine vx_catch (E := xA) (own := RL) (name := "java/lang/IllegalArgumentException") hown [] ⟨0, 6, 9, 13⟩ [] htb (fun z hz => by cases hz) (by decide) (by decide) (hts (.classLink RL 13 "java/lang/IllegalArgumentException") (by decide +kernel)) (va_Nw.use rfl (hxT.2 _ (by decide +kernel))) hce hcv hcl ?_
  refine lv_astore_n (lv' := [(3, .ref q9), (0, .ref x), (1, .int v), (2, .int v2)]) hx hb dL_load_9 rfl hl (by decide) rfl (fun ls hl => ?_)
  refine lv_iconst (v := nI 1) hx hb dL_load_10 (by decide) ?_
  have hP := hP.sub (ws' := [(x, .inr (3, [.ref tk, .ref mh, .ref sc, .ref ga, .int (nI bu)]))]) [0] rfl
  have hD := hD.sub (ws' := [(x, .inr (3, [.ref tk, .ref mh, .ref sc, .ref ga, .int (nI bu)]))]) [0] rfl rfl
  refine W.widen (k := 1) (n := 6) (by first | exact Nat.le_refl _ | omega) (by first | exact Nat.le_refl _ | omega) ?_
  exact k_retI (sz := 0) (v := nI 1) hx hb hr hlocks hAe hS hP hD () (rfl) (rfl) dL_load_11
set_option maxHeartbeats 4000000 in
set_option maxRecDepth 100000 in
theorem c_L_replay (l : Launch) (g : va_G) (cI cJ cZ : ClassId) (x tk sc ga : Nat) (mh kr kq fq bq gq : Nat) (rcv ncl bl0 rd0 hd0 jn0 sn0 : Nat) (fo0 : Nat → Nat) (bs kp : Nat → Nat) (r1 r2 r3 r4 : Nat) (sz lf rt tr : Nat → Int32) (h p1 p2 p3 p4 p5 p6 p7 n0 : Nat) (pa0 ch0 kd0 ad0 ra0 su0 un0 : Nat → Nat) (mk0 sv0 : Nat) (top : Nat) (S L R : Nat → Nat) (rc : Nat → Bool) (sp0 : Nat → Bool) (rq0 nu0 : Nat → Nat) (scr : Nat → Int32) (gav0 : Nat → Nat) (gc0 fc0 : Nat) (nn : Nat) (rr : Nat × (Nat → Bool) × (Nat → Nat) × (Nat → Nat) × Nat × Nat × Nat × Nat × Nat × Nat) (oa : Nat) (ou : Nat → Int64) (hn0 : n0 ≤ 4194304 ∧ mk0 ≤ 2097152) (hkp : ∀ j, kp j < 2 ^ 31) (hR : RuleOK S L R rc top) (hrl : rOK S L R rc sz lf rt) (hbo : bOK S rc ncl bs) (hI0 : wI top S L R sp0 rq0 nu0 ([]) n0 mk0 sv0 pa0 ch0 kd0 ad0 ra0 su0 un0 fo0 bl0 rd0 hd0) (hg0 : ∀ j, 256 ≤ j → gav0 j = 0) (hnn : nn ≤ 256) (hZ0 : rpN top S L R kp scr nn 0 (sp0, rq0, (fun _ => 0), jn0, sn0, n0, mk0, gc0, fc0) = rr) : kI l g (kty cI cJ cZ) yL_replay wsL_replay ({ frames := 8, cells := (7 * (rr.2.2.2.2.2.2.1 - n0)), slots := (14 * (rr.2.2.2.2.2.2.1 - n0)), locals := 228 }) [.ref x, .int (nI nn), .ref oa] [(x, .inr (3, [.ref tk, .ref mh, .ref sc, .ref ga, .int (nI 1)])), (mh, .inr (0, [.ref kr, .ref h, .ref kq, .ref fq, .ref bq, .ref gq, .int (nI rcv), .int (nI ncl), .int (nI bl0), .int (nI rd0), .int (nI hd0), .int (nI jn0), .int (nI sn0)])), (fq, .inl (cI, 25, .inl (fun j => nI (fo0 j)))), (bq, .inl (cI, 24, .inl (fun j => nI (bs j)))), (kq, .inl (cI, 25, .inl (fun j => nI (kp j)))), (kr, .inr (1, [.ref r1, .ref r2, .ref r3, .ref r4])), (r1, .inl (cI, 25, .inl sz)), (r2, .inl (cI, 25, .inl lf)), (r3, .inl (cI, 25, .inl rt)), (r4, .inl (cI, 25, .inl tr)), (h, .inr (2, [.ref p1, .ref p2, .ref p3, .ref p4, .ref p5, .ref p6, .ref p7, .int (nI mk0), .int (nI sv0)])), (p1, .inl (cI, n0, .inl (fun j => nI (pa0 j)))), (p2, .inl (cI, n0, .inl (fun j => nI (ch0 j)))), (p3, .inl (cI, n0, .inl (fun j => nI (kd0 j)))), (p4, .inl (cI, n0, .inl (fun j => nI (ad0 j)))), (p5, .inl (cI, n0, .inl (fun j => nI (ra0 j)))), (p6, .inl (cI, n0, .inl (fun j => nI (su0 j)))), (p7, .inl (cI, n0, .inl (fun j => nI (un0 j)))), (sc, .inl (cI, 256, .inl scr)), (ga, .inl (cI, 256, .inl (fun j => nI (gav0 j)))), (oa, .inl (cJ, 1, .inr (.inl ou)))] (S := Int32 × ((Nat → Nat) × (Nat → Nat) × (Nat → Nat) × (Nat → Nat) × (Nat → Nat) × (Nat → Nat) × (Nat → Nat) × (Nat → Nat) × (Nat → Nat) × (Nat → Nat) × (Nat → Nat) × Nat × Nat × Nat × Nat × Nat × Nat)) (fun r u => r = nI 0 ∧ (fun r u => r = nI rr.1 ∧ (∀ j, 256 ≤ j → u.1 j = 0) ∧ wI top S L R (rr.2.1) (rr.2.2.1) (u.2.2.2.2.2.2.2.2.2.2.1) ([]) (rr.2.2.2.2.2.2.1) (rr.2.2.2.2.2.2.2.1) (u.2.2.2.2.2.2.2.2.2.2.2.1) (u.2.2.1) (u.2.2.2.1) (u.2.2.2.2.1) (u.2.2.2.2.2.1) (u.2.2.2.2.2.2.1) (u.2.2.2.2.2.2.2.1) (u.2.2.2.2.2.2.2.2.1) (u.2.2.2.2.2.2.2.2.2.1) (u.2.2.2.2.2.2.2.2.2.2.2.2.1) (u.2.2.2.2.2.2.2.2.2.2.2.2.2.1) (u.2.2.2.2.2.2.2.2.2.2.2.2.2.2.1)) u.1 u.2) (fun u => [(x, .inr (3, [.ref tk, .ref mh, .ref sc, .ref ga, .int (nI 1)])), (mh, .inr (0, [.ref kr, .ref h, .ref kq, .ref fq, .ref bq, .ref gq, .int (nI rcv), .int (nI ncl), .int (nI (u.2.2.2.2.2.2.2.2.2.2.2.2.2.1)), .int (nI (u.2.2.2.2.2.2.2.2.2.2.2.2.2.2.1)), .int (nI (u.2.2.2.2.2.2.2.2.2.2.2.2.2.2.2.1)), .int (nI (rr.2.2.2.2.1)), .int (nI (rr.2.2.2.2.2.1))])), (fq, .inl (cI, 25, .inl (fun j => nI (u.2.2.2.2.2.2.2.2.2.2.1 j)))), (bq, .inl (cI, 24, .inl (fun j => nI (bs j)))), (kq, .inl (cI, 25, .inl (fun j => nI (kp j)))), (kr, .inr (1, [.ref r1, .ref r2, .ref r3, .ref r4])), (r1, .inl (cI, 25, .inl sz)), (r2, .inl (cI, 25, .inl lf)), (r3, .inl (cI, 25, .inl rt)), (r4, .inl (cI, 25, .inl tr)), (h, .inr (2, [.ref (u.2.2.1 1), .ref (u.2.2.1 2), .ref (u.2.2.1 3), .ref (u.2.2.1 4), .ref (u.2.2.1 5), .ref (u.2.2.1 6), .ref (u.2.2.1 7), .int (nI (rr.2.2.2.2.2.2.2.1)), .int (nI (u.2.2.2.2.2.2.2.2.2.2.2.2.1))])), ((u.2.2.1 1), .inl (cI, rr.2.2.2.2.2.2.1, .inl (fun j => nI (u.2.2.2.1 j)))), ((u.2.2.1 2), .inl (cI, rr.2.2.2.2.2.2.1, .inl (fun j => nI (u.2.2.2.2.1 j)))), ((u.2.2.1 3), .inl (cI, rr.2.2.2.2.2.2.1, .inl (fun j => nI (u.2.2.2.2.2.1 j)))), ((u.2.2.1 4), .inl (cI, rr.2.2.2.2.2.2.1, .inl (fun j => nI (u.2.2.2.2.2.2.1 j)))), ((u.2.2.1 5), .inl (cI, rr.2.2.2.2.2.2.1, .inl (fun j => nI (u.2.2.2.2.2.2.2.1 j)))), ((u.2.2.1 6), .inl (cI, rr.2.2.2.2.2.2.1, .inl (fun j => nI (u.2.2.2.2.2.2.2.2.1 j)))), ((u.2.2.1 7), .inl (cI, rr.2.2.2.2.2.2.1, .inl (fun j => nI (u.2.2.2.2.2.2.2.2.2.1 j)))), (sc, .inl (cI, 256, .inl scr)), (ga, .inl (cI, 256, .inl (fun j => nI (u.2.1 j)))), (oa, .inl (cJ, 1, .inr (.inl (vp_updL ou 0 (u.1).toInt64))))]) (7 * (rr.2.2.2.2.2.2.1 - n0)) (14 * (rr.2.2.2.2.2.2.1 - n0)) := by
  intro sz
  refine va_MetW (cc := cL_replay) (maxL := 4) (ret := (some .int)) (by decide) rfl ?_
  intro p e s m args below meth c s₁ B hml hv
  obtain ⟨rfl, hsz, hP, hk, hD0⟩ := hv
  subst hsz
  have hx := B.exec
  have hb := B.bytes
  have hr := B.returns
  have hts := atoms_spec (ws := wsL_replay) B.pre
  have hown : s.vm.findClass RL = some m.cls := findClass_of_methodNamed B.named
  have hlocks := B.notSynchronized
  have hK := hk.1
  obtain ⟨A, hAe⟩ : ∃ A, va_A [(x, .inr (3, [.ref tk, .ref mh, .ref sc, .ref ga, .int (nI 1)])), (mh, .inr (0, [.ref kr, .ref h, .ref kq, .ref fq, .ref bq, .ref gq, .int (nI rcv), .int (nI ncl), .int (nI bl0), .int (nI rd0), .int (nI hd0), .int (nI jn0), .int (nI sn0)])), (fq, .inl (cI, 25, .inl (fun j => nI (fo0 j)))), (bq, .inl (cI, 24, .inl (fun j => nI (bs j)))), (kq, .inl (cI, 25, .inl (fun j => nI (kp j)))), (kr, .inr (1, [.ref r1, .ref r2, .ref r3, .ref r4])), (r1, .inl (cI, 25, .inl sz)), (r2, .inl (cI, 25, .inl lf)), (r3, .inl (cI, 25, .inl rt)), (r4, .inl (cI, 25, .inl tr)), (h, .inr (2, [.ref p1, .ref p2, .ref p3, .ref p4, .ref p5, .ref p6, .ref p7, .int (nI mk0), .int (nI sv0)])), (p1, .inl (cI, n0, .inl (fun j => nI (pa0 j)))), (p2, .inl (cI, n0, .inl (fun j => nI (ch0 j)))), (p3, .inl (cI, n0, .inl (fun j => nI (kd0 j)))), (p4, .inl (cI, n0, .inl (fun j => nI (ad0 j)))), (p5, .inl (cI, n0, .inl (fun j => nI (ra0 j)))), (p6, .inl (cI, n0, .inl (fun j => nI (su0 j)))), (p7, .inl (cI, n0, .inl (fun j => nI (un0 j)))), (sc, .inl (cI, 256, .inl scr)), (ga, .inl (cI, 256, .inl (fun j => nI (gav0 j)))), (oa, .inl (cJ, 1, .inr (.inl ou)))] s.heap.size = A := ⟨_, rfl⟩
  have hD := hD0.self (sz := s.heap.size)
  rw [hAe] at hD
  have hA : ∀ q : Nat, s.heap.size ≤ q → A q := fun q h => by rw [← hAe]; exact Or.inr h
  have hS : va_S A s.heap s.heap [] := va_S.rf
  have hl := lv_entry ([.ref x, .int (nI nn), .ref oa]) (n := 4) (Nat.le_of_ble_eq_true rfl)
  rw [lg_entry_eq]
  generalize (lg_sl ([.ref x, .int (nI nn), .ref oa]) ++ List.replicate (4 - (lg_sl ([.ref x, .int (nI nn), .ref oa])).length) Slot.unset).toArray = ls at hl ⊢
  have hl : lv_has ls 4 [(0, .ref x), (1, .int (nI nn)), (2, .ref oa)] := hl
  have htb : c.exceptionTable.toList = _ := vx_table (x := yL_replay) B (hts _ List.mem_cons_self)
  refine lv_aload_n hx hb dL_replay_0 rfl (lv_at hl 2 rfl) ?_
  refine lv_iconst (v := nI 0) hx hb dL_replay_1 (by decide) ?_
  refine lv_aload_n hx hb dL_replay_2 rfl (lv_at hl 0 rfl) ?_
  refine lv_iload_n hx hb dL_replay_3 rfl (lv_at hl 1 rfl) ?_
  refine k_goI (wr := [(oa, .inl (cJ, 1, .inr (.inl ou)))]) (va_runV (As := [.int (nI nn)]) (rest := [.int (nI 0), .ref oa]) ⟨hx, hb, hml, hown, hts⟩ (c_X3_replay l g cI cJ cZ x tk sc ga mh kr kq fq bq gq rcv ncl bl0 rd0 hd0 jn0 sn0 fo0 bs kp r1 r2 r3 r4 sz lf rt tr h p1 p2 p3 p4 p5 p6 p7 n0 pa0 ch0 kd0 ad0 ra0 su0 un0 mk0 sv0 top S L R rc sp0 rq0 nu0 scr gav0 gc0 fc0 nn rr  hn0 hkp hR hrl hbo hI0 hg0 hnn hZ0 _) (cwV 1 hts gL_replay_X3_replay rfl rfl rfl (by decide +kernel) ⟨Nat.le_of_ble_eq_true rfl, Nat.le_of_ble_eq_true rfl⟩) (k_preV hk hP hD [0, 1, 2, 3, 4, 5, 6, 7, 8, 9, 10, 11, 12, 13, 14, 15, 16, 17, 18, 19] rfl rfl (ci := 3) (q0 := 0) rfl rfl) rfl rfl hl.1 rfl (lv_room (Nat.le_of_ble_eq_true rfl)) dL_replay_4 ⟨by show 0 + (7 * (rr.2.2.2.2.2.2.1 - n0)) ≤ (7 * (rr.2.2.2.2.2.2.1 - n0)); omega, by show 0 + (14 * (rr.2.2.2.2.2.2.1 - n0)) ≤ (14 * (rr.2.2.2.2.2.2.1 - n0)); omega⟩) hP hD hS hA [0, 1, 2, 3, 4, 5, 6, 7, 8, 9, 10, 11, 12, 13, 14, 15, 16, 17, 18, 19] [20] rfl rfl rfl (by decide) (fun rv u H locs hu hP hD hS => ?_)
  have hP : va_P g vwCl [(oa, .inl (cJ, 1, .inr (.inl ou))), (x, .inr (3, [.ref tk, .ref mh, .ref sc, .ref ga, .int (nI 1)])), (mh, .inr (0, [.ref kr, .ref h, .ref kq, .ref fq, .ref bq, .ref gq, .int (nI rcv), .int (nI ncl), .int (nI (u.2.2.2.2.2.2.2.2.2.2.2.2.1)), .int (nI (u.2.2.2.2.2.2.2.2.2.2.2.2.2.1)), .int (nI (u.2.2.2.2.2.2.2.2.2.2.2.2.2.2.1)), .int (nI (rr.2.2.2.2.1)), .int (nI (rr.2.2.2.2.2.1))])), (fq, .inl (cI, 25, .inl (fun j => nI (u.2.2.2.2.2.2.2.2.2.1 j)))), (bq, .inl (cI, 24, .inl (fun j => nI (bs j)))), (kq, .inl (cI, 25, .inl (fun j => nI (kp j)))), (kr, .inr (1, [.ref r1, .ref r2, .ref r3, .ref r4])), (r1, .inl (cI, 25, .inl sz)), (r2, .inl (cI, 25, .inl lf)), (r3, .inl (cI, 25, .inl rt)), (r4, .inl (cI, 25, .inl tr)), (h, .inr (2, [.ref (u.2.1 1), .ref (u.2.1 2), .ref (u.2.1 3), .ref (u.2.1 4), .ref (u.2.1 5), .ref (u.2.1 6), .ref (u.2.1 7), .int (nI (rr.2.2.2.2.2.2.2.1)), .int (nI (u.2.2.2.2.2.2.2.2.2.2.2.1))])), ((u.2.1 1), .inl (cI, rr.2.2.2.2.2.2.1, .inl (fun j => nI (u.2.2.1 j)))), ((u.2.1 2), .inl (cI, rr.2.2.2.2.2.2.1, .inl (fun j => nI (u.2.2.2.1 j)))), ((u.2.1 3), .inl (cI, rr.2.2.2.2.2.2.1, .inl (fun j => nI (u.2.2.2.2.1 j)))), ((u.2.1 4), .inl (cI, rr.2.2.2.2.2.2.1, .inl (fun j => nI (u.2.2.2.2.2.1 j)))), ((u.2.1 5), .inl (cI, rr.2.2.2.2.2.2.1, .inl (fun j => nI (u.2.2.2.2.2.2.1 j)))), ((u.2.1 6), .inl (cI, rr.2.2.2.2.2.2.1, .inl (fun j => nI (u.2.2.2.2.2.2.2.1 j)))), ((u.2.1 7), .inl (cI, rr.2.2.2.2.2.2.1, .inl (fun j => nI (u.2.2.2.2.2.2.2.2.1 j)))), (sc, .inl (cI, 256, .inl scr)), (ga, .inl (cI, 256, .inl (fun j => nI (u.1 j))))] H := hP
  have hD : va_D A [(oa, .inl (cJ, 1, .inr (.inl ou))), (x, .inr (3, [.ref tk, .ref mh, .ref sc, .ref ga, .int (nI 1)])), (mh, .inr (0, [.ref kr, .ref h, .ref kq, .ref fq, .ref bq, .ref gq, .int (nI rcv), .int (nI ncl), .int (nI (u.2.2.2.2.2.2.2.2.2.2.2.2.1)), .int (nI (u.2.2.2.2.2.2.2.2.2.2.2.2.2.1)), .int (nI (u.2.2.2.2.2.2.2.2.2.2.2.2.2.2.1)), .int (nI (rr.2.2.2.2.1)), .int (nI (rr.2.2.2.2.2.1))])), (fq, .inl (cI, 25, .inl (fun j => nI (u.2.2.2.2.2.2.2.2.2.1 j)))), (bq, .inl (cI, 24, .inl (fun j => nI (bs j)))), (kq, .inl (cI, 25, .inl (fun j => nI (kp j)))), (kr, .inr (1, [.ref r1, .ref r2, .ref r3, .ref r4])), (r1, .inl (cI, 25, .inl sz)), (r2, .inl (cI, 25, .inl lf)), (r3, .inl (cI, 25, .inl rt)), (r4, .inl (cI, 25, .inl tr)), (h, .inr (2, [.ref (u.2.1 1), .ref (u.2.1 2), .ref (u.2.1 3), .ref (u.2.1 4), .ref (u.2.1 5), .ref (u.2.1 6), .ref (u.2.1 7), .int (nI (rr.2.2.2.2.2.2.2.1)), .int (nI (u.2.2.2.2.2.2.2.2.2.2.2.1))])), ((u.2.1 1), .inl (cI, rr.2.2.2.2.2.2.1, .inl (fun j => nI (u.2.2.1 j)))), ((u.2.1 2), .inl (cI, rr.2.2.2.2.2.2.1, .inl (fun j => nI (u.2.2.2.1 j)))), ((u.2.1 3), .inl (cI, rr.2.2.2.2.2.2.1, .inl (fun j => nI (u.2.2.2.2.1 j)))), ((u.2.1 4), .inl (cI, rr.2.2.2.2.2.2.1, .inl (fun j => nI (u.2.2.2.2.2.1 j)))), ((u.2.1 5), .inl (cI, rr.2.2.2.2.2.2.1, .inl (fun j => nI (u.2.2.2.2.2.2.1 j)))), ((u.2.1 6), .inl (cI, rr.2.2.2.2.2.2.1, .inl (fun j => nI (u.2.2.2.2.2.2.2.1 j)))), ((u.2.1 7), .inl (cI, rr.2.2.2.2.2.2.1, .inl (fun j => nI (u.2.2.2.2.2.2.2.2.1 j)))), (sc, .inl (cI, 256, .inl scr)), (ga, .inl (cI, 256, .inl (fun j => nI (u.1 j))))] := hD
  refine lv_i2l hx hb dL_replay_7 rfl ?_
  refine n_last hx hb hK hP hD hS 0 1 rfl rfl (i := 0) (v := ((rv).toInt64)) (by decide) (by decide) dL_replay_8 (fun H locs hP hD hS => ?_)
  have hP : va_P g vwCl [(oa, .inl (cJ, 1, .inr (.inl (vp_updL ou 0 ((rv).toInt64))))), (x, .inr (3, [.ref tk, .ref mh, .ref sc, .ref ga, .int (nI 1)])), (mh, .inr (0, [.ref kr, .ref h, .ref kq, .ref fq, .ref bq, .ref gq, .int (nI rcv), .int (nI ncl), .int (nI (u.2.2.2.2.2.2.2.2.2.2.2.2.1)), .int (nI (u.2.2.2.2.2.2.2.2.2.2.2.2.2.1)), .int (nI (u.2.2.2.2.2.2.2.2.2.2.2.2.2.2.1)), .int (nI (rr.2.2.2.2.1)), .int (nI (rr.2.2.2.2.2.1))])), (fq, .inl (cI, 25, .inl (fun j => nI (u.2.2.2.2.2.2.2.2.2.1 j)))), (bq, .inl (cI, 24, .inl (fun j => nI (bs j)))), (kq, .inl (cI, 25, .inl (fun j => nI (kp j)))), (kr, .inr (1, [.ref r1, .ref r2, .ref r3, .ref r4])), (r1, .inl (cI, 25, .inl sz)), (r2, .inl (cI, 25, .inl lf)), (r3, .inl (cI, 25, .inl rt)), (r4, .inl (cI, 25, .inl tr)), (h, .inr (2, [.ref (u.2.1 1), .ref (u.2.1 2), .ref (u.2.1 3), .ref (u.2.1 4), .ref (u.2.1 5), .ref (u.2.1 6), .ref (u.2.1 7), .int (nI (rr.2.2.2.2.2.2.2.1)), .int (nI (u.2.2.2.2.2.2.2.2.2.2.2.1))])), ((u.2.1 1), .inl (cI, rr.2.2.2.2.2.2.1, .inl (fun j => nI (u.2.2.1 j)))), ((u.2.1 2), .inl (cI, rr.2.2.2.2.2.2.1, .inl (fun j => nI (u.2.2.2.1 j)))), ((u.2.1 3), .inl (cI, rr.2.2.2.2.2.2.1, .inl (fun j => nI (u.2.2.2.2.1 j)))), ((u.2.1 4), .inl (cI, rr.2.2.2.2.2.2.1, .inl (fun j => nI (u.2.2.2.2.2.1 j)))), ((u.2.1 5), .inl (cI, rr.2.2.2.2.2.2.1, .inl (fun j => nI (u.2.2.2.2.2.2.1 j)))), ((u.2.1 6), .inl (cI, rr.2.2.2.2.2.2.1, .inl (fun j => nI (u.2.2.2.2.2.2.2.1 j)))), ((u.2.1 7), .inl (cI, rr.2.2.2.2.2.2.1, .inl (fun j => nI (u.2.2.2.2.2.2.2.2.1 j)))), (sc, .inl (cI, 256, .inl scr)), (ga, .inl (cI, 256, .inl (fun j => nI (u.1 j))))] H := hP
  have hD : va_D A [(oa, .inl (cJ, 1, .inr (.inl (vp_updL ou 0 ((rv).toInt64))))), (x, .inr (3, [.ref tk, .ref mh, .ref sc, .ref ga, .int (nI 1)])), (mh, .inr (0, [.ref kr, .ref h, .ref kq, .ref fq, .ref bq, .ref gq, .int (nI rcv), .int (nI ncl), .int (nI (u.2.2.2.2.2.2.2.2.2.2.2.2.1)), .int (nI (u.2.2.2.2.2.2.2.2.2.2.2.2.2.1)), .int (nI (u.2.2.2.2.2.2.2.2.2.2.2.2.2.2.1)), .int (nI (rr.2.2.2.2.1)), .int (nI (rr.2.2.2.2.2.1))])), (fq, .inl (cI, 25, .inl (fun j => nI (u.2.2.2.2.2.2.2.2.2.1 j)))), (bq, .inl (cI, 24, .inl (fun j => nI (bs j)))), (kq, .inl (cI, 25, .inl (fun j => nI (kp j)))), (kr, .inr (1, [.ref r1, .ref r2, .ref r3, .ref r4])), (r1, .inl (cI, 25, .inl sz)), (r2, .inl (cI, 25, .inl lf)), (r3, .inl (cI, 25, .inl rt)), (r4, .inl (cI, 25, .inl tr)), (h, .inr (2, [.ref (u.2.1 1), .ref (u.2.1 2), .ref (u.2.1 3), .ref (u.2.1 4), .ref (u.2.1 5), .ref (u.2.1 6), .ref (u.2.1 7), .int (nI (rr.2.2.2.2.2.2.2.1)), .int (nI (u.2.2.2.2.2.2.2.2.2.2.2.1))])), ((u.2.1 1), .inl (cI, rr.2.2.2.2.2.2.1, .inl (fun j => nI (u.2.2.1 j)))), ((u.2.1 2), .inl (cI, rr.2.2.2.2.2.2.1, .inl (fun j => nI (u.2.2.2.1 j)))), ((u.2.1 3), .inl (cI, rr.2.2.2.2.2.2.1, .inl (fun j => nI (u.2.2.2.2.1 j)))), ((u.2.1 4), .inl (cI, rr.2.2.2.2.2.2.1, .inl (fun j => nI (u.2.2.2.2.2.1 j)))), ((u.2.1 5), .inl (cI, rr.2.2.2.2.2.2.1, .inl (fun j => nI (u.2.2.2.2.2.2.1 j)))), ((u.2.1 6), .inl (cI, rr.2.2.2.2.2.2.1, .inl (fun j => nI (u.2.2.2.2.2.2.2.1 j)))), ((u.2.1 7), .inl (cI, rr.2.2.2.2.2.2.1, .inl (fun j => nI (u.2.2.2.2.2.2.2.2.1 j)))), (sc, .inl (cI, 256, .inl scr)), (ga, .inl (cI, 256, .inl (fun j => nI (u.1 j))))] := hD
  refine lv_goto (tgt := 18) hx hb dL_replay_9 (by decide) ?_
  refine lv_iconst (v := nI 0) hx hb dL_replay_18 (by decide) ?_
  have hP := hP.sub (ws' := [(x, .inr (3, [.ref tk, .ref mh, .ref sc, .ref ga, .int (nI 1)])), (mh, .inr (0, [.ref kr, .ref h, .ref kq, .ref fq, .ref bq, .ref gq, .int (nI rcv), .int (nI ncl), .int (nI (u.2.2.2.2.2.2.2.2.2.2.2.2.1)), .int (nI (u.2.2.2.2.2.2.2.2.2.2.2.2.2.1)), .int (nI (u.2.2.2.2.2.2.2.2.2.2.2.2.2.2.1)), .int (nI (rr.2.2.2.2.1)), .int (nI (rr.2.2.2.2.2.1))])), (fq, .inl (cI, 25, .inl (fun j => nI (u.2.2.2.2.2.2.2.2.2.1 j)))), (bq, .inl (cI, 24, .inl (fun j => nI (bs j)))), (kq, .inl (cI, 25, .inl (fun j => nI (kp j)))), (kr, .inr (1, [.ref r1, .ref r2, .ref r3, .ref r4])), (r1, .inl (cI, 25, .inl sz)), (r2, .inl (cI, 25, .inl lf)), (r3, .inl (cI, 25, .inl rt)), (r4, .inl (cI, 25, .inl tr)), (h, .inr (2, [.ref (u.2.1 1), .ref (u.2.1 2), .ref (u.2.1 3), .ref (u.2.1 4), .ref (u.2.1 5), .ref (u.2.1 6), .ref (u.2.1 7), .int (nI (rr.2.2.2.2.2.2.2.1)), .int (nI (u.2.2.2.2.2.2.2.2.2.2.2.1))])), ((u.2.1 1), .inl (cI, rr.2.2.2.2.2.2.1, .inl (fun j => nI (u.2.2.1 j)))), ((u.2.1 2), .inl (cI, rr.2.2.2.2.2.2.1, .inl (fun j => nI (u.2.2.2.1 j)))), ((u.2.1 3), .inl (cI, rr.2.2.2.2.2.2.1, .inl (fun j => nI (u.2.2.2.2.1 j)))), ((u.2.1 4), .inl (cI, rr.2.2.2.2.2.2.1, .inl (fun j => nI (u.2.2.2.2.2.1 j)))), ((u.2.1 5), .inl (cI, rr.2.2.2.2.2.2.1, .inl (fun j => nI (u.2.2.2.2.2.2.1 j)))), ((u.2.1 6), .inl (cI, rr.2.2.2.2.2.2.1, .inl (fun j => nI (u.2.2.2.2.2.2.2.1 j)))), ((u.2.1 7), .inl (cI, rr.2.2.2.2.2.2.1, .inl (fun j => nI (u.2.2.2.2.2.2.2.2.1 j)))), (sc, .inl (cI, 256, .inl scr)), (ga, .inl (cI, 256, .inl (fun j => nI (u.1 j)))), (oa, .inl (cJ, 1, .inr (.inl (vp_updL ou 0 ((rv).toInt64)))))]) [1, 2, 3, 4, 5, 6, 7, 8, 9, 10, 11, 12, 13, 14, 15, 16, 17, 18, 19, 20, 0] rfl
  have hD := hD.sub (ws' := [(x, .inr (3, [.ref tk, .ref mh, .ref sc, .ref ga, .int (nI 1)])), (mh, .inr (0, [.ref kr, .ref h, .ref kq, .ref fq, .ref bq, .ref gq, .int (nI rcv), .int (nI ncl), .int (nI (u.2.2.2.2.2.2.2.2.2.2.2.2.1)), .int (nI (u.2.2.2.2.2.2.2.2.2.2.2.2.2.1)), .int (nI (u.2.2.2.2.2.2.2.2.2.2.2.2.2.2.1)), .int (nI (rr.2.2.2.2.1)), .int (nI (rr.2.2.2.2.2.1))])), (fq, .inl (cI, 25, .inl (fun j => nI (u.2.2.2.2.2.2.2.2.2.1 j)))), (bq, .inl (cI, 24, .inl (fun j => nI (bs j)))), (kq, .inl (cI, 25, .inl (fun j => nI (kp j)))), (kr, .inr (1, [.ref r1, .ref r2, .ref r3, .ref r4])), (r1, .inl (cI, 25, .inl sz)), (r2, .inl (cI, 25, .inl lf)), (r3, .inl (cI, 25, .inl rt)), (r4, .inl (cI, 25, .inl tr)), (h, .inr (2, [.ref (u.2.1 1), .ref (u.2.1 2), .ref (u.2.1 3), .ref (u.2.1 4), .ref (u.2.1 5), .ref (u.2.1 6), .ref (u.2.1 7), .int (nI (rr.2.2.2.2.2.2.2.1)), .int (nI (u.2.2.2.2.2.2.2.2.2.2.2.1))])), ((u.2.1 1), .inl (cI, rr.2.2.2.2.2.2.1, .inl (fun j => nI (u.2.2.1 j)))), ((u.2.1 2), .inl (cI, rr.2.2.2.2.2.2.1, .inl (fun j => nI (u.2.2.2.1 j)))), ((u.2.1 3), .inl (cI, rr.2.2.2.2.2.2.1, .inl (fun j => nI (u.2.2.2.2.1 j)))), ((u.2.1 4), .inl (cI, rr.2.2.2.2.2.2.1, .inl (fun j => nI (u.2.2.2.2.2.1 j)))), ((u.2.1 5), .inl (cI, rr.2.2.2.2.2.2.1, .inl (fun j => nI (u.2.2.2.2.2.2.1 j)))), ((u.2.1 6), .inl (cI, rr.2.2.2.2.2.2.1, .inl (fun j => nI (u.2.2.2.2.2.2.2.1 j)))), ((u.2.1 7), .inl (cI, rr.2.2.2.2.2.2.1, .inl (fun j => nI (u.2.2.2.2.2.2.2.2.1 j)))), (sc, .inl (cI, 256, .inl scr)), (ga, .inl (cI, 256, .inl (fun j => nI (u.1 j)))), (oa, .inl (cJ, 1, .inr (.inl (vp_updL ou 0 ((rv).toInt64)))))]) [1, 2, 3, 4, 5, 6, 7, 8, 9, 10, 11, 12, 13, 14, 15, 16, 17, 18, 19, 20, 0] rfl rfl
  refine W.widen (k := (7 * (rr.2.2.2.2.2.2.1 - n0))) (n := (14 * (rr.2.2.2.2.2.2.1 - n0))) (by first | exact Nat.le_refl _ | omega) (by first | exact Nat.le_refl _ | omega) ?_
  exact k_retI (sz := 0) (v := nI 0) hx hb hr hlocks hAe hS hP hD (rv, u) (rfl) (⟨rfl, hu⟩) dL_replay_19
set_option maxHeartbeats 4000000 in
set_option maxRecDepth 100000 in
theorem c_L_replay_tM (l : Launch) (g : va_G) (cI cJ cZ : ClassId) (hst : l.stackTraces = false) (x tk sc ga : Nat) (mh : Nat) (v : Int32) (oa : Nat) (ou : Nat → Int64)  : kIx l g (kty cI cJ cZ) yL_replay wsL_replay ({ frames := 8, cells := 1, slots := 6, locals := 132 }) [.ref x, .int v, .ref oa] [(x, .inr (3, [.ref tk, .ref mh, .ref sc, .ref ga, .int (nI 0)])), (oa, .inl (cJ, 1, .inr (.inl ou)))] (S := Unit) (fun r _ => r = nI 1) (fun u => [(x, .inr (3, [.ref tk, .ref mh, .ref sc, .ref ga, .int (nI 0)])), (oa, .inl (cJ, 1, .inr (.inl ou)))]) 1 6 := by
  intro sz
  refine va_MetW (cc := cL_replay) (maxL := 4) (ret := (some .int)) (by decide) rfl ?_
  intro p e s m args below meth c s₁ B hml hv
  obtain ⟨rfl, ⟨hsz, hP, hk, hD0⟩, hxT, hxZ⟩ := hv
  subst hsz
  have hx := B.exec
  have hb := B.bytes
  have hr := B.returns
  have hts := atoms_spec (ws := wsL_replay) B.pre
  have hown : s.vm.findClass RL = some m.cls := findClass_of_methodNamed B.named
  have hlocks := B.notSynchronized
  have hK := hk.1
  obtain ⟨A, hAe⟩ : ∃ A, va_A [(x, .inr (3, [.ref tk, .ref mh, .ref sc, .ref ga, .int (nI 0)])), (oa, .inl (cJ, 1, .inr (.inl ou)))] s.heap.size = A := ⟨_, rfl⟩
  have hD := hD0.self (sz := s.heap.size)
  rw [hAe] at hD hxZ
  have hA : ∀ q : Nat, s.heap.size ≤ q → A q := fun q h => by rw [← hAe]; exact Or.inr h
  have hS : va_S A s.heap s.heap [] := va_S.rf
  have hl := lv_entry ([.ref x, .int v, .ref oa]) (n := 4) (Nat.le_of_ble_eq_true rfl)
  rw [lg_entry_eq]
  generalize (lg_sl ([.ref x, .int v, .ref oa]) ++ List.replicate (4 - (lg_sl ([.ref x, .int v, .ref oa])).length) Slot.unset).toArray = ls at hl ⊢
  have hl : lv_has ls 4 [(0, .ref x), (1, .int v), (2, .ref oa)] := hl
  have htb : c.exceptionTable.toList = _ := vx_table (x := yL_replay) B (hts _ List.mem_cons_self)
  refine lv_aload_n hx hb dL_replay_0 rfl (lv_at hl 2 rfl) ?_
  refine lv_iconst (v := nI 0) hx hb dL_replay_1 (by decide) ?_
  refine lv_aload_n hx hb dL_replay_2 rfl (lv_at hl 0 rfl) ?_
  refine lv_iload_n hx hb dL_replay_3 rfl (lv_at hl 1 rfl) ?_
  refine k_goT (wr := [(oa, .inl (cJ, 1, .inr (.inl ou)))]) (vx_runV (As := [.int v]) (rest := [.int (nI 0), .ref oa]) ⟨hx, hb, hml, hown, hts⟩ (c_X3_replay_tM l g cI cJ cZ hst x tk sc ga mh v   _) (cwV 1 hts gL_replay_X3_replay rfl rfl rfl (by decide +kernel) ⟨Nat.le_of_ble_eq_true rfl, Nat.le_of_ble_eq_true rfl⟩) (k_preVx hk hxT (hxZ.kept (fun a h1 h2 => hS.2.1 a h1 h2)) hP hD hS hA [0] rfl rfl (ci := 3) (q0 := 0) rfl rfl) rfl rfl hl.1 rfl (lv_room (Nat.le_of_ble_eq_true rfl)) dL_replay_4 ⟨Nat.le_of_ble_eq_true rfl, Nat.le_of_ble_eq_true rfl⟩) hP hD hS hA [0] [1] rfl rfl rfl (by decide) (fun ce q9 H locs hP hD hS hkp hce hcv hcl => ?_)
  have hP : va_P g vwCl [(oa, .inl (cJ, 1, .inr (.inl ou))), (x, .inr (3, [.ref tk, .ref mh, .ref sc, .ref ga, .int (nI 0)]))] H := hP
  have hD : va_D A [(oa, .inl (cJ, 1, .inr (.inl ou))), (x, .inr (3, [.ref tk, .ref mh, .ref sc, .ref ga, .int (nI 0)]))] := hD
  refine vx_catch (E := xI) (own := RL) (name := "java/lang/IllegalStateException") hown [] ⟨0, 9, 12, 25⟩ [⟨0, 9, 15, 13⟩] htb (fun z hz => by cases hz) (by decide) (by decide) (hts (.classLink RL 25 "java/lang/IllegalStateException") (by decide +kernel)) (va_Nw.use rfl (hxT.2 _ (by decide +kernel))) hce hcv hcl ?_
  refine lv_astore_n (lv' := [(3, .ref q9), (0, .ref x), (1, .int v), (2, .ref oa)]) hx hb dL_replay_12 rfl hl (by decide) rfl (fun ls hl => ?_)
  refine lv_iconst (v := nI 1) hx hb dL_replay_13 (by decide) ?_
  have hP := hP.sub (ws' := [(x, .inr (3, [.ref tk, .ref mh, .ref sc, .ref ga, .int (nI 0)])), (oa, .inl (cJ, 1, .inr (.inl ou)))]) [1, 0] rfl
  have hD := hD.sub (ws' := [(x, .inr (3, [.ref tk, .ref mh, .ref sc, .ref ga, .int (nI 0)])), (oa, .inl (cJ, 1, .inr (.inl ou)))]) [1, 0] rfl rfl
  refine W.widen (k := 1) (n := 6) (by first | exact Nat.le_refl _ | omega) (by first | exact Nat.le_refl _ | omega) ?_
  exact k_retI (sz := 0) (v := nI 1) hx hb hr hlocks hAe hS hP hD () (rfl) (rfl) dL_replay_14
set_option maxHeartbeats 4000000 in
set_option maxRecDepth 100000 in
theorem c_L_replay_tA (l : Launch) (g : va_G) (cI cJ cZ : ClassId) (hst : l.stackTraces = false) (x tk sc ga : Nat) (mh : Nat) (v : Int32) (oa : Nat) (ou : Nat → Int64) (hv : v < 0 ∨ ¬ v ≤ nI 256) : kIc l g (kty cI cJ cZ) yL_replay wsL_replay ({ frames := 7, cells := 1, slots := 6, locals := 112 }) [.ref x, .int v, .ref oa] [(x, .inr (3, [.ref tk, .ref mh, .ref sc, .ref ga, .int (nI 1)])), (oa, .inl (cJ, 1, .inr (.inl ou)))] (S := Unit) (fun r _ => r = nI 2) (fun u => [(x, .inr (3, [.ref tk, .ref mh, .ref sc, .ref ga, .int (nI 1)])), (oa, .inl (cJ, 1, .inr (.inl ou)))]) 1 6 := by
  intro sz
  refine va_MetW (cc := cL_replay) (maxL := 4) (ret := (some .int)) (by decide) rfl ?_
  intro p e s m args below meth c s₁ B hml hv
  obtain ⟨rfl, ⟨hsz, hP, hk, hD0⟩, hxT, hxZ, hxC⟩ := hv
  subst hsz
  have hx := B.exec
  have hb := B.bytes
  have hr := B.returns
  have hts := atoms_spec (ws := wsL_replay) B.pre
  have hown : s.vm.findClass RL = some m.cls := findClass_of_methodNamed B.named
  have hlocks := B.notSynchronized
  have hK := hk.1
  obtain ⟨A, hAe⟩ : ∃ A, va_A [(x, .inr (3, [.ref tk, .ref mh, .ref sc, .ref ga, .int (nI 1)])), (oa, .inl (cJ, 1, .inr (.inl ou)))] s.heap.size = A := ⟨_, rfl⟩
  have hD := hD0.self (sz := s.heap.size)
  rw [hAe] at hD hxZ
  have hA : ∀ q : Nat, s.heap.size ≤ q → A q := fun q h => by rw [← hAe]; exact Or.inr h
  have hS : va_S A s.heap s.heap [] := va_S.rf
  have hl := lv_entry ([.ref x, .int v, .ref oa]) (n := 4) (Nat.le_of_ble_eq_true rfl)
  rw [lg_entry_eq]
  generalize (lg_sl ([.ref x, .int v, .ref oa]) ++ List.replicate (4 - (lg_sl ([.ref x, .int v, .ref oa])).length) Slot.unset).toArray = ls at hl ⊢
  have hl : lv_has ls 4 [(0, .ref x), (1, .int v), (2, .ref oa)] := hl
  have htb : c.exceptionTable.toList = _ := vx_table (x := yL_replay) B (hts _ List.mem_cons_self)
  refine lv_aload_n hx hb dL_replay_0 rfl (lv_at hl 2 rfl) ?_
  refine lv_iconst (v := nI 0) hx hb dL_replay_1 (by decide) ?_
  refine lv_aload_n hx hb dL_replay_2 rfl (lv_at hl 0 rfl) ?_
  refine lv_iload_n hx hb dL_replay_3 rfl (lv_at hl 1 rfl) ?_
  refine k_goT (wr := [(oa, .inl (cJ, 1, .inr (.inl ou)))]) (vx_runV (As := [.int v]) (rest := [.int (nI 0), .ref oa]) ⟨hx, hb, hml, hown, hts⟩ (c_X3_replay_tA l g cI cJ cZ hst x tk sc ga mh v  hv _) (cwV 1 hts gL_replay_X3_replay rfl rfl rfl (by decide +kernel) ⟨Nat.le_of_ble_eq_true rfl, Nat.le_of_ble_eq_true rfl⟩) (k_preVx hk hxT (hxZ.kept (fun a h1 h2 => hS.2.1 a h1 h2)) hP hD hS hA [0] rfl rfl (ci := 3) (q0 := 0) rfl rfl) rfl rfl hl.1 rfl (lv_room (Nat.le_of_ble_eq_true rfl)) dL_replay_4 ⟨Nat.le_of_ble_eq_true rfl, Nat.le_of_ble_eq_true rfl⟩) hP hD hS hA [0] [1] rfl rfl rfl (by decide) (fun ce q9 H locs hP hD hS hkp hce hcv hcl => ?_)
  have hP : va_P g vwCl [(oa, .inl (cJ, 1, .inr (.inl ou))), (x, .inr (3, [.ref tk, .ref mh, .ref sc, .ref ga, .int (nI 1)]))] H := hP
  have hD : va_D A [(oa, .inl (cJ, 1, .inr (.inl ou))), (x, .inr (3, [.ref tk, .ref mh, .ref sc, .ref ga, .int (nI 1)]))] := hD
  refine vx_catch (E := xA) (own := RL) (name := "java/lang/IllegalArgumentException") hown [⟨0, 9, 12, 25⟩] ⟨0, 9, 15, 13⟩ [] htb (fun z hz => by rw [List.mem_singleton.mp hz]; exact Or.inr ⟨by decide, _, hts (.classLink RL 25 "java/lang/IllegalStateException") (by decide +kernel), hxC⟩) (by decide) (by decide) (hts (.classLink RL 13 "java/lang/IllegalArgumentException") (by decide +kernel)) (va_Nw.use rfl (hxT.2 _ (by decide +kernel))) hce hcv hcl ?_
  refine lv_astore_n (lv' := [(3, .ref q9), (0, .ref x), (1, .int v), (2, .ref oa)]) hx hb dL_replay_15 rfl hl (by decide) rfl (fun ls hl => ?_)
  refine lv_iconst (v := nI 2) hx hb dL_replay_16 (by decide) ?_
  have hP := hP.sub (ws' := [(x, .inr (3, [.ref tk, .ref mh, .ref sc, .ref ga, .int (nI 1)])), (oa, .inl (cJ, 1, .inr (.inl ou)))]) [1, 0] rfl
  have hD := hD.sub (ws' := [(x, .inr (3, [.ref tk, .ref mh, .ref sc, .ref ga, .int (nI 1)])), (oa, .inl (cJ, 1, .inr (.inl ou)))]) [1, 0] rfl rfl
  refine W.widen (k := 1) (n := 6) (by first | exact Nat.le_refl _ | omega) (by first | exact Nat.le_refl _ | omega) ?_
  exact k_retI (sz := 0) (v := nI 2) hx hb hr hlocks hAe hS hP hD () (rfl) (rfl) dL_replay_17
