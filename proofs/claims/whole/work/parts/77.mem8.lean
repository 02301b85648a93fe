set_option maxHeartbeats 4000000 in
set_option maxRecDepth 100000 in
theorem lp_X0_freeNodesIfJoined_19 {p : Program} {e : Env} {s : State} {m : MethodId} {args : Array Value} {below : List Frame} {meth : Method} {c : Code} {Q : State → Prop} (l : Launch) (g : va_G) (cI cJ cZ : ClassId) (mh kr kq fq bq gq : Nat) (rcv ncl bl rd hd jn sn : Nat) (fo : Nat → Nat) (h q1 q2 q3 q4 q5 q6 q7 n : Nat) (pa ch kd ad ra su un : Nat → Nat) (mk sv : Nat) (top : Nat) (S L R : Nat → Nat) (rc : Nat → Bool) (sp : Nat → Bool) (rq nu : Nat → Nat) (hn : n < 2 ^ 25) (hR : RuleOK S L R rc top) (hI : wI top S L R sp rq nu ([]) n mk sv pa ch kd ad ra su un fo bl rd hd) (rr : Nat) (hrr : rr < 2 ^ 30) (C0 : cM p s m args meth c cX0_freeNodesIfJoined 4 (some .int) wsX0_freeNodesIfJoined RX0) (hk : kK g (kty cI cJ cZ) s) {H : Heap} {locs : List Loc} (hP : va_P g vwCl [(mh, .inr (0, [.ref kr, .ref h, .ref kq, .ref fq, .ref bq, .ref gq, .int (nI rcv), .int (nI ncl), .int (nI bl), .int (nI rd), .int (nI hd), .int (nI jn), .int (nI sn)])), (h, .inr (2, [.ref q1, .ref q2, .ref q3, .ref q4, .ref q5, .ref q6, .ref q7, .int (nI mk), .int (nI sv)])), (q1, .inl (cI, n, .inl (fun j => nI (pa j)))), (q2, .inl (cI, n, .inl (fun j => nI (ch j)))), (q3, .inl (cI, n, .inl (fun j => nI (kd j)))), (q4, .inl (cI, n, .inl (fun j => nI (ad j)))), (q5, .inl (cI, n, .inl (fun j => nI (ra j)))), (q6, .inl (cI, n, .inl (fun j => nI (su j)))), (q7, .inl (cI, n, .inl (fun j => nI (un j))))] H) (kk0 : ∀ (v : Nat), (v = rr) → ∀ (ls : Array Slot), lv_has ls 4 [(1, .int (nI v))] → W p l e (headSpec wsX0_freeNodesIfJoined ({ frames := 2, cells := 0, slots := 0, locals := 46 })).room s m args below meth c H locs 0 0 Q (F0 m 52 ls [])) :
    ∀ (K : Nat) (k q v : Nat) (lst : List Nat), k < K → (wat sp rq q lst) → (lst.length ≤ k ∧ k ≤ mk) → (v < 2 ^ 30) → (v + lst.length = rr) → ∀ (ls : Array Slot), lv_has ls 4 [(0, .ref mh), (1, .int (nI v)), (2, .int (nI (nz nu q))), (3, .int (nI k))] → W p l e (headSpec wsX0_freeNodesIfJoined ({ frames := 2, cells := 0, slots := 0, locals := 46 })).room s m args below meth c H locs 0 0 Q (F0 m 19 ls []) := by
  obtain ⟨hx, hb, hr, hml, hown, hts, hlocks⟩ := C0
  have hK := hk.1
  have hinX0 : ∀ w ∈ wsX00, w ∈ wsX0_freeNodesIfJoined := by decide +kernel
  intro K
  induction K with
  | zero =>
    intro k q v lst h0
    exact absurd h0 (Nat.not_lt_zero _)
  | succ K ih =>
    intro k q v lst hmu hW hf hv hZ ls hl
    obtain ⟨a1, a2, a3, a4, a5, a6, a7, a8, -⟩ := hI.1.2.2.2.2.1
    have hn31 : n < 2 ^ 31 := by omega
    have hml9 := mk_len hI
    have hgd := gdp_ok hR hI
    have hnz := nz_lt hI (wat_gd hW)
    refine lv_iload_n hx hb dX0_freeNodesIfJoined_19 rfl (lv_at hl 3 rfl) ?_
    refine n_if_le (tgt := 52) hx hb dX0_freeNodesIfJoined_20 (by decide) (by first | assumption | omega) (fun c3 => ?_) (fun c3 => ?_)
    · skip
      have hl0 : lst = [] := List.eq_nil_of_length_eq_zero (by omega)
      exact kk0 v (by rw [hl0] at hZ; exact hZ) ls (lv_sub hl [1] rfl)
    · skip
      refine lv_iload_n hx hb dX0_freeNodesIfJoined_23 rfl (lv_at hl 2 rfl) ?_
      refine n_if_eq (tgt := 52) hx hb dX0_freeNodesIfJoined_24 (by decide) (by exact Nat.lt_trans hnz hn31) (fun c4 => ?_) (fun c4 => ?_)
      · skip
        have hl0 : lst = [] := by
          rcases hW with hW | hW
          · exact hW.2
          · have h9 := nz_0 hI (fun _ => hW.1) (by omega)
            have := ex_pos hW.1
            omega
        exact kk0 v (by rw [hl0] at hZ; exact hZ) ls (lv_sub hl [1] rfl)
      · skip
        have hq0 : q ≠ 0 := nz_ne (nu := nu) (by omega)
        rw [nz_s hq0] at hl
        have hqx := wat_gd hW hq0
        have hqn := tI_lt hI.1 hqx
        obtain ⟨hqb, hql⟩ : lvb sp rq q = false ∧ lst = q :: aft sp rq q := by
          rcases hW with hW | hW
          · exact absurd hW.1 hq0
          · exact hW.2
        subst hql
        refine lv_iinc (v := nI (v + 1)) (lv' := [(1, .int (nI (v + 1))), (0, .ref mh), (2, .int (nI (nu q))), (3, .int (nI k))]) hx hb dX0_freeNodesIfJoined_27 hl (k := 1) rfl (n_inc _ 1) (by decide) rfl (fun ls hl => ?_)
        refine lv_aload_n hx hb dX0_freeNodesIfJoined_30 rfl (lv_at hl 1 rfl) ?_
        refine va_get (D := g) (ci := 0) (v := .ref h) (C := RX0) (T := TX0) (N := 13) hx hb hts hinX0 hown hK hP 0 rfl rfl 1 (by decide) (hts (.fieldLink RX0 21 "BuddyRoof$Memory" "tree" "LBuddyRoof$Tree;") (by decide +kernel)) (fun _ h9 => h9) rfl dX0_freeNodesIfJoined_31 ?_
        refine lv_aload_n hx hb dX0_freeNodesIfJoined_34 rfl (lv_at hl 1 rfl) ?_
        refine va_get (D := g) (ci := 0) (v := .ref h) (C := RX0) (T := TX0) (N := 13) hx hb hts hinX0 hown hK hP 0 rfl rfl 1 (by decide) (hts (.fieldLink RX0 21 "BuddyRoof$Memory" "tree" "LBuddyRoof$Tree;") (by decide +kernel)) (fun _ h9 => h9) rfl dX0_freeNodesIfJoined_35 ?_
        refine lv_iload_n hx hb dX0_freeNodesIfJoined_38 rfl (lv_at hl 2 rfl) ?_
        refine k_goR (W.runV (As := [.int (nI (nu q))]) (rest := [.ref h]) ⟨hx, hb, hml, hown, hts⟩ (c_X2_behind l g cI cJ cZ h q1 q2 q3 q4 q5 q6 q7 n pa ch kd ad ra su un mk sv (nu q) hn31 hqn.2 a1) (cwV 1 hts gX0_freeNodesIfJoined_X2_behind rfl rfl rfl (by decide +kernel) ⟨Nat.le_of_ble_eq_true rfl, Nat.le_of_ble_eq_true rfl⟩) (k_preRV hk hP [1, 2, 3, 4, 5, 6, 7, 8] rfl (ci := 2) (q0 := 0) rfl rfl) rfl rfl hl.1 rfl (lv_room (Nat.le_of_ble_eq_true rfl)) dX0_freeNodesIfJoined_39 ⟨by first | exact Nat.zero_le _ | omega, by first | exact Nat.zero_le _ | omega⟩) ?_
        obtain ⟨qz, hq2, hw2⟩ := fWho_b hR hI hqx
        refine k_goR (W.runV (As := [.int (nI (fBeh pa (nu q)))]) (rest := []) ⟨hx, hb, hml, hown, hts⟩ (c_X2_wholeFrom l g cI cJ cZ h q1 q2 q3 q4 q5 q6 q7 n pa ch kd ad ra su un mk sv (fBeh pa (nu q)) (gdp sp nu) hn31 (by omega) a1 (fun i => Nat.lt_trans (Nat.lt_of_succ_lt (a2 i)) hn31) hgd.1 hgd.2.1 hgd.2.2 (hgd.2.2 _ ⟨q, (nz_s (by omega)).symm, fun _ => hqx⟩ hqn.1)) (cwV 1 hts gX0_freeNodesIfJoined_X2_wholeFrom rfl rfl rfl (by decide +kernel) ⟨Nat.le_of_ble_eq_true rfl, Nat.le_of_ble_eq_true rfl⟩) (k_preRV hk hP [1, 2, 3, 4, 5, 6, 7, 8] rfl (ci := 2) (q0 := 0) rfl rfl) rfl rfl hl.1 rfl (lv_room (Nat.le_of_ble_eq_true rfl)) dX0_freeNodesIfJoined_42 ⟨by first | exact Nat.zero_le _ | omega, by first | exact Nat.zero_le _ | omega⟩) ?_
        refine n_top _ (nI (nz nu qz)) (by rw [hq2]) ?_
        refine lv_istore_n (lv' := [(2, .int (nI (nz nu qz))), (1, .int (nI (v + 1))), (0, .ref mh), (3, .int (nI k))]) hx hb dX0_freeNodesIfJoined_45 rfl hl (by decide) rfl (fun ls hl => ?_)
        refine lv_iinc (v := nI (k - 1)) (lv' := [(3, .int (nI (k - 1))), (2, .int (nI (nz nu qz))), (1, .int (nI (v + 1))), (0, .ref mh)]) hx hb dX0_freeNodesIfJoined_46 hl (k := 3) rfl (n_dec (k := 1) (by first | assumption | omega)) (by decide) rfl (fun ls hl => ?_)
        refine lv_goto (tgt := 19) hx hb dX0_freeNodesIfJoined_49 (by decide) ?_
        exact ih (k - 1) qz (v + 1) (aft sp rq q) (by omega) hw2 (by simp at hf; omega) (by have := hrr; simp at hZ; omega) (by rw [← hZ, List.length_cons]; omega) ls (lv_sub hl [3, 2, 1, 0] rfl)

set_option maxHeartbeats 4000000 in
set_option maxRecDepth 100000 in
theorem c_X0_freeNodesIfJoined (l : Launch) (g : va_G) (cI cJ cZ : ClassId) (mh kr kq fq bq gq : Nat) (rcv ncl bl rd hd jn sn : Nat) (fo : Nat → Nat) (h q1 q2 q3 q4 q5 q6 q7 n : Nat) (pa ch kd ad ra su un : Nat → Nat) (mk sv : Nat) (top : Nat) (S L R : Nat → Nat) (rc : Nat → Bool) (sp : Nat → Bool) (rq nu : Nat → Nat) (hn : n < 2 ^ 25) (hR : RuleOK S L R rc top) (hI : wI top S L R sp rq nu ([]) n mk sv pa ch kd ad ra su un fo bl rd hd) : kR l g (kty cI cJ cZ) yX0_freeNodesIfJoined wsX0_freeNodesIfJoined ({ frames := 2, cells := 0, slots := 0, locals := 46 }) [.ref mh] [(mh, .inr (0, [.ref kr, .ref h, .ref kq, .ref fq, .ref bq, .ref gq, .int (nI rcv), .int (nI ncl), .int (nI bl), .int (nI rd), .int (nI hd), .int (nI jn), .int (nI sn)])), (h, .inr (2, [.ref q1, .ref q2, .ref q3, .ref q4, .ref q5, .ref q6, .ref q7, .int (nI mk), .int (nI sv)])), (q1, .inl (cI, n, .inl (fun j => nI (pa j)))), (q2, .inl (cI, n, .inl (fun j => nI (ch j)))), (q3, .inl (cI, n, .inl (fun j => nI (kd j)))), (q4, .inl (cI, n, .inl (fun j => nI (ad j)))), (q5, .inl (cI, n, .inl (fun j => nI (ra j)))), (q6, .inl (cI, n, .inl (fun j => nI (su j)))), (q7, .inl (cI, n, .inl (fun j => nI (un j))))] (nI ((wl sp rq 1).length)) := by
  refine Met.ofW (cc := cX0_freeNodesIfJoined) (maxL := 4) (ret := (some .int)) (by decide) rfl ?_
  intro p e s m args below meth c s₁ B hml hv
  obtain ⟨rfl, hP, hk⟩ := hv
  have hx := B.exec
  have hb := B.bytes
  have hr := B.returns
  have hts := atoms_spec (ws := wsX0_freeNodesIfJoined) B.pre
  have hown : s.vm.findClass RX0 = some m.cls := findClass_of_methodNamed B.named
  have hlocks := B.notSynchronized
  have hK := hk.1
  have hinX0 : ∀ w ∈ wsX00, w ∈ wsX0_freeNodesIfJoined := by decide +kernel
  have hl := lv_entry ([.ref mh]) (n := 4) (Nat.le_of_ble_eq_true rfl)
  rw [lg_entry_eq]
  generalize (lg_sl ([.ref mh]) ++ List.replicate (4 - (lg_sl ([.ref mh])).length) Slot.unset).toArray = ls at hl ⊢
  have hl : lv_has ls 4 [(0, .ref mh)] := hl
  obtain ⟨a1, a2, a3, a4, a5, a6, a7, a8, -⟩ := hI.1.2.2.2.2.1
  have hn31 : n < 2 ^ 31 := by omega
  have hml9 := mk_len hI
  have hgd := gdp_ok hR hI
  refine lv_iconst (v := nI 0) hx hb dX0_freeNodesIfJoined_0 (by decide) ?_
  refine lv_istore_n (lv' := [(1, .int (nI 0)), (0, .ref mh)]) hx hb dX0_freeNodesIfJoined_1 rfl hl (by decide) rfl (fun ls hl => ?_)
  refine lv_aload_n hx hb dX0_freeNodesIfJoined_2 rfl (lv_at hl 1 rfl) ?_
  refine va_get (D := g) (ci := 0) (v := .ref h) (C := RX0) (T := TX0) (N := 13) hx hb hts hinX0 hown hK hP 0 rfl rfl 1 (by decide) (hts (.fieldLink RX0 21 "BuddyRoof$Memory" "tree" "LBuddyRoof$Tree;") (by decide +kernel)) (fun _ h9 => h9) rfl dX0_freeNodesIfJoined_3 ?_
  refine lv_iconst (v := nI 1) hx hb dX0_freeNodesIfJoined_6 (by decide) ?_
  obtain ⟨q, hq1, hw1⟩ := fWho_1 hR hI
  refine k_goR (W.runV (As := [.int (nI 1)]) (rest := []) ⟨hx, hb, hml, hown, hts⟩ (c_X2_wholeFrom l g cI cJ cZ h q1 q2 q3 q4 q5 q6 q7 n pa ch kd ad ra su un mk sv 1 (gdp sp nu) hn31 (by omega) a1 (fun i => Nat.lt_trans (Nat.lt_of_succ_lt (a2 i)) hn31) hgd.1 hgd.2.1 hgd.2.2 ⟨1, by rw [nz_s (by decide), hI.1.2.1.1], fun _ => ex_1⟩) (cwV 1 hts gX0_freeNodesIfJoined_X2_wholeFrom rfl rfl rfl (by decide +kernel) ⟨Nat.le_of_ble_eq_true rfl, Nat.le_of_ble_eq_true rfl⟩) (k_preRV hk hP [1, 2, 3, 4, 5, 6, 7, 8] rfl (ci := 2) (q0 := 0) rfl rfl) rfl rfl hl.1 rfl (lv_room (Nat.le_of_ble_eq_true rfl)) dX0_freeNodesIfJoined_7 ⟨by first | exact Nat.zero_le _ | omega, by first | exact Nat.zero_le _ | omega⟩) ?_
  refine n_top _ (nI (nz nu q)) (by rw [hq1]) ?_
  refine lv_istore_n (lv' := [(2, .int (nI (nz nu q))), (1, .int (nI 0)), (0, .ref mh)]) hx hb dX0_freeNodesIfJoined_10 rfl hl (by decide) rfl (fun ls hl => ?_)
  refine lv_aload_n hx hb dX0_freeNodesIfJoined_11 rfl (lv_at hl 2 rfl) ?_
  refine va_get (D := g) (ci := 0) (v := .ref h) (C := RX0) (T := TX0) (N := 13) hx hb hts hinX0 hown hK hP 0 rfl rfl 1 (by decide) (hts (.fieldLink RX0 21 "BuddyRoof$Memory" "tree" "LBuddyRoof$Tree;") (by decide +kernel)) (fun _ h9 => h9) rfl dX0_freeNodesIfJoined_12 ?_
  refine k_goR (W.runV (As := []) (rest := []) ⟨hx, hb, hml, hown, hts⟩ (c_X2_made l g cI cJ cZ h q1 q2 q3 q4 q5 q6 q7 n pa ch kd ad ra su un mk sv  ) (cwV 0 hts gX0_freeNodesIfJoined_X2_made rfl rfl rfl (by decide +kernel) ⟨Nat.le_of_ble_eq_true rfl, Nat.le_of_ble_eq_true rfl⟩) (k_preRV hk hP [1, 2, 3, 4, 5, 6, 7, 8] rfl (ci := 2) (q0 := 0) rfl rfl) rfl rfl hl.1 rfl (lv_room (Nat.le_of_ble_eq_true rfl)) dX0_freeNodesIfJoined_15 ⟨by first | exact Nat.zero_le _ | omega, by first | exact Nat.zero_le _ | omega⟩) ?_
  refine lv_istore_n (lv' := [(3, .int (nI mk)), (2, .int (nI (nz nu q))), (1, .int (nI 0)), (0, .ref mh)]) hx hb dX0_freeNodesIfJoined_18 rfl hl (by decide) rfl (fun ls hl => ?_)
  refine lp_X0_freeNodesIfJoined_19 l g cI cJ cZ mh kr kq fq bq gq rcv ncl bl rd hd jn sn fo h q1 q2 q3 q4 q5 q6 q7 n pa ch kd ad ra su un mk sv top S L R rc sp rq nu hn hR hI ((wl sp rq 1).length) (by have := wl_len (rq := rq) hR hI.1.1 1 ex_1; have := wI_len hR hI; omega) ⟨hx, hb, hr, hml, hown, hts, hlocks⟩ hk hP (fun v hZ ls hl => ?_) _ mk q 0 (wl sp rq 1) (Nat.lt_succ_self _) hw1 (⟨by have := wl_len (rq := rq) hR hI.1.1 1 ex_1; omega, Nat.le_refl _⟩) (by decide) (Nat.zero_add _) ls (lv_sub hl [3, 2, 1, 0] rfl)
  · skip
    refine lv_iload_n hx hb dX0_freeNodesIfJoined_52 rfl (lv_at hl 0 rfl) ?_
    exact k_retR (v := nI v) hx hb hr hlocks (by rw [hZ]) dX0_freeNodesIfJoined_53
set_option maxHeartbeats 4000000 in
set_option maxRecDepth 100000 in
theorem lp_X0_greatestIfJoined_19 {p : Program} {e : Env} {s : State} {m : MethodId} {args : Array Value} {below : List Frame} {meth : Method} {c : Code} {Q : State → Prop} (l : Launch) (g : va_G) (cI cJ cZ : ClassId) (mh kr kq fq bq gq : Nat) (rcv ncl bl rd hd jn sn : Nat) (fo : Nat → Nat) (r1 r2 r3 r4 : Nat) (sz lf rt tr : Nat → Int32) (h q1 q2 q3 q4 q5 q6 q7 n : Nat) (pa ch kd ad ra su un : Nat → Nat) (mk sv : Nat) (top : Nat) (S L R : Nat → Nat) (rc : Nat → Bool) (sp : Nat → Bool) (rq nu : Nat → Nat) (hn : n < 2 ^ 25) (hR : RuleOK S L R rc top) (hrl : rOK S L R rc sz lf rt) (hI : wI top S L R sp rq nu ([]) n mk sv pa ch kd ad ra su un fo bl rd hd) (rr : Nat) (C0 : cM p s m args meth c cX0_greatestIfJoined 4 (some .int) wsX0_greatestIfJoined RX0) (hk : kK g (kty cI cJ cZ) s) {H : Heap} {locs : List Loc} (hP : va_P g vwCl [(mh, .inr (0, [.ref kr, .ref h, .ref kq, .ref fq, .ref bq, .ref gq, .int (nI rcv), .int (nI ncl), .int (nI bl), .int (nI rd), .int (nI hd), .int (nI jn), .int (nI sn)])), (kr, .inr (1, [.ref r1, .ref r2, .ref r3, .ref r4])), (r1, .inl (cI, 25, .inl sz)), (r2, .inl (cI, 25, .inl lf)), (r3, .inl (cI, 25, .inl rt)), (r4, .inl (cI, 25, .inl tr)), (h, .inr (2, [.ref q1, .ref q2, .ref q3, .ref q4, .ref q5, .ref q6, .ref q7, .int (nI mk), .int (nI sv)])), (q1, .inl (cI, n, .inl (fun j => nI (pa j)))), (q2, .inl (cI, n, .inl (fun j => nI (ch j)))), (q3, .inl (cI, n, .inl (fun j => nI (kd j)))), (q4, .inl (cI, n, .inl (fun j => nI (ad j)))), (q5, .inl (cI, n, .inl (fun j => nI (ra j)))), (q6, .inl (cI, n, .inl (fun j => nI (su j)))), (q7, .inl (cI, n, .inl (fun j => nI (un j))))] H) (kk0 : ∀ (v : Nat), (v = rr) → ∀ (ls : Array Slot), lv_has ls 4 [(1, .int (nI v))] → W p l e (headSpec wsX0_greatestIfJoined ({ frames := 2, cells := 0, slots := 0, locals := 64 })).room s m args below meth c H locs 0 0 Q (F0 m 59 ls [])) :
    ∀ (K : Nat) (k q v : Nat) (lst : List Nat), k < K → (wat sp rq q lst) → (lst.length ≤ k ∧ k ≤ mk) → (v < 2 ^ 30) → (lst.foldl (fun g q => max g (S (cls top L R q))) v = rr) → ∀ (ls : Array Slot), lv_has ls 4 [(0, .ref mh), (1, .int (nI v)), (2, .int (nI (nz nu q))), (3, .int (nI k))] → W p l e (headSpec wsX0_greatestIfJoined ({ frames := 2, cells := 0, slots := 0, locals := 64 })).room s m args below meth c H locs 0 0 Q (F0 m 19 ls []) := by
  obtain ⟨hx, hb, hr, hml, hown, hts, hlocks⟩ := C0
  have hK := hk.1
  have hinX0 : ∀ w ∈ wsX00, w ∈ wsX0_greatestIfJoined := by decide +kernel
  intro K
  induction K with
  | zero =>
    intro k q v lst h0
    exact absurd h0 (Nat.not_lt_zero _)
  | succ K ih =>
    intro k q v lst hmu hW hf hv hZ ls hl
    obtain ⟨a1, a2, a3, a4, a5, a6, a7, a8, -⟩ := hI.1.2.2.2.2.1
    have hn31 : n < 2 ^ 31 := by omega
    have hml9 := mk_len hI
    have hgd := gdp_ok hR hI
    have hnz := nz_lt hI (wat_gd hW)
    refine lv_iload_n hx hb dX0_greatestIfJoined_19 rfl (lv_at hl 3 rfl) ?_
    refine n_if_le (tgt := 59) hx hb dX0_greatestIfJoined_20 (by decide) (by first | assumption | omega) (fun c3 => ?_) (fun c3 => ?_)
    · skip
      have hl0 : lst = [] := List.eq_nil_of_length_eq_zero (by omega)
      exact kk0 v (by rw [hl0] at hZ; exact hZ) ls (lv_sub hl [1] rfl)
    · skip
      refine lv_iload_n hx hb dX0_greatestIfJoined_23 rfl (lv_at hl 2 rfl) ?_
      refine n_if_eq (tgt := 59) hx hb dX0_greatestIfJoined_24 (by decide) (by exact Nat.lt_trans hnz hn31) (fun c4 => ?_) (fun c4 => ?_)
      · skip
        have hl0 : lst = [] := by
          rcases hW with hW | hW
          · exact hW.2
          · have h9 := nz_0 hI (fun _ => hW.1) (by omega)
            have := ex_pos hW.1
            omega
        exact kk0 v (by rw [hl0] at hZ; exact hZ) ls (lv_sub hl [1] rfl)
      · skip
        have hq0 : q ≠ 0 := nz_ne (nu := nu) (by omega)
        rw [nz_s hq0] at hl
        have hqx := wat_gd hW hq0
        have hqn := tI_lt hI.1 hqx
        obtain ⟨hqb, hql⟩ : lvb sp rq q = false ∧ lst = q :: aft sp rq q := by
          rcases hW with hW | hW
          · exact absurd hW.1 hq0
          · exact hW.2
        subst hql
        refine lv_iload_n hx hb dX0_greatestIfJoined_27 rfl (lv_at hl 1 rfl) ?_
        refine lv_aload_n hx hb dX0_greatestIfJoined_28 rfl (lv_at hl 0 rfl) ?_
        refine lv_iload_n hx hb dX0_greatestIfJoined_29 rfl (lv_at hl 2 rfl) ?_
        refine k_goR (W.runV (As := [.int (nI (nu q))]) (rest := [.int (nI v)]) ⟨hx, hb, hml, hown, hts⟩ (c_X0_sizeOf l g cI cJ cZ mh kr kq fq bq gq rcv ncl bl rd hd jn sn fo r1 r2 r3 r4 sz lf rt tr h q1 q2 q3 q4 q5 q6 q7 n pa ch kd ad ra su un mk sv (nu q) (S (cls top L R q)) hn31 hqn.2 a4 (by rw [(hI.1.2.1.2.1 q hqx).2.2.1]; exact (rl_kids hR hrl (cls_rc hR hI.1.1 q hqx)).1)) (cwV 1 hts gX0_greatestIfJoined_X0_sizeOf rfl rfl rfl (by decide +kernel) ⟨Nat.le_of_ble_eq_true rfl, Nat.le_of_ble_eq_true rfl⟩) (k_preRV hk hP [0, 1, 2, 3, 4, 5, 6, 7, 8, 9, 10, 11, 12, 13] rfl (ci := 0) (q0 := 0) rfl rfl) rfl rfl hl.1 rfl (lv_room (Nat.le_of_ble_eq_true rfl)) dX0_greatestIfJoined_30 ⟨by first | exact Nat.zero_le _ | omega, by first | exact Nat.zero_le _ | omega⟩) ?_
        refine va_mmax hx hb (hml.trans hl.1.symm) hown (hts (.methodLink RX0 123 Lib.Math.max.name) (by decide +kernel)) (hts (.static Lib.Math.max.name) (by decide +kernel)) (hts (.initialized "java/lang/Math") (by decide +kernel)) (hts (.code Lib.Math.max.name Lib.Math.max.code 2 (some .int)) (by decide +kernel)) (Nat.le_of_ble_eq_true rfl) (Nat.le_of_ble_eq_true rfl) (Nat.le_of_ble_eq_true rfl) (Nat.le_of_ble_eq_true rfl) dX0_greatestIfJoined_33 ?_
        refine n_top _ (nI (max v (S (cls top L R q)))) (n_max (by omega) (by have := (S_pos hR hI.1.1 hqx).2.1; omega)) ?_
        refine lv_istore_n (lv' := [(1, .int (nI (max v (S (cls top L R q))))), (0, .ref mh), (2, .int (nI (nu q))), (3, .int (nI k))]) hx hb dX0_greatestIfJoined_36 rfl hl (by decide) rfl (fun ls hl => ?_)
        refine lv_aload_n hx hb dX0_greatestIfJoined_37 rfl (lv_at hl 1 rfl) ?_
        refine va_get (D := g) (ci := 0) (v := .ref h) (C := RX0) (T := TX0) (N := 13) hx hb hts hinX0 hown hK hP 0 rfl rfl 1 (by decide) (hts (.fieldLink RX0 21 "BuddyRoof$Memory" "tree" "LBuddyRoof$Tree;") (by decide +kernel)) (fun _ h9 => h9) rfl dX0_greatestIfJoined_38 ?_
        refine lv_aload_n hx hb dX0_greatestIfJoined_41 rfl (lv_at hl 1 rfl) ?_
        refine va_get (D := g) (ci := 0) (v := .ref h) (C := RX0) (T := TX0) (N := 13) hx hb hts hinX0 hown hK hP 0 rfl rfl 1 (by decide) (hts (.fieldLink RX0 21 "BuddyRoof$Memory" "tree" "LBuddyRoof$Tree;") (by decide +kernel)) (fun _ h9 => h9) rfl dX0_greatestIfJoined_42 ?_
        refine lv_iload_n hx hb dX0_greatestIfJoined_45 rfl (lv_at hl 2 rfl) ?_
        refine k_goR (W.runV (As := [.int (nI (nu q))]) (rest := [.ref h]) ⟨hx, hb, hml, hown, hts⟩ (c_X2_behind l g cI cJ cZ h q1 q2 q3 q4 q5 q6 q7 n pa ch kd ad ra su un mk sv (nu q) hn31 hqn.2 a1) (cwV 1 hts gX0_greatestIfJoined_X2_behind rfl rfl rfl (by decide +kernel) ⟨Nat.le_of_ble_eq_true rfl, Nat.le_of_ble_eq_true rfl⟩) (k_preRV hk hP [6, 7, 8, 9, 10, 11, 12, 13] rfl (ci := 2) (q0 := 0) rfl rfl) rfl rfl hl.1 rfl (lv_room (Nat.le_of_ble_eq_true rfl)) dX0_greatestIfJoined_46 ⟨by first | exact Nat.zero_le _ | omega, by first | exact Nat.zero_le _ | omega⟩) ?_
        obtain ⟨qz, hq2, hw2⟩ := fWho_b hR hI hqx
        refine k_goR (W.runV (As := [.int (nI (fBeh pa (nu q)))]) (rest := []) ⟨hx, hb, hml, hown, hts⟩ (c_X2_wholeFrom l g cI cJ cZ h q1 q2 q3 q4 q5 q6 q7 n pa ch kd ad ra su un mk sv (fBeh pa (nu q)) (gdp sp nu) hn31 (by omega) a1 (fun i => Nat.lt_trans (Nat.lt_of_succ_lt (a2 i)) hn31) hgd.1 hgd.2.1 hgd.2.2 (hgd.2.2 _ ⟨q, (nz_s (by omega)).symm, fun _ => hqx⟩ hqn.1)) (cwV 1 hts gX0_greatestIfJoined_X2_wholeFrom rfl rfl rfl (by decide +kernel) ⟨Nat.le_of_ble_eq_true rfl, Nat.le_of_ble_eq_true rfl⟩) (k_preRV hk hP [6, 7, 8, 9, 10, 11, 12, 13] rfl (ci := 2) (q0 := 0) rfl rfl) rfl rfl hl.1 rfl (lv_room (Nat.le_of_ble_eq_true rfl)) dX0_greatestIfJoined_49 ⟨by first | exact Nat.zero_le _ | omega, by first | exact Nat.zero_le _ | omega⟩) ?_
        refine n_top _ (nI (nz nu qz)) (by rw [hq2]) ?_
        refine lv_istore_n (lv' := [(2, .int (nI (nz nu qz))), (1, .int (nI (max v (S (cls top L R q))))), (0, .ref mh), (3, .int (nI k))]) hx hb dX0_greatestIfJoined_52 rfl hl (by decide) rfl (fun ls hl => ?_)
        refine lv_iinc (v := nI (k - 1)) (lv' := [(3, .int (nI (k - 1))), (2, .int (nI (nz nu qz))), (1, .int (nI (max v (S (cls top L R q))))), (0, .ref mh)]) hx hb dX0_greatestIfJoined_53 hl (k := 3) rfl (n_dec (k := 1) (by first | assumption | omega)) (by decide) rfl (fun ls hl => ?_)
        refine lv_goto (tgt := 19) hx hb dX0_greatestIfJoined_56 (by decide) ?_
        exact ih (k - 1) qz (max v (S (cls top L R q))) (aft sp rq q) (by omega) hw2 (by simp at hf; omega) (by have := (S_pos hR hI.1.1 hqx).2.1; omega) hZ ls (lv_sub hl [3, 2, 1, 0] rfl)

set_option maxHeartbeats 4000000 in
set_option maxRecDepth 100000 in
theorem c_X0_greatestIfJoined (l : Launch) (g : va_G) (cI cJ cZ : ClassId) (mh kr kq fq bq gq : Nat) (rcv ncl bl rd hd jn sn : Nat) (fo : Nat → Nat) (r1 r2 r3 r4 : Nat) (sz lf rt tr : Nat → Int32) (h q1 q2 q3 q4 q5 q6 q7 n : Nat) (pa ch kd ad ra su un : Nat → Nat) (mk sv : Nat) (top : Nat) (S L R : Nat → Nat) (rc : Nat → Bool) (sp : Nat → Bool) (rq nu : Nat → Nat) (hn : n < 2 ^ 25) (hR : RuleOK S L R rc top) (hrl : rOK S L R rc sz lf rt) (hI : wI top S L R sp rq nu ([]) n mk sv pa ch kd ad ra su un fo bl rd hd) : kR l g (kty cI cJ cZ) yX0_greatestIfJoined wsX0_greatestIfJoined ({ frames := 2, cells := 0, slots := 0, locals := 64 }) [.ref mh] [(mh, .inr (0, [.ref kr, .ref h, .ref kq, .ref fq, .ref bq, .ref gq, .int (nI rcv), .int (nI ncl), .int (nI bl), .int (nI rd), .int (nI hd), .int (nI jn), .int (nI sn)])), (kr, .inr (1, [.ref r1, .ref r2, .ref r3, .ref r4])), (r1, .inl (cI, 25, .inl sz)), (r2, .inl (cI, 25, .inl lf)), (r3, .inl (cI, 25, .inl rt)), (r4, .inl (cI, 25, .inl tr)), (h, .inr (2, [.ref q1, .ref q2, .ref q3, .ref q4, .ref q5, .ref q6, .ref q7, .int (nI mk), .int (nI sv)])), (q1, .inl (cI, n, .inl (fun j => nI (pa j)))), (q2, .inl (cI, n, .inl (fun j => nI (ch j)))), (q3, .inl (cI, n, .inl (fun j => nI (kd j)))), (q4, .inl (cI, n, .inl (fun j => nI (ad j)))), (q5, .inl (cI, n, .inl (fun j => nI (ra j)))), (q6, .inl (cI, n, .inl (fun j => nI (su j)))), (q7, .inl (cI, n, .inl (fun j => nI (un j))))] (nI ((wl sp rq 1).foldl (fun g q => max g (S (cls top L R q))) 0)) := by
  refine Met.ofW (cc := cX0_greatestIfJoined) (maxL := 4) (ret := (some .int)) (by decide) rfl ?_
  intro p e s m args below meth c s₁ B hml hv
  obtain ⟨rfl, hP, hk⟩ := hv
  have hx := B.exec
  have hb := B.bytes
  have hr := B.returns
  have hts := atoms_spec (ws := wsX0_greatestIfJoined) B.pre
  have hown : s.vm.findClass RX0 = some m.cls := findClass_of_methodNamed B.named
  have hlocks := B.notSynchronized
  have hK := hk.1
  have hinX0 : ∀ w ∈ wsX00, w ∈ wsX0_greatestIfJoined := by decide +kernel
  have hl := lv_entry ([.ref mh]) (n := 4) (Nat.le_of_ble_eq_true rfl)
  rw [lg_entry_eq]
  generalize (lg_sl ([.ref mh]) ++ List.replicate (4 - (lg_sl ([.ref mh])).length) Slot.unset).toArray = ls at hl ⊢
  have hl : lv_has ls 4 [(0, .ref mh)] := hl
  obtain ⟨a1, a2, a3, a4, a5, a6, a7, a8, -⟩ := hI.1.2.2.2.2.1
  have hn31 : n < 2 ^ 31 := by omega
  have hml9 := mk_len hI
  have hgd := gdp_ok hR hI
  refine lv_iconst (v := nI 0) hx hb dX0_greatestIfJoined_0 (by decide) ?_
  refine lv_istore_n (lv' := [(1, .int (nI 0)), (0, .ref mh)]) hx hb dX0_greatestIfJoined_1 rfl hl (by decide) rfl (fun ls hl => ?_)
  refine lv_aload_n hx hb dX0_greatestIfJoined_2 rfl (lv_at hl 1 rfl) ?_
  refine va_get (D := g) (ci := 0) (v := .ref h) (C := RX0) (T := TX0) (N := 13) hx hb hts hinX0 hown hK hP 0 rfl rfl 1 (by decide) (hts (.fieldLink RX0 21 "BuddyRoof$Memory" "tree" "LBuddyRoof$Tree;") (by decide +kernel)) (fun _ h9 => h9) rfl dX0_greatestIfJoined_3 ?_
  refine lv_iconst (v := nI 1) hx hb dX0_greatestIfJoined_6 (by decide) ?_
  obtain ⟨q, hq1, hw1⟩ := fWho_1 hR hI
  refine k_goR (W.runV (As := [.int (nI 1)]) (rest := []) ⟨hx, hb, hml, hown, hts⟩ (c_X2_wholeFrom l g cI cJ cZ h q1 q2 q3 q4 q5 q6 q7 n pa ch kd ad ra su un mk sv 1 (gdp sp nu) hn31 (by omega) a1 (fun i => Nat.lt_trans (Nat.lt_of_succ_lt (a2 i)) hn31) hgd.1 hgd.2.1 hgd.2.2 ⟨1, by rw [nz_s (by decide), hI.1.2.1.1], fun _ => ex_1⟩) (cwV 1 hts gX0_greatestIfJoined_X2_wholeFrom rfl rfl rfl (by decide +kernel) ⟨Nat.le_of_ble_eq_true rfl, Nat.le_of_ble_eq_true rfl⟩) (k_preRV hk hP [6, 7, 8, 9, 10, 11, 12, 13] rfl (ci := 2) (q0 := 0) rfl rfl) rfl rfl hl.1 rfl (lv_room (Nat.le_of_ble_eq_true rfl)) dX0_greatestIfJoined_7 ⟨by first | exact Nat.zero_le _ | omega, by first | exact Nat.zero_le _ | omega⟩) ?_
  refine n_top _ (nI (nz nu q)) (by rw [hq1]) ?_
  refine lv_istore_n (lv' := [(2, .int (nI (nz nu q))), (1, .int (nI 0)), (0, .ref mh)]) hx hb dX0_greatestIfJoined_10 rfl hl (by decide) rfl (fun ls hl => ?_)
  refine lv_aload_n hx hb dX0_greatestIfJoined_11 rfl (lv_at hl 2 rfl) ?_
  refine va_get (D := g) (ci := 0) (v := .ref h) (C := RX0) (T := TX0) (N := 13) hx hb hts hinX0 hown hK hP 0 rfl rfl 1 (by decide) (hts (.fieldLink RX0 21 "BuddyRoof$Memory" "tree" "LBuddyRoof$Tree;") (by decide +kernel)) (fun _ h9 => h9) rfl dX0_greatestIfJoined_12 ?_
  refine k_goR (W.runV (As := []) (rest := []) ⟨hx, hb, hml, hown, hts⟩ (c_X2_made l g cI cJ cZ h q1 q2 q3 q4 q5 q6 q7 n pa ch kd ad ra su un mk sv  ) (cwV 0 hts gX0_greatestIfJoined_X2_made rfl rfl rfl (by decide +kernel) ⟨Nat.le_of_ble_eq_true rfl, Nat.le_of_ble_eq_true rfl⟩) (k_preRV hk hP [6, 7, 8, 9, 10, 11, 12, 13] rfl (ci := 2) (q0 := 0) rfl rfl) rfl rfl hl.1 rfl (lv_room (Nat.le_of_ble_eq_true rfl)) dX0_greatestIfJoined_15 ⟨by first | exact Nat.zero_le _ | omega, by first | exact Nat.zero_le _ | omega⟩) ?_
  refine lv_istore_n (lv' := [(3, .int (nI mk)), (2, .int (nI (nz nu q))), (1, .int (nI 0)), (0, .ref mh)]) hx hb dX0_greatestIfJoined_18 rfl hl (by decide) rfl (fun ls hl => ?_)
  refine lp_X0_greatestIfJoined_19 l g cI cJ cZ mh kr kq fq bq gq rcv ncl bl rd hd jn sn fo r1 r2 r3 r4 sz lf rt tr h q1 q2 q3 q4 q5 q6 q7 n pa ch kd ad ra su un mk sv top S L R rc sp rq nu hn hR hrl hI ((wl sp rq 1).foldl (fun g q => max g (S (cls top L R q))) 0) ⟨hx, hb, hr, hml, hown, hts, hlocks⟩ hk hP (fun v hZ ls hl => ?_) _ mk q 0 (wl sp rq 1) (Nat.lt_succ_self _) hw1 (⟨by have := wl_len (rq := rq) hR hI.1.1 1 ex_1; omega, Nat.le_refl _⟩) (by decide) rfl ls (lv_sub hl [3, 2, 1, 0] rfl)
  · skip
    refine lv_iload_n hx hb dX0_greatestIfJoined_59 rfl (lv_at hl 0 rfl) ?_
    exact k_retR (v := nI v) hx hb hr hlocks (by rw [hZ]) dX0_greatestIfJoined_60
set_option maxHeartbeats 4000000 in
set_option maxRecDepth 100000 in
theorem lp_X0_fillShares_2 {p : Program} {e : Env} {s : State} {m : MethodId} {args : Array Value} {below : List Frame} {meth : Method} {c : Code} {Q : State → Prop} (l : Launch) (g : va_G) (cI cJ cZ : ClassId) (h mh kr kq fq bq gq : Nat) (rcv ncl bl rd hd jn sn : Nat) (fo : Nat → Nat) (bs gs0 : Nat → Nat) (r1 r2 r3 r4 : Nat) (sz lf rt tr : Nat → Int32) (top : Nat) (S L R : Nat → Nat) (rc : Nat → Bool) (w : Nat) (hR : RuleOK S L R rc top) (hrl : rOK S L R rc sz lf rt) (hbo : bOK S rc ncl bs) (hw1 : 1 ≤ w) (hw : w < 2 ^ 31) (hgs0 : gs0 0 = 0)  (C0 : cM p s m args meth c cX0_fillShares 4 none wsX0_fillShares RX0) (hk : kK g (kty cI cJ cZ) s) {A : Nat → Prop} {H0 : Heap} (hA : ∀ q : Nat, H0.size ≤ q → A q) (kk0 : ∀ (gs : Nat → Nat), (shI S L R w bs ncl gs) → ∀ (H : Heap) (locs : List Loc), va_P g vwCl [(mh, .inr (0, [.ref kr, .ref h, .ref kq, .ref fq, .ref bq, .ref gq, .int (nI rcv), .int (nI ncl), .int (nI bl), .int (nI rd), .int (nI hd), .int (nI jn), .int (nI sn)])), (bq, .inl (cI, 24, .inl (fun j => nI (bs j)))), (gq, .inl (cI, 25, .inl (fun j => nI (gs j)))), (kr, .inr (1, [.ref r1, .ref r2, .ref r3, .ref r4])), (r1, .inl (cI, 25, .inl sz)), (r2, .inl (cI, 25, .inl lf)), (r3, .inl (cI, 25, .inl rt)), (r4, .inl (cI, 25, .inl tr))] H → va_D A [(mh, .inr (0, [.ref kr, .ref h, .ref kq, .ref fq, .ref bq, .ref gq, .int (nI rcv), .int (nI ncl), .int (nI bl), .int (nI rd), .int (nI hd), .int (nI jn), .int (nI sn)])), (bq, .inl (cI, 24, .inl (fun j => nI (bs j)))), (gq, .inl (cI, 25, .inl (fun j => nI (gs j)))), (kr, .inr (1, [.ref r1, .ref r2, .ref r3, .ref r4])), (r1, .inl (cI, 25, .inl sz)), (r2, .inl (cI, 25, .inl lf)), (r3, .inl (cI, 25, .inl rt)), (r4, .inl (cI, 25, .inl tr))] → va_S A H0 H locs → ∀ (ls : Array Slot), lv_has ls 4 [] → W p l e (headSpec wsX0_fillShares ({ frames := 1, cells := 0, slots := 0, locals := 64 })).room s m args below meth c H locs 0 0 Q (F0 m 79 ls [])) :
    ∀ (K : Nat) (k i : Nat) (gs : Nat → Nat), k < K → (i + k = ncl) → (shI S L R w bs i gs) → ∀ (H : Heap) (locs : List Loc), va_P g vwCl [(mh, .inr (0, [.ref kr, .ref h, .ref kq, .ref fq, .ref bq, .ref gq, .int (nI rcv), .int (nI ncl), .int (nI bl), .int (nI rd), .int (nI hd), .int (nI jn), .int (nI sn)])), (bq, .inl (cI, 24, .inl (fun j => nI (bs j)))), (gq, .inl (cI, 25, .inl (fun j => nI (gs j)))), (kr, .inr (1, [.ref r1, .ref r2, .ref r3, .ref r4])), (r1, .inl (cI, 25, .inl sz)), (r2, .inl (cI, 25, .inl lf)), (r3, .inl (cI, 25, .inl rt)), (r4, .inl (cI, 25, .inl tr))] H → va_D A [(mh, .inr (0, [.ref kr, .ref h, .ref kq, .ref fq, .ref bq, .ref gq, .int (nI rcv), .int (nI ncl), .int (nI bl), .int (nI rd), .int (nI hd), .int (nI jn), .int (nI sn)])), (bq, .inl (cI, 24, .inl (fun j => nI (bs j)))), (gq, .inl (cI, 25, .inl (fun j => nI (gs j)))), (kr, .inr (1, [.ref r1, .ref r2, .ref r3, .ref r4])), (r1, .inl (cI, 25, .inl sz)), (r2, .inl (cI, 25, .inl lf)), (r3, .inl (cI, 25, .inl rt)), (r4, .inl (cI, 25, .inl tr))] → va_S A H0 H locs →∀ (ls : Array Slot), lv_has ls 4 [(0, .ref mh), (1, .int (nI w)), (2, .int (nI i))] → W p l e (headSpec wsX0_fillShares ({ frames := 1, cells := 0, slots := 0, locals := 64 })).room s m args below meth c H locs 0 0 Q (F0 m 2 ls []) := by
  obtain ⟨hx, hb, hr, hml, hown, hts, hlocks⟩ := C0
  have hK := hk.1
  have hinX0 : ∀ w ∈ wsX00, w ∈ wsX0_fillShares := by decide +kernel
  have hinX1 : ∀ w ∈ wsX10, w ∈ wsX0_fillShares := by decide +kernel
  intro K
  induction K with
  | zero =>
    intro k i gs h0
    exact absurd h0 (Nat.not_lt_zero _)
  | succ K ih =>
    intro k i gs hmu hf hG H locs hP hD hS ls hl
    have hbo0 := hbo.1
    refine lv_iload_n hx hb dX0_fillShares_2 rfl (lv_at hl 2 rfl) ?_
    refine lv_aload_n hx hb dX0_fillShares_3 rfl (lv_at hl 0 rfl) ?_
    refine va_get (D := g) (ci := 0) (v := .int (nI ncl)) (C := RX0) (T := TX0) (N := 13) hx hb hts hinX0 hown hK hP 0 rfl rfl 7 (by decide) (hts (.fieldLink RX0 42 "BuddyRoof$Memory" "classes" "I") (by decide +kernel)) (fun _ h9 => h9) rfl dX0_fillShares_4 ?_
    refine n_icmp_ge (tgt := 79) hx hb dX0_fillShares_7 (by decide) (by first | assumption | omega) (by first | assumption | omega) (fun c3 => ?_) (fun c3 => ?_)
    · skip
      exact kk0 gs (by rw [show ncl = i by omega]; exact hG) _ _ hP hD hS ls (lv_sub hl [] rfl)
    · skip
      have hrc9 := hbo.2.1 i (by omega)
      have hrk := rl_kids hR hrl hrc9
      have hbi : bs i ≤ 24 := hrk.2.2.2.2.2.2.2.2.2.2
      have hSi : S (bs i) < 2 ^ 31 := hrk.2.2.2.2.2.2.2.2.2.1
      have hsk := shI_kid hR hw1 hbo (by omega) hG
      have hLi : L (bs i) ≤ 24 := hrk.2.2.2.2.2.1
      have hRi : R (bs i) ≤ 24 := hrk.2.2.2.2.2.2.1
      refine lv_aload_n hx hb dX0_fillShares_10 rfl (lv_at hl 0 rfl) ?_
      refine va_get (D := g) (ci := 0) (v := .ref bq) (C := RX0) (T := TX0) (N := 13) hx hb hts hinX0 hown hK hP 0 rfl rfl 4 (by decide) (hts (.fieldLink RX0 32 "BuddyRoof$Memory" "bySize" "[I") (by decide +kernel)) (fun _ h9 => h9) rfl dX0_fillShares_11 ?_
      refine lv_iload_n hx hb dX0_fillShares_14 rfl (lv_at hl 2 rfl) ?_
      refine n_ald (v := nI (bs i)) hx hb hK hP 1 0 rfl rfl (i := i) (by first | assumption | omega) (by decide) rfl dX0_fillShares_15 ?_
      refine lv_istore_n (lv' := [(3, .int (nI (bs i))), (0, .ref mh), (1, .int (nI w)), (2, .int (nI i))]) hx hb dX0_fillShares_16 rfl hl (by decide) rfl (fun ls hl => ?_)
      refine lv_aload_n hx hb dX0_fillShares_17 rfl (lv_at hl 1 rfl) ?_
      refine va_get (D := g) (ci := 0) (v := .ref gq) (C := RX0) (T := TX0) (N := 13) hx hb hts hinX0 hown hK hP 0 rfl rfl 5 (by decide) (hts (.fieldLink RX0 35 "BuddyRoof$Memory" "share" "[I") (by decide +kernel)) (fun _ h9 => h9) rfl dX0_fillShares_18 ?_
      refine lv_iload_n hx hb dX0_fillShares_21 rfl (lv_at hl 0 rfl) ?_
      refine lv_aload_n hx hb dX0_fillShares_22 rfl (lv_at hl 1 rfl) ?_
      refine va_get (D := g) (ci := 0) (v := .ref kr) (C := RX0) (T := TX0) (N := 13) hx hb hts hinX0 hown hK hP 0 rfl rfl 0 (by decide) (hts (.fieldLink RX0 12 "BuddyRoof$Memory" "rule" "LBuddyRoof$Rule;") (by decide +kernel)) (fun _ h9 => h9) rfl dX0_fillShares_23 ?_
      refine va_getN (D := g) (host := "BuddyRoof") (ci := 1) (v := .ref r1) (C := RX1) (T := TX1) (N := 4) hx hb hts hinX1 hown hK hP 3 rfl rfl 0 (by decide) (hk.2.f (h := "BuddyRoof") (by decide +kernel)) (fun _ h9 => h9) rfl dX0_fillShares_26 ?_
      refine lv_iload_n hx hb dX0_fillShares_29 rfl (lv_at hl 0 rfl) ?_
      refine n_ald (v := nI (S (bs i))) hx hb hK hP 4 0 rfl rfl (i := (bs i)) (by first | assumption | omega) (by first | assumption | omega) (by exact hrk.1) dX0_fillShares_30 ?_
      refine lv_iload_n hx hb dX0_fillShares_31 rfl (lv_at hl 2 rfl) ?_
      refine n_icmp_ge (tgt := 39) hx hb dX0_fillShares_32 (by decide) (by first | assumption | omega) (by first | assumption | omega) (fun c4 => ?_) (fun c4 => ?_)
      · skip
        refine lv_iconst (v := nI 1) hx hb dX0_fillShares_39 (by decide) ?_
        refine lv_aload_n hx hb dX0_fillShares_40 rfl (lv_at hl 1 rfl) ?_
        refine va_get (D := g) (ci := 0) (v := .ref gq) (C := RX0) (T := TX0) (N := 13) hx hb hts hinX0 hown hK hP 0 rfl rfl 5 (by decide) (hts (.fieldLink RX0 35 "BuddyRoof$Memory" "share" "[I") (by decide +kernel)) (fun _ h9 => h9) rfl dX0_fillShares_41 ?_
        refine lv_aload_n hx hb dX0_fillShares_44 rfl (lv_at hl 1 rfl) ?_
        refine va_get (D := g) (ci := 0) (v := .ref kr) (C := RX0) (T := TX0) (N := 13) hx hb hts hinX0 hown hK hP 0 rfl rfl 0 (by decide) (hts (.fieldLink RX0 12 "BuddyRoof$Memory" "rule" "LBuddyRoof$Rule;") (by decide +kernel)) (fun _ h9 => h9) rfl dX0_fillShares_45 ?_
        refine va_getN (D := g) (host := "BuddyRoof") (ci := 1) (v := .ref r2) (C := RX1) (T := TX1) (N := 4) hx hb hts hinX1 hown hK hP 3 rfl rfl 1 (by decide) (hk.2.f (h := "BuddyRoof") (by decide +kernel)) (fun _ h9 => h9) rfl dX0_fillShares_48 ?_
        refine lv_iload_n hx hb dX0_fillShares_51 rfl (lv_at hl 0 rfl) ?_
        refine n_ald (v := nI (L (bs i))) hx hb hK hP 5 0 rfl rfl (i := (bs i)) (by first | assumption | omega) (by first | assumption | omega) (by exact hrk.2.1) dX0_fillShares_52 ?_
        refine n_ald (v := nI (yv S L R w (L (bs i)))) hx hb hK hP 2 0 rfl rfl (i := (L (bs i))) (by first | assumption | omega) (by decide) (by rw [hsk.1]) dX0_fillShares_53 ?_
        refine lv_aload_n hx hb dX0_fillShares_54 rfl (lv_at hl 1 rfl) ?_
        refine va_get (D := g) (ci := 0) (v := .ref gq) (C := RX0) (T := TX0) (N := 13) hx hb hts hinX0 hown hK hP 0 rfl rfl 5 (by decide) (hts (.fieldLink RX0 35 "BuddyRoof$Memory" "share" "[I") (by decide +kernel)) (fun _ h9 => h9) rfl dX0_fillShares_55 ?_
        refine lv_aload_n hx hb dX0_fillShares_58 rfl (lv_at hl 1 rfl) ?_
        refine va_get (D := g) (ci := 0) (v := .ref kr) (C := RX0) (T := TX0) (N := 13) hx hb hts hinX0 hown hK hP 0 rfl rfl 0 (by decide) (hts (.fieldLink RX0 12 "BuddyRoof$Memory" "rule" "LBuddyRoof$Rule;") (by decide +kernel)) (fun _ h9 => h9) rfl dX0_fillShares_59 ?_
        refine va_getN (D := g) (host := "BuddyRoof") (ci := 1) (v := .ref r3) (C := RX1) (T := TX1) (N := 4) hx hb hts hinX1 hown hK hP 3 rfl rfl 2 (by decide) (hk.2.f (h := "BuddyRoof") (by decide +kernel)) (fun _ h9 => h9) rfl dX0_fillShares_62 ?_
        refine lv_iload_n hx hb dX0_fillShares_65 rfl (lv_at hl 0 rfl) ?_
        refine n_ald (v := nI (R (bs i))) hx hb hK hP 6 0 rfl rfl (i := (bs i)) (by first | assumption | omega) (by first | assumption | omega) (by exact hrk.2.2.1) dX0_fillShares_66 ?_
        refine n_ald (v := nI (yv S L R w (R (bs i)))) hx hb hK hP 2 0 rfl rfl (i := (R (bs i))) (by first | assumption | omega) (by decide) (by rw [hsk.2.1]) dX0_fillShares_67 ?_
        refine n_iadd hx hb dX0_fillShares_68 ?_
        refine va_mmax hx hb (hml.trans hl.1.symm) hown (hts (.methodLink RX0 123 Lib.Math.max.name) (by decide +kernel)) (hts (.static Lib.Math.max.name) (by decide +kernel)) (hts (.initialized "java/lang/Math") (by decide +kernel)) (hts (.code Lib.Math.max.name Lib.Math.max.code 2 (some .int)) (by decide +kernel)) (Nat.le_of_ble_eq_true rfl) (Nat.le_of_ble_eq_true rfl) (Nat.le_of_ble_eq_true rfl) (Nat.le_of_ble_eq_true rfl) dX0_fillShares_69 ?_
        refine n_top _ (nI (yv S L R w (bs i))) (by rw [n_max (by decide) hsk.2.2, yv_s hR hw1 hrc9, if_neg (by omega)]) ?_
        refine n_ast hx hb hK hP hD hS 2 0 rfl rfl (i := (bs i)) (v := (yv S L R w (bs i))) (by first | assumption | omega) (by decide) dX0_fillShares_72 (fun H locs hP hD hS => ?_)
        have hP : va_P g vwCl [(mh, .inr (0, [.ref kr, .ref h, .ref kq, .ref fq, .ref bq, .ref gq, .int (nI rcv), .int (nI ncl), .int (nI bl), .int (nI rd), .int (nI hd), .int (nI jn), .int (nI sn)])), (bq, .inl (cI, 24, .inl (fun j => nI (bs j)))), (gq, .inl (cI, 25, .inl (fun j => nI ((upN gs (bs i) (yv S L R w (bs i))) j)))), (kr, .inr (1, [.ref r1, .ref r2, .ref r3, .ref r4])), (r1, .inl (cI, 25, .inl sz)), (r2, .inl (cI, 25, .inl lf)), (r3, .inl (cI, 25, .inl rt)), (r4, .inl (cI, 25, .inl tr))] H := hP
        have hD : va_D A [(mh, .inr (0, [.ref kr, .ref h, .ref kq, .ref fq, .ref bq, .ref gq, .int (nI rcv), .int (nI ncl), .int (nI bl), .int (nI rd), .int (nI hd), .int (nI jn), .int (nI sn)])), (bq, .inl (cI, 24, .inl (fun j => nI (bs j)))), (gq, .inl (cI, 25, .inl (fun j => nI ((upN gs (bs i) (yv S L R w (bs i))) j)))), (kr, .inr (1, [.ref r1, .ref r2, .ref r3, .ref r4])), (r1, .inl (cI, 25, .inl sz)), (r2, .inl (cI, 25, .inl lf)), (r3, .inl (cI, 25, .inl rt)), (r4, .inl (cI, 25, .inl tr))] := hD
        refine lv_iinc (v := nI (i + 1)) (lv' := [(2, .int (nI (i + 1))), (3, .int (nI (bs i))), (0, .ref mh), (1, .int (nI w))]) hx hb dX0_fillShares_73 hl (k := 3) rfl (n_inc _ 1) (by decide) rfl (fun ls hl => ?_)
        refine lv_goto (tgt := 2) hx hb dX0_fillShares_76 (by decide) ?_
        exact ih (k - 1) (i + 1) (upN gs (bs i) (yv S L R w (bs i))) (by omega) (by omega) (shI_step hR hbo (by omega) hG) _ _ hP hD hS ls (lv_sub hl [2, 3, 0] rfl)
      · skip
        refine lv_iconst (v := nI 0) hx hb dX0_fillShares_35 (by decide) ?_
        refine n_top _ (nI (yv S L R w (bs i))) (by rw [yv_s hR hw1 hrc9, if_pos (by omega)]) ?_
        refine lv_goto (tgt := 72) hx hb dX0_fillShares_36 (by decide) ?_
        refine n_ast hx hb hK hP hD hS 2 0 rfl rfl (i := (bs i)) (v := (yv S L R w (bs i))) (by first | assumption | omega) (by decide) dX0_fillShares_72 (fun H locs hP hD hS => ?_)
        have hP : va_P g vwCl [(mh, .inr (0, [.ref kr, .ref h, .ref kq, .ref fq, .ref bq, .ref gq, .int (nI rcv), .int (nI ncl), .int (nI bl), .int (nI rd), .int (nI hd), .int (nI jn), .int (nI sn)])), (bq, .inl (cI, 24, .inl (fun j => nI (bs j)))), (gq, .inl (cI, 25, .inl (fun j => nI ((upN gs (bs i) (yv S L R w (bs i))) j)))), (kr, .inr (1, [.ref r1, .ref r2, .ref r3, .ref r4])), (r1, .inl (cI, 25, .inl sz)), (r2, .inl (cI, 25, .inl lf)), (r3, .inl (cI, 25, .inl rt)), (r4, .inl (cI, 25, .inl tr))] H := hP
        have hD : va_D A [(mh, .inr (0, [.ref kr, .ref h, .ref kq, .ref fq, .ref bq, .ref gq, .int (nI rcv), .int (nI ncl), .int (nI bl), .int (nI rd), .int (nI hd), .int (nI jn), .int (nI sn)])), (bq, .inl (cI, 24, .inl (fun j => nI (bs j)))), (gq, .inl (cI, 25, .inl (fun j => nI ((upN gs (bs i) (yv S L R w (bs i))) j)))), (kr, .inr (1, [.ref r1, .ref r2, .ref r3, .ref r4])), (r1, .inl (cI, 25, .inl sz)), (r2, .inl (cI, 25, .inl lf)), (r3, .inl (cI, 25, .inl rt)), (r4, .inl (cI, 25, .inl tr))] := hD
        refine lv_iinc (v := nI (i + 1)) (lv' := [(2, .int (nI (i + 1))), (3, .int (nI (bs i))), (0, .ref mh), (1, .int (nI w))]) hx hb dX0_fillShares_73 hl (k := 3) rfl (n_inc _ 1) (by decide) rfl (fun ls hl => ?_)
        refine lv_goto (tgt := 2) hx hb dX0_fillShares_76 (by decide) ?_
        exact ih (k - 1) (i + 1) (upN gs (bs i) (yv S L R w (bs i))) (by omega) (by omega) (shI_step hR hbo (by omega) hG) _ _ hP hD hS ls (lv_sub hl [2, 3, 0] rfl)

set_option maxHeartbeats 4000000 in
set_option maxRecDepth 100000 in
theorem c_X0_fillShares (l : Launch) (g : va_G) (cI cJ cZ : ClassId) (h mh kr kq fq bq gq : Nat) (rcv ncl bl rd hd jn sn : Nat) (fo : Nat → Nat) (bs gs0 : Nat → Nat) (r1 r2 r3 r4 : Nat) (sz lf rt tr : Nat → Int32) (top : Nat) (S L R : Nat → Nat) (rc : Nat → Bool) (w : Nat) (hR : RuleOK S L R rc top) (hrl : rOK S L R rc sz lf rt) (hbo : bOK S rc ncl bs) (hw1 : 1 ≤ w) (hw : w < 2 ^ 31) (hgs0 : gs0 0 = 0) : kV l g (kty cI cJ cZ) yX0_fillShares wsX0_fillShares ({ frames := 1, cells := 0, slots := 0, locals := 64 }) [.ref mh, .int (nI w)] [(mh, .inr (0, [.ref kr, .ref h, .ref kq, .ref fq, .ref bq, .ref gq, .int (nI rcv), .int (nI ncl), .int (nI bl), .int (nI rd), .int (nI hd), .int (nI jn), .int (nI sn)])), (bq, .inl (cI, 24, .inl (fun j => nI (bs j)))), (gq, .inl (cI, 25, .inl (fun j => nI (gs0 j)))), (kr, .inr (1, [.ref r1, .ref r2, .ref r3, .ref r4])), (r1, .inl (cI, 25, .inl sz)), (r2, .inl (cI, 25, .inl lf)), (r3, .inl (cI, 25, .inl rt)), (r4, .inl (cI, 25, .inl tr))] (S := Nat → Nat) (fun u => shI S L R w bs ncl u) (fun u => [(mh, .inr (0, [.ref kr, .ref h, .ref kq, .ref fq, .ref bq, .ref gq, .int (nI rcv), .int (nI ncl), .int (nI bl), .int (nI rd), .int (nI hd), .int (nI jn), .int (nI sn)])), (bq, .inl (cI, 24, .inl (fun j => nI (bs j)))), (gq, .inl (cI, 25, .inl (fun j => nI (u j)))), (kr, .inr (1, [.ref r1, .ref r2, .ref r3, .ref r4])), (r1, .inl (cI, 25, .inl sz)), (r2, .inl (cI, 25, .inl lf)), (r3, .inl (cI, 25, .inl rt)), (r4, .inl (cI, 25, .inl tr))]) 0 0 := by
  intro sz
  refine Met.ofW (cc := cX0_fillShares) (maxL := 4) (ret := none) (by decide) rfl ?_
  intro p e s m args below meth c s₁ B hml hv
  obtain ⟨rfl, hsz, hP, hk, hD0⟩ := hv
  subst hsz
  have hx := B.exec
  have hb := B.bytes
  have hr := B.returns
  have hts := atoms_spec (ws := wsX0_fillShares) B.pre
  have hown : s.vm.findClass RX0 = some m.cls := findClass_of_methodNamed B.named
  have hlocks := B.notSynchronized
  have hK := hk.1
  have hinX0 : ∀ w ∈ wsX00, w ∈ wsX0_fillShares := by decide +kernel
  have hinX1 : ∀ w ∈ wsX10, w ∈ wsX0_fillShares := by decide +kernel
  obtain ⟨A, hAe⟩ : ∃ A, va_A [(mh, .inr (0, [.ref kr, .ref h, .ref kq, .ref fq, .ref bq, .ref gq, .int (nI rcv), .int (nI ncl), .int (nI bl), .int (nI rd), .int (nI hd), .int (nI jn), .int (nI sn)])), (bq, .inl (cI, 24, .inl (fun j => nI (bs j)))), (gq, .inl (cI, 25, .inl (fun j => nI (gs0 j)))), (kr, .inr (1, [.ref r1, .ref r2, .ref r3, .ref r4])), (r1, .inl (cI, 25, .inl sz)), (r2, .inl (cI, 25, .inl lf)), (r3, .inl (cI, 25, .inl rt)), (r4, .inl (cI, 25, .inl tr))] s.heap.size = A := ⟨_, rfl⟩
  have hD := hD0.self (sz := s.heap.size)
  rw [hAe] at hD
  have hA : ∀ q : Nat, s.heap.size ≤ q → A q := fun q h => by rw [← hAe]; exact Or.inr h
  have hS : va_S A s.heap s.heap [] := va_S.rf
  have hl := lv_entry ([.ref mh, .int (nI w)]) (n := 4) (Nat.le_of_ble_eq_true rfl)
  rw [lg_entry_eq]
  generalize (lg_sl ([.ref mh, .int (nI w)]) ++ List.replicate (4 - (lg_sl ([.ref mh, .int (nI w)])).length) Slot.unset).toArray = ls at hl ⊢
  have hl : lv_has ls 4 [(0, .ref mh), (1, .int (nI w))] := hl
  have hbo0 := hbo.1
  refine lv_iconst (v := nI 0) hx hb dX0_fillShares_0 (by decide) ?_
  refine lv_istore_n (lv' := [(2, .int (nI 0)), (0, .ref mh), (1, .int (nI w))]) hx hb dX0_fillShares_1 rfl hl (by decide) rfl (fun ls hl => ?_)
  refine lp_X0_fillShares_2 l g cI cJ cZ h mh kr kq fq bq gq rcv ncl bl rd hd jn sn fo bs gs0 r1 r2 r3 r4 sz lf rt tr top S L R rc w hR hrl hbo hw1 hw hgs0  ⟨hx, hb, hr, hml, hown, hts, hlocks⟩ hk hA (fun gs hG H locs hP hD hS ls hl => ?_) _ ncl 0 gs0 (Nat.lt_succ_self _) (by omega) (⟨hgs0, fun j hj => absurd hj (Nat.not_lt_zero _)⟩) _ _ hP hD hS ls (lv_sub hl [1, 2, 0] rfl)
  · skip
    refine W.widen (k := 0) (n := 0) (by first | exact Nat.le_refl _ | omega) (by first | exact Nat.le_refl _ | omega) ?_
    exact k_retV (sz := 0) hx hb hr hlocks hAe hS hP hD gs (rfl) (hG) dX0_fillShares_79
