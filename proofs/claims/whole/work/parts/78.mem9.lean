set_option maxHeartbeats 4000000 in
set_option maxRecDepth 100000 in
theorem lp_X0_grantsLeft_18 {p : Program} {e : Env} {s : State} {m : MethodId} {args : Array Value} {below : List Frame} {meth : Method} {c : Code} {Q : State → Prop} (l : Launch) (g : va_G) (cI cJ cZ : ClassId) (mh kr kq fq bq gq : Nat) (rcv ncl bl rd hd jn sn : Nat) (fo : Nat → Nat) (bs gs0 : Nat → Nat) (r1 r2 r3 r4 : Nat) (sz lf rt tr : Nat → Int32) (h q1 q2 q3 q4 q5 q6 q7 n : Nat) (pa ch kd ad ra su un : Nat → Nat) (mk sv : Nat) (top : Nat) (S L R : Nat → Nat) (rc : Nat → Bool) (sp : Nat → Bool) (rq nu : Nat → Nat) (w : Nat) (hn : n < 2 ^ 25) (hR : RuleOK S L R rc top) (hrl : rOK S L R rc sz lf rt) (hbo : bOK S rc ncl bs) (hI : wI top S L R sp rq nu ([]) n mk sv pa ch kd ad ra su un fo bl rd hd) (hw1 : 1 ≤ w) (hw : w < 2 ^ 31) (hgs0 : gs0 0 = 0) (rr : Nat) (gs : Nat → Nat) (hG : shI S L R w bs ncl gs) (C0 : cM p s m args meth c cX0_grantsLeft 5 (some .int) wsX0_grantsLeft RX0) (hk : kK g (kty cI cJ cZ) s) {H : Heap} {locs : List Loc} (hP : va_P g vwCl [(mh, .inr (0, [.ref kr, .ref h, .ref kq, .ref fq, .ref bq, .ref gq, .int (nI rcv), .int (nI ncl), .int (nI bl), .int (nI rd), .int (nI hd), .int (nI jn), .int (nI sn)])), (bq, .inl (cI, 24, .inl (fun j => nI (bs j)))), (gq, .inl (cI, 25, .inl (fun j => nI (gs j)))), (kr, .inr (1, [.ref r1, .ref r2, .ref r3, .ref r4])), (r1, .inl (cI, 25, .inl sz)), (r2, .inl (cI, 25, .inl lf)), (r3, .inl (cI, 25, .inl rt)), (r4, .inl (cI, 25, .inl tr)), (h, .inr (2, [.ref q1, .ref q2, .ref q3, .ref q4, .ref q5, .ref q6, .ref q7, .int (nI mk), .int (nI sv)])), (q1, .inl (cI, n, .inl (fun j => nI (pa j)))), (q2, .inl (cI, n, .inl (fun j => nI (ch j)))), (q3, .inl (cI, n, .inl (fun j => nI (kd j)))), (q4, .inl (cI, n, .inl (fun j => nI (ad j)))), (q5, .inl (cI, n, .inl (fun j => nI (ra j)))), (q6, .inl (cI, n, .inl (fun j => nI (su j)))), (q7, .inl (cI, n, .inl (fun j => nI (un j))))] H) (kk0 : ∀ (v : Nat), (v = rr) → ∀ (ls : Array Slot), lv_has ls 5 [(2, .int (nI v))] → W p l e (headSpec wsX0_grantsLeft ({ frames := 2, cells := 0, slots := 0, locals := 87 })).room s m args below meth c H locs 0 0 Q (F0 m 105 ls [])) :
    ∀ (K : Nat) (k q v : Nat), k < K → (wrm S L R (cls top L R) sp rq w q v k rr) → (k ≤ mk) → ∀ (ls : Array Slot), lv_has ls 5 [(0, .ref mh), (1, .int (nI w)), (2, .int (nI v)), (3, .int (nI (nz nu q))), (4, .int (nI k))] → W p l e (headSpec wsX0_grantsLeft ({ frames := 2, cells := 0, slots := 0, locals := 87 })).room s m args below meth c H locs 0 0 Q (F0 m 18 ls []) := by
  obtain ⟨hx, hb, hr, hml, hown, hts, hlocks⟩ := C0
  have hK := hk.1
  have hinX0 : ∀ w ∈ wsX00, w ∈ wsX0_grantsLeft := by decide +kernel
  intro K
  induction K with
  | zero =>
    intro k q v h0
    exact absurd h0 (Nat.not_lt_zero _)
  | succ K ih =>
    intro k q v hmu hW hk2 ls hl
    obtain ⟨a1, a2, a3, a4, a5, a6, a7, a8, -⟩ := hI.1.2.2.2.2.1
    have hn31 : n < 2 ^ 31 := by omega
    have hml9 := mk_len hI
    have hnz : nz nu q < n := nz_lt hI (fun e => (wrm_k hR hI.1.1 hW e).2)
    refine lv_iload hx hb dX0_grantsLeft_18 (lv_at hl 4 rfl) ?_
    refine n_if_le (tgt := 105) hx hb dX0_grantsLeft_20 (by decide) (by first | assumption | omega) (fun c7 => ?_) (fun c7 => ?_)
    · skip
      exact kk0 v ((hW.resolve_right (fun z => by have := ex_pos z.1; have := (wrm_k hR hI.1.1 hW (by omega)).1; omega)).2) ls (lv_sub hl [2] rfl)
    · skip
      refine lv_iload_n hx hb dX0_grantsLeft_23 rfl (lv_at hl 3 rfl) ?_
      refine n_if_eq (tgt := 105) hx hb dX0_grantsLeft_24 (by decide) (by exact Nat.lt_trans hnz hn31) (fun c8 => ?_) (fun c8 => ?_)
      · skip
        exact kk0 v ((hW.resolve_right (fun z => by have := ex_pos z.1; have := nz_0 hI (fun _ => z.1) (by omega); omega)).2) ls (lv_sub hl [2] rfl)
      · skip
        have hq0 : q ≠ 0 := nz_ne (nu := nu) (by omega)
        rw [nz_s hq0] at hl
        have hqx := (wrm_k hR hI.1.1 hW hq0).2
        have hk0 := (wrm_k hR hI.1.1 hW hq0).1
        have hqn := tI_lt hI.1 hqx
        have hkd : kd (nu q) = cls top L R q := (hI.1.2.1.2.1 q hqx).2.2.1
        have hrc9 := cls_rc hR hI.1.1 q hqx
        have hrk := rl_kids hR hrl hrc9
        refine lv_aload_n hx hb dX0_grantsLeft_27 rfl (lv_at hl 0 rfl) ?_
        refine va_get (D := g) (ci := 0) (v := .ref h) (C := RX0) (T := TX0) (N := 13) hx hb hts hinX0 hown hK hP 0 rfl rfl 1 (by decide) (hts (.fieldLink RX0 21 "BuddyRoof$Memory" "tree" "LBuddyRoof$Tree;") (by decide +kernel)) (fun _ h9 => h9) rfl dX0_grantsLeft_28 ?_
        refine lv_iload_n hx hb dX0_grantsLeft_31 rfl (lv_at hl 3 rfl) ?_
        refine k_goR (W.runV (As := [.int (nI (nu q))]) (rest := []) ⟨hx, hb, hml, hown, hts⟩ (c_X2_childOf l g cI cJ cZ h q1 q2 q3 q4 q5 q6 q7 n pa ch kd ad ra su un mk sv (nu q) hn31 hqn.2) (cwV 1 hts gX0_grantsLeft_X2_childOf rfl rfl rfl (by decide +kernel) ⟨Nat.le_of_ble_eq_true rfl, Nat.le_of_ble_eq_true rfl⟩) (k_preRV hk hP [8, 9, 10, 11, 12, 13, 14, 15] rfl (ci := 2) (q0 := 0) rfl rfl) rfl rfl hl.1 rfl (lv_room (Nat.le_of_ble_eq_true rfl)) dX0_grantsLeft_32 ⟨by first | exact Nat.zero_le _ | omega, by first | exact Nat.zero_le _ | omega⟩) ?_
        refine n_if_eq (tgt := 59) hx hb dX0_grantsLeft_35 (by decide) (by exact Nat.lt_trans (Nat.lt_of_succ_lt (a2 _)) hn31) (fun c9 => ?_) (fun c9 => ?_)
        · skip
          have hsq : sp q = false := by
            cases e9 : sp q
            · rfl
            · have := kS_kid hR hI.1.1 hI.1.2.1 e9
              omega
          refine lv_iload_n hx hb dX0_grantsLeft_59 rfl (lv_at hl 2 rfl) ?_
          refine lv_aload_n hx hb dX0_grantsLeft_60 rfl (lv_at hl 0 rfl) ?_
          refine va_get (D := g) (ci := 0) (v := .ref h) (C := RX0) (T := TX0) (N := 13) hx hb hts hinX0 hown hK hP 0 rfl rfl 1 (by decide) (hts (.fieldLink RX0 21 "BuddyRoof$Memory" "tree" "LBuddyRoof$Tree;") (by decide +kernel)) (fun _ h9 => h9) rfl dX0_grantsLeft_61 ?_
          refine lv_iload_n hx hb dX0_grantsLeft_64 rfl (lv_at hl 3 rfl) ?_
          refine k_goR (W.runV (As := [.int (nI (nu q))]) (rest := [.int (nI v)]) ⟨hx, hb, hml, hown, hts⟩ (c_X2_hasLive l g cI cJ cZ h q1 q2 q3 q4 q5 q6 q7 n pa ch kd ad ra su un mk sv (nu q) hn31 hqn.2) (cwV 1 hts gX0_grantsLeft_X2_hasLive rfl rfl rfl (by decide +kernel) ⟨Nat.le_of_ble_eq_true rfl, Nat.le_of_ble_eq_true rfl⟩) (k_preRV hk hP [8, 9, 10, 11, 12, 13, 14, 15] rfl (ci := 2) (q0 := 0) rfl rfl) rfl rfl hl.1 rfl (lv_room (Nat.le_of_ble_eq_true rfl)) dX0_grantsLeft_65 ⟨by first | exact Nat.zero_le _ | omega, by first | exact Nat.zero_le _ | omega⟩) ?_
          refine k_ifeq (tgt := 75) hx hb dX0_grantsLeft_68 (by decide) (fun c10 => ?_) (fun c10 => ?_)
          · skip
            refine lv_aload_n hx hb dX0_grantsLeft_75 rfl (lv_at hl 0 rfl) ?_
            refine va_get (D := g) (ci := 0) (v := .ref gq) (C := RX0) (T := TX0) (N := 13) hx hb hts hinX0 hown hK hP 0 rfl rfl 5 (by decide) (hts (.fieldLink RX0 35 "BuddyRoof$Memory" "share" "[I") (by decide +kernel)) (fun _ h9 => h9) rfl dX0_grantsLeft_76 ?_
            refine lv_aload_n hx hb dX0_grantsLeft_79 rfl (lv_at hl 0 rfl) ?_
            refine va_get (D := g) (ci := 0) (v := .ref h) (C := RX0) (T := TX0) (N := 13) hx hb hts hinX0 hown hK hP 0 rfl rfl 1 (by decide) (hts (.fieldLink RX0 21 "BuddyRoof$Memory" "tree" "LBuddyRoof$Tree;") (by decide +kernel)) (fun _ h9 => h9) rfl dX0_grantsLeft_80 ?_
            refine lv_iload_n hx hb dX0_grantsLeft_83 rfl (lv_at hl 3 rfl) ?_
            refine k_goR (W.runV (As := [.int (nI (nu q))]) (rest := [.ref gq, .int (nI v)]) ⟨hx, hb, hml, hown, hts⟩ (c_X2_kindOf l g cI cJ cZ h q1 q2 q3 q4 q5 q6 q7 n pa ch kd ad ra su un mk sv (nu q) hn31 hqn.2) (cwV 1 hts gX0_grantsLeft_X2_kindOf rfl rfl rfl (by decide +kernel) ⟨Nat.le_of_ble_eq_true rfl, Nat.le_of_ble_eq_true rfl⟩) (k_preRV hk hP [8, 9, 10, 11, 12, 13, 14, 15] rfl (ci := 2) (q0 := 0) rfl rfl) rfl rfl hl.1 rfl (lv_room (Nat.le_of_ble_eq_true rfl)) dX0_grantsLeft_84 ⟨by first | exact Nat.zero_le _ | omega, by first | exact Nat.zero_le _ | omega⟩) ?_
            refine n_top _ (nI (cls top L R q)) (by rw [hkd]) ?_
            refine n_ald (v := nI (yv S L R w (cls top L R q))) hx hb hK hP 2 0 rfl rfl (i := (cls top L R q)) (by have := hrk.2.2.2.2.2.2.2.2.2.2; omega) (by decide) (by rw [shI_end hbo hG hrc9]) dX0_grantsLeft_87 ?_
            refine n_iadd hx hb dX0_grantsLeft_88 ?_
            refine lv_istore_n (lv' := [(2, .int (nI (v + (yv S L R w (cls top L R q))))), (0, .ref mh), (1, .int (nI w)), (3, .int (nI (nu q))), (4, .int (nI k))]) hx hb dX0_grantsLeft_89 rfl hl (by decide) rfl (fun ls hl => ?_)
            refine lv_aload_n hx hb dX0_grantsLeft_90 rfl (lv_at hl 1 rfl) ?_
            refine va_get (D := g) (ci := 0) (v := .ref h) (C := RX0) (T := TX0) (N := 13) hx hb hts hinX0 hown hK hP 0 rfl rfl 1 (by decide) (hts (.fieldLink RX0 21 "BuddyRoof$Memory" "tree" "LBuddyRoof$Tree;") (by decide +kernel)) (fun _ h9 => h9) rfl dX0_grantsLeft_91 ?_
            refine lv_iload_n hx hb dX0_grantsLeft_94 rfl (lv_at hl 3 rfl) ?_
            refine k_goR (W.runV (As := [.int (nI (nu q))]) (rest := []) ⟨hx, hb, hml, hown, hts⟩ (c_X2_behind l g cI cJ cZ h q1 q2 q3 q4 q5 q6 q7 n pa ch kd ad ra su un mk sv (nu q) hn31 hqn.2 a1) (cwV 1 hts gX0_grantsLeft_X2_behind rfl rfl rfl (by decide +kernel) ⟨Nat.le_of_ble_eq_true rfl, Nat.le_of_ble_eq_true rfl⟩) (k_preRV hk hP [8, 9, 10, 11, 12, 13, 14, 15] rfl (ci := 2) (q0 := 0) rfl rfl) rfl rfl hl.1 rfl (lv_room (Nat.le_of_ble_eq_true rfl)) dX0_grantsLeft_95 ⟨by first | exact Nat.zero_le _ | omega, by first | exact Nat.zero_le _ | omega⟩) ?_
            refine n_top _ (nI (nz nu (bh q))) (by rw [fBeh_bh hR hI hqx]) ?_
            refine lv_istore_n (lv' := [(3, .int (nI (nz nu (bh q)))), (2, .int (nI (v + (yv S L R w (cls top L R q))))), (0, .ref mh), (1, .int (nI w)), (4, .int (nI k))]) hx hb dX0_grantsLeft_98 rfl hl (by decide) rfl (fun ls hl => ?_)
            refine lv_iinc (v := nI (k - 1)) (lv' := [(4, .int (nI (k - 1))), (3, .int (nI (nz nu (bh q)))), (2, .int (nI (v + (yv S L R w (cls top L R q))))), (0, .ref mh), (1, .int (nI w))]) hx hb dX0_grantsLeft_99 hl (k := 4) rfl (n_dec (k := 1) (by first | assumption | omega)) (by decide) rfl (fun ls hl => ?_)
            refine lv_goto (tgt := 18) hx hb dX0_grantsLeft_102 (by decide) ?_
            exact ih (k - 1) (bh q) (v + yv S L R w (cls top L R q)) (by omega) (wrm_bh hR hI.1.1 hW hq0 (by rw [rT_n (Or.inl hsq), if_neg (by rw [(su_live hR hI hqx).mp (Classical.byContradiction c10)]; decide)])) (by omega) ls (lv_sub hl [3, 4, 2, 1, 0] rfl)
          · skip
            refine lv_iconst (v := nI 0) hx hb dX0_grantsLeft_71 (by decide) ?_
            refine lv_goto (tgt := 88) hx hb dX0_grantsLeft_72 (by decide) ?_
            refine n_iadd hx hb dX0_grantsLeft_88 ?_
            refine lv_istore_n (lv' := [(2, .int (nI (v + 0))), (0, .ref mh), (1, .int (nI w)), (3, .int (nI (nu q))), (4, .int (nI k))]) hx hb dX0_grantsLeft_89 rfl hl (by decide) rfl (fun ls hl => ?_)
            refine lv_aload_n hx hb dX0_grantsLeft_90 rfl (lv_at hl 1 rfl) ?_
            refine va_get (D := g) (ci := 0) (v := .ref h) (C := RX0) (T := TX0) (N := 13) hx hb hts hinX0 hown hK hP 0 rfl rfl 1 (by decide) (hts (.fieldLink RX0 21 "BuddyRoof$Memory" "tree" "LBuddyRoof$Tree;") (by decide +kernel)) (fun _ h9 => h9) rfl dX0_grantsLeft_91 ?_
            refine lv_iload_n hx hb dX0_grantsLeft_94 rfl (lv_at hl 3 rfl) ?_
            refine k_goR (W.runV (As := [.int (nI (nu q))]) (rest := []) ⟨hx, hb, hml, hown, hts⟩ (c_X2_behind l g cI cJ cZ h q1 q2 q3 q4 q5 q6 q7 n pa ch kd ad ra su un mk sv (nu q) hn31 hqn.2 a1) (cwV 1 hts gX0_grantsLeft_X2_behind rfl rfl rfl (by decide +kernel) ⟨Nat.le_of_ble_eq_true rfl, Nat.le_of_ble_eq_true rfl⟩) (k_preRV hk hP [8, 9, 10, 11, 12, 13, 14, 15] rfl (ci := 2) (q0 := 0) rfl rfl) rfl rfl hl.1 rfl (lv_room (Nat.le_of_ble_eq_true rfl)) dX0_grantsLeft_95 ⟨by first | exact Nat.zero_le _ | omega, by first | exact Nat.zero_le _ | omega⟩) ?_
            refine n_top _ (nI (nz nu (bh q))) (by rw [fBeh_bh hR hI hqx]) ?_
            refine lv_istore_n (lv' := [(3, .int (nI (nz nu (bh q)))), (2, .int (nI (v + 0))), (0, .ref mh), (1, .int (nI w)), (4, .int (nI k))]) hx hb dX0_grantsLeft_98 rfl hl (by decide) rfl (fun ls hl => ?_)
            refine lv_iinc (v := nI (k - 1)) (lv' := [(4, .int (nI (k - 1))), (3, .int (nI (nz nu (bh q)))), (2, .int (nI (v + 0))), (0, .ref mh), (1, .int (nI w))]) hx hb dX0_grantsLeft_99 hl (k := 4) rfl (n_dec (k := 1) (by first | assumption | omega)) (by decide) rfl (fun ls hl => ?_)
            refine lv_goto (tgt := 18) hx hb dX0_grantsLeft_102 (by decide) ?_
            exact ih (k - 1) (bh q) (v + 0) (by omega) (wrm_bh hR hI.1.1 hW hq0 (by rw [rT_n (Or.inl hsq), if_pos (show lvb sp rq q = true by cases e9 : lvb sp rq q; exact absurd ((su_live hR hI hqx).mpr e9) c10; rfl)])) (by omega) ls (lv_sub hl [3, 4, 2, 1, 0] rfl)
        · skip
          have hsq : sp q = true := by
            cases e9 : sp q
            · have := kS_leaf hI.1.2.1 hqx e9
              omega
            · rfl
          have hkk := kS_kid hR hI.1.1 hI.1.2.1 hsq
          refine lv_aload_n hx hb dX0_grantsLeft_38 rfl (lv_at hl 0 rfl) ?_
          refine lv_iload_n hx hb dX0_grantsLeft_39 rfl (lv_at hl 3 rfl) ?_
          refine lv_iload_n hx hb dX0_grantsLeft_40 rfl (lv_at hl 1 rfl) ?_
          refine k_goR (W.runV (As := [.int (nI (nu q)), .int (nI w)]) (rest := []) ⟨hx, hb, hml, hown, hts⟩ (c_X0_childHolds l g cI cJ cZ mh kr kq fq bq gq rcv ncl bl rd hd jn sn fo r1 r2 r3 r4 sz lf rt tr h q1 q2 q3 q4 q5 q6 q7 n pa ch kd ad ra su un mk sv (nu q) w (L (cls top L R q)) (R (cls top L R q)) (S (L (cls top L R q))) (S (R (cls top L R q))) hn31 hqn.2 a4 hw (by rw [hkd]; exact hrk.2.1) (by rw [hkd]; exact hrk.2.2.1) hrk.2.2.2.1 hrk.2.2.2.2.1 hrk.2.2.2.2.2.1 hrk.2.2.2.2.2.2.1 hrk.2.2.2.2.2.2.2.1 hrk.2.2.2.2.2.2.2.2.1) (cwV 2 hts gX0_grantsLeft_X0_childHolds rfl rfl rfl (by decide +kernel) ⟨Nat.le_of_ble_eq_true rfl, Nat.le_of_ble_eq_true rfl⟩) (k_preRV hk hP [0, 3, 4, 5, 6, 7, 8, 9, 10, 11, 12, 13, 14, 15] rfl (ci := 0) (q0 := 0) rfl rfl) rfl rfl hl.1 rfl (lv_room (Nat.le_of_ble_eq_true rfl)) dX0_grantsLeft_41 ⟨by first | exact Nat.zero_le _ | omega, by first | exact Nat.zero_le _ | omega⟩) ?_
          refine k_ifeq (tgt := 59) hx hb dX0_grantsLeft_44 (by decide) (fun c11 => ?_) (fun c11 => ?_)
          · skip
            refine lv_iload_n hx hb dX0_grantsLeft_59 rfl (lv_at hl 2 rfl) ?_
            refine lv_aload_n hx hb dX0_grantsLeft_60 rfl (lv_at hl 0 rfl) ?_
            refine va_get (D := g) (ci := 0) (v := .ref h) (C := RX0) (T := TX0) (N := 13) hx hb hts hinX0 hown hK hP 0 rfl rfl 1 (by decide) (hts (.fieldLink RX0 21 "BuddyRoof$Memory" "tree" "LBuddyRoof$Tree;") (by decide +kernel)) (fun _ h9 => h9) rfl dX0_grantsLeft_61 ?_
            refine lv_iload_n hx hb dX0_grantsLeft_64 rfl (lv_at hl 3 rfl) ?_
            refine k_goR (W.runV (As := [.int (nI (nu q))]) (rest := [.int (nI v)]) ⟨hx, hb, hml, hown, hts⟩ (c_X2_hasLive l g cI cJ cZ h q1 q2 q3 q4 q5 q6 q7 n pa ch kd ad ra su un mk sv (nu q) hn31 hqn.2) (cwV 1 hts gX0_grantsLeft_X2_hasLive rfl rfl rfl (by decide +kernel) ⟨Nat.le_of_ble_eq_true rfl, Nat.le_of_ble_eq_true rfl⟩) (k_preRV hk hP [8, 9, 10, 11, 12, 13, 14, 15] rfl (ci := 2) (q0 := 0) rfl rfl) rfl rfl hl.1 rfl (lv_room (Nat.le_of_ble_eq_true rfl)) dX0_grantsLeft_65 ⟨by first | exact Nat.zero_le _ | omega, by first | exact Nat.zero_le _ | omega⟩) ?_
            refine k_ifeq (tgt := 75) hx hb dX0_grantsLeft_68 (by decide) (fun c12 => ?_) (fun c12 => ?_)
            · skip
              refine lv_aload_n hx hb dX0_grantsLeft_75 rfl (lv_at hl 0 rfl) ?_
              refine va_get (D := g) (ci := 0) (v := .ref gq) (C := RX0) (T := TX0) (N := 13) hx hb hts hinX0 hown hK hP 0 rfl rfl 5 (by decide) (hts (.fieldLink RX0 35 "BuddyRoof$Memory" "share" "[I") (by decide +kernel)) (fun _ h9 => h9) rfl dX0_grantsLeft_76 ?_
              refine lv_aload_n hx hb dX0_grantsLeft_79 rfl (lv_at hl 0 rfl) ?_
              refine va_get (D := g) (ci := 0) (v := .ref h) (C := RX0) (T := TX0) (N := 13) hx hb hts hinX0 hown hK hP 0 rfl rfl 1 (by decide) (hts (.fieldLink RX0 21 "BuddyRoof$Memory" "tree" "LBuddyRoof$Tree;") (by decide +kernel)) (fun _ h9 => h9) rfl dX0_grantsLeft_80 ?_
              refine lv_iload_n hx hb dX0_grantsLeft_83 rfl (lv_at hl 3 rfl) ?_
              refine k_goR (W.runV (As := [.int (nI (nu q))]) (rest := [.ref gq, .int (nI v)]) ⟨hx, hb, hml, hown, hts⟩ (c_X2_kindOf l g cI cJ cZ h q1 q2 q3 q4 q5 q6 q7 n pa ch kd ad ra su un mk sv (nu q) hn31 hqn.2) (cwV 1 hts gX0_grantsLeft_X2_kindOf rfl rfl rfl (by decide +kernel) ⟨Nat.le_of_ble_eq_true rfl, Nat.le_of_ble_eq_true rfl⟩) (k_preRV hk hP [8, 9, 10, 11, 12, 13, 14, 15] rfl (ci := 2) (q0 := 0) rfl rfl) rfl rfl hl.1 rfl (lv_room (Nat.le_of_ble_eq_true rfl)) dX0_grantsLeft_84 ⟨by first | exact Nat.zero_le _ | omega, by first | exact Nat.zero_le _ | omega⟩) ?_
              refine n_top _ (nI (cls top L R q)) (by rw [hkd]) ?_
              refine n_ald (v := nI (yv S L R w (cls top L R q))) hx hb hK hP 2 0 rfl rfl (i := (cls top L R q)) (by have := hrk.2.2.2.2.2.2.2.2.2.2; omega) (by decide) (by rw [shI_end hbo hG hrc9]) dX0_grantsLeft_87 ?_
              refine n_iadd hx hb dX0_grantsLeft_88 ?_
              refine lv_istore_n (lv' := [(2, .int (nI (v + (yv S L R w (cls top L R q))))), (0, .ref mh), (1, .int (nI w)), (3, .int (nI (nu q))), (4, .int (nI k))]) hx hb dX0_grantsLeft_89 rfl hl (by decide) rfl (fun ls hl => ?_)
              refine lv_aload_n hx hb dX0_grantsLeft_90 rfl (lv_at hl 1 rfl) ?_
              refine va_get (D := g) (ci := 0) (v := .ref h) (C := RX0) (T := TX0) (N := 13) hx hb hts hinX0 hown hK hP 0 rfl rfl 1 (by decide) (hts (.fieldLink RX0 21 "BuddyRoof$Memory" "tree" "LBuddyRoof$Tree;") (by decide +kernel)) (fun _ h9 => h9) rfl dX0_grantsLeft_91 ?_
              refine lv_iload_n hx hb dX0_grantsLeft_94 rfl (lv_at hl 3 rfl) ?_
              refine k_goR (W.runV (As := [.int (nI (nu q))]) (rest := []) ⟨hx, hb, hml, hown, hts⟩ (c_X2_behind l g cI cJ cZ h q1 q2 q3 q4 q5 q6 q7 n pa ch kd ad ra su un mk sv (nu q) hn31 hqn.2 a1) (cwV 1 hts gX0_grantsLeft_X2_behind rfl rfl rfl (by decide +kernel) ⟨Nat.le_of_ble_eq_true rfl, Nat.le_of_ble_eq_true rfl⟩) (k_preRV hk hP [8, 9, 10, 11, 12, 13, 14, 15] rfl (ci := 2) (q0 := 0) rfl rfl) rfl rfl hl.1 rfl (lv_room (Nat.le_of_ble_eq_true rfl)) dX0_grantsLeft_95 ⟨by first | exact Nat.zero_le _ | omega, by first | exact Nat.zero_le _ | omega⟩) ?_
              refine n_top _ (nI (nz nu (bh q))) (by rw [fBeh_bh hR hI hqx]) ?_
              refine lv_istore_n (lv' := [(3, .int (nI (nz nu (bh q)))), (2, .int (nI (v + (yv S L R w (cls top L R q))))), (0, .ref mh), (1, .int (nI w)), (4, .int (nI k))]) hx hb dX0_grantsLeft_98 rfl hl (by decide) rfl (fun ls hl => ?_)
              refine lv_iinc (v := nI (k - 1)) (lv' := [(4, .int (nI (k - 1))), (3, .int (nI (nz nu (bh q)))), (2, .int (nI (v + (yv S L R w (cls top L R q))))), (0, .ref mh), (1, .int (nI w))]) hx hb dX0_grantsLeft_99 hl (k := 4) rfl (n_dec (k := 1) (by first | assumption | omega)) (by decide) rfl (fun ls hl => ?_)
              refine lv_goto (tgt := 18) hx hb dX0_grantsLeft_102 (by decide) ?_
              exact ih (k - 1) (bh q) (v + yv S L R w (cls top L R q)) (by omega) (wrm_bh hR hI.1.1 hW hq0 (by rw [rT_n (Or.inr c11), if_neg (by rw [(su_live hR hI hqx).mp (Classical.byContradiction c12)]; decide)])) (by omega) ls (lv_sub hl [3, 4, 2, 1, 0] rfl)
            · skip
              refine lv_iconst (v := nI 0) hx hb dX0_grantsLeft_71 (by decide) ?_
              refine lv_goto (tgt := 88) hx hb dX0_grantsLeft_72 (by decide) ?_
              refine n_iadd hx hb dX0_grantsLeft_88 ?_
              refine lv_istore_n (lv' := [(2, .int (nI (v + 0))), (0, .ref mh), (1, .int (nI w)), (3, .int (nI (nu q))), (4, .int (nI k))]) hx hb dX0_grantsLeft_89 rfl hl (by decide) rfl (fun ls hl => ?_)
              refine lv_aload_n hx hb dX0_grantsLeft_90 rfl (lv_at hl 1 rfl) ?_
              refine va_get (D := g) (ci := 0) (v := .ref h) (C := RX0) (T := TX0) (N := 13) hx hb hts hinX0 hown hK hP 0 rfl rfl 1 (by decide) (hts (.fieldLink RX0 21 "BuddyRoof$Memory" "tree" "LBuddyRoof$Tree;") (by decide +kernel)) (fun _ h9 => h9) rfl dX0_grantsLeft_91 ?_
              refine lv_iload_n hx hb dX0_grantsLeft_94 rfl (lv_at hl 3 rfl) ?_
              refine k_goR (W.runV (As := [.int (nI (nu q))]) (rest := []) ⟨hx, hb, hml, hown, hts⟩ (c_X2_behind l g cI cJ cZ h q1 q2 q3 q4 q5 q6 q7 n pa ch kd ad ra su un mk sv (nu q) hn31 hqn.2 a1) (cwV 1 hts gX0_grantsLeft_X2_behind rfl rfl rfl (by decide +kernel) ⟨Nat.le_of_ble_eq_true rfl, Nat.le_of_ble_eq_true rfl⟩) (k_preRV hk hP [8, 9, 10, 11, 12, 13, 14, 15] rfl (ci := 2) (q0 := 0) rfl rfl) rfl rfl hl.1 rfl (lv_room (Nat.le_of_ble_eq_true rfl)) dX0_grantsLeft_95 ⟨by first | exact Nat.zero_le _ | omega, by first | exact Nat.zero_le _ | omega⟩) ?_
              refine n_top _ (nI (nz nu (bh q))) (by rw [fBeh_bh hR hI hqx]) ?_
              refine lv_istore_n (lv' := [(3, .int (nI (nz nu (bh q)))), (2, .int (nI (v + 0))), (0, .ref mh), (1, .int (nI w)), (4, .int (nI k))]) hx hb dX0_grantsLeft_98 rfl hl (by decide) rfl (fun ls hl => ?_)
              refine lv_iinc (v := nI (k - 1)) (lv' := [(4, .int (nI (k - 1))), (3, .int (nI (nz nu (bh q)))), (2, .int (nI (v + 0))), (0, .ref mh), (1, .int (nI w))]) hx hb dX0_grantsLeft_99 hl (k := 4) rfl (n_dec (k := 1) (by first | assumption | omega)) (by decide) rfl (fun ls hl => ?_)
              refine lv_goto (tgt := 18) hx hb dX0_grantsLeft_102 (by decide) ?_
              exact ih (k - 1) (bh q) (v + 0) (by omega) (wrm_bh hR hI.1.1 hW hq0 (by rw [rT_n (Or.inr c11), if_pos (show lvb sp rq q = true by cases e9 : lvb sp rq q; exact absurd ((su_live hR hI hqx).mpr e9) c12; rfl)])) (by omega) ls (lv_sub hl [3, 4, 2, 1, 0] rfl)
          · skip
            refine lv_aload_n hx hb dX0_grantsLeft_47 rfl (lv_at hl 0 rfl) ?_
            refine va_get (D := g) (ci := 0) (v := .ref h) (C := RX0) (T := TX0) (N := 13) hx hb hts hinX0 hown hK hP 0 rfl rfl 1 (by decide) (hts (.fieldLink RX0 21 "BuddyRoof$Memory" "tree" "LBuddyRoof$Tree;") (by decide +kernel)) (fun _ h9 => h9) rfl dX0_grantsLeft_48 ?_
            refine lv_iload_n hx hb dX0_grantsLeft_51 rfl (lv_at hl 3 rfl) ?_
            refine k_goR (W.runV (As := [.int (nI (nu q))]) (rest := []) ⟨hx, hb, hml, hown, hts⟩ (c_X2_childOf l g cI cJ cZ h q1 q2 q3 q4 q5 q6 q7 n pa ch kd ad ra su un mk sv (nu q) hn31 hqn.2) (cwV 1 hts gX0_grantsLeft_X2_childOf rfl rfl rfl (by decide +kernel) ⟨Nat.le_of_ble_eq_true rfl, Nat.le_of_ble_eq_true rfl⟩) (k_preRV hk hP [8, 9, 10, 11, 12, 13, 14, 15] rfl (ci := 2) (q0 := 0) rfl rfl) rfl rfl hl.1 rfl (lv_room (Nat.le_of_ble_eq_true rfl)) dX0_grantsLeft_52 ⟨by first | exact Nat.zero_le _ | omega, by first | exact Nat.zero_le _ | omega⟩) ?_
            refine n_top _ (nI (nz nu (2 * q))) (by rw [hkk.1, nz_s (by omega)]) ?_
            refine lv_istore_n (lv' := [(3, .int (nI (nz nu (2 * q)))), (0, .ref mh), (1, .int (nI w)), (2, .int (nI v)), (4, .int (nI k))]) hx hb dX0_grantsLeft_55 rfl hl (by decide) rfl (fun ls hl => ?_)
            refine lv_goto (tgt := 99) hx hb dX0_grantsLeft_56 (by decide) ?_
            refine lv_iinc (v := nI (k - 1)) (lv' := [(4, .int (nI (k - 1))), (3, .int (nI (nz nu (2 * q)))), (0, .ref mh), (1, .int (nI w)), (2, .int (nI v))]) hx hb dX0_grantsLeft_99 hl (k := 4) rfl (n_dec (k := 1) (by first | assumption | omega)) (by decide) rfl (fun ls hl => ?_)
            refine lv_goto (tgt := 18) hx hb dX0_grantsLeft_102 (by decide) ?_
            exact ih (k - 1) (2 * q) v (by omega) (wrm_dn hR hI.1.1 hW hq0 hsq c11) (by omega) ls (lv_sub hl [2, 3, 4, 1, 0] rfl)

set_option maxHeartbeats 4000000 in
set_option maxRecDepth 100000 in
theorem c_X0_grantsLeft (l : Launch) (g : va_G) (cI cJ cZ : ClassId) (mh kr kq fq bq gq : Nat) (rcv ncl bl rd hd jn sn : Nat) (fo : Nat → Nat) (bs gs0 : Nat → Nat) (r1 r2 r3 r4 : Nat) (sz lf rt tr : Nat → Int32) (h q1 q2 q3 q4 q5 q6 q7 n : Nat) (pa ch kd ad ra su un : Nat → Nat) (mk sv : Nat) (top : Nat) (S L R : Nat → Nat) (rc : Nat → Bool) (sp : Nat → Bool) (rq nu : Nat → Nat) (w : Nat) (hn : n < 2 ^ 25) (hR : RuleOK S L R rc top) (hrl : rOK S L R rc sz lf rt) (hbo : bOK S rc ncl bs) (hI : wI top S L R sp rq nu ([]) n mk sv pa ch kd ad ra su un fo bl rd hd) (hw1 : 1 ≤ w) (hw : w < 2 ^ 31) (hgs0 : gs0 0 = 0) : kI l g (kty cI cJ cZ) yX0_grantsLeft wsX0_grantsLeft ({ frames := 2, cells := 0, slots := 0, locals := 87 }) [.ref mh, .int (nI w)] [(mh, .inr (0, [.ref kr, .ref h, .ref kq, .ref fq, .ref bq, .ref gq, .int (nI rcv), .int (nI ncl), .int (nI bl), .int (nI rd), .int (nI hd), .int (nI jn), .int (nI sn)])), (bq, .inl (cI, 24, .inl (fun j => nI (bs j)))), (gq, .inl (cI, 25, .inl (fun j => nI (gs0 j)))), (kr, .inr (1, [.ref r1, .ref r2, .ref r3, .ref r4])), (r1, .inl (cI, 25, .inl sz)), (r2, .inl (cI, 25, .inl lf)), (r3, .inl (cI, 25, .inl rt)), (r4, .inl (cI, 25, .inl tr)), (h, .inr (2, [.ref q1, .ref q2, .ref q3, .ref q4, .ref q5, .ref q6, .ref q7, .int (nI mk), .int (nI sv)])), (q1, .inl (cI, n, .inl (fun j => nI (pa j)))), (q2, .inl (cI, n, .inl (fun j => nI (ch j)))), (q3, .inl (cI, n, .inl (fun j => nI (kd j)))), (q4, .inl (cI, n, .inl (fun j => nI (ad j)))), (q5, .inl (cI, n, .inl (fun j => nI (ra j)))), (q6, .inl (cI, n, .inl (fun j => nI (su j)))), (q7, .inl (cI, n, .inl (fun j => nI (un j))))] (S := Nat → Nat) (fun r u => r = nI (rT S L R (cls top L R) sp rq w 1) ∧ u 0 = 0) (fun u => [(mh, .inr (0, [.ref kr, .ref h, .ref kq, .ref fq, .ref bq, .ref gq, .int (nI rcv), .int (nI ncl), .int (nI bl), .int (nI rd), .int (nI hd), .int (nI jn), .int (nI sn)])), (bq, .inl (cI, 24, .inl (fun j => nI (bs j)))), (gq, .inl (cI, 25, .inl (fun j => nI (u j)))), (kr, .inr (1, [.ref r1, .ref r2, .ref r3, .ref r4])), (r1, .inl (cI, 25, .inl sz)), (r2, .inl (cI, 25, .inl lf)), (r3, .inl (cI, 25, .inl rt)), (r4, .inl (cI, 25, .inl tr)), (h, .inr (2, [.ref q1, .ref q2, .ref q3, .ref q4, .ref q5, .ref q6, .ref q7, .int (nI mk), .int (nI sv)])), (q1, .inl (cI, n, .inl (fun j => nI (pa j)))), (q2, .inl (cI, n, .inl (fun j => nI (ch j)))), (q3, .inl (cI, n, .inl (fun j => nI (kd j)))), (q4, .inl (cI, n, .inl (fun j => nI (ad j)))), (q5, .inl (cI, n, .inl (fun j => nI (ra j)))), (q6, .inl (cI, n, .inl (fun j => nI (su j)))), (q7, .inl (cI, n, .inl (fun j => nI (un j))))]) 0 0 := by
  intro sz
  refine Met.ofW (cc := cX0_grantsLeft) (maxL := 5) (ret := (some .int)) (by decide) rfl ?_
  intro p e s m args below meth c s₁ B hml hv
  obtain ⟨rfl, hsz, hP, hk, hD0⟩ := hv
  subst hsz
  have hx := B.exec
  have hb := B.bytes
  have hr := B.returns
  have hts := atoms_spec (ws := wsX0_grantsLeft) B.pre
  have hown : s.vm.findClass RX0 = some m.cls := findClass_of_methodNamed B.named
  have hlocks := B.notSynchronized
  have hK := hk.1
  have hinX0 : ∀ w ∈ wsX00, w ∈ wsX0_grantsLeft := by decide +kernel
  obtain ⟨A, hAe⟩ : ∃ A, va_A [(mh, .inr (0, [.ref kr, .ref h, .ref kq, .ref fq, .ref bq, .ref gq, .int (nI rcv), .int (nI ncl), .int (nI bl), .int (nI rd), .int (nI hd), .int (nI jn), .int (nI sn)])), (bq, .inl (cI, 24, .inl (fun j => nI (bs j)))), (gq, .inl (cI, 25, .inl (fun j => nI (gs0 j)))), (kr, .inr (1, [.ref r1, .ref r2, .ref r3, .ref r4])), (r1, .inl (cI, 25, .inl sz)), (r2, .inl (cI, 25, .inl lf)), (r3, .inl (cI, 25, .inl rt)), (r4, .inl (cI, 25, .inl tr)), (h, .inr (2, [.ref q1, .ref q2, .ref q3, .ref q4, .ref q5, .ref q6, .ref q7, .int (nI mk), .int (nI sv)])), (q1, .inl (cI, n, .inl (fun j => nI (pa j)))), (q2, .inl (cI, n, .inl (fun j => nI (ch j)))), (q3, .inl (cI, n, .inl (fun j => nI (kd j)))), (q4, .inl (cI, n, .inl (fun j => nI (ad j)))), (q5, .inl (cI, n, .inl (fun j => nI (ra j)))), (q6, .inl (cI, n, .inl (fun j => nI (su j)))), (q7, .inl (cI, n, .inl (fun j => nI (un j))))] s.heap.size = A := ⟨_, rfl⟩
  have hD := hD0.self (sz := s.heap.size)
  rw [hAe] at hD
  have hA : ∀ q : Nat, s.heap.size ≤ q → A q := fun q h => by rw [← hAe]; exact Or.inr h
  have hS : va_S A s.heap s.heap [] := va_S.rf
  have hl := lv_entry ([.ref mh, .int (nI w)]) (n := 5) (Nat.le_of_ble_eq_true rfl)
  rw [lg_entry_eq]
  generalize (lg_sl ([.ref mh, .int (nI w)]) ++ List.replicate (5 - (lg_sl ([.ref mh, .int (nI w)])).length) Slot.unset).toArray = ls at hl ⊢
  have hl : lv_has ls 5 [(0, .ref mh), (1, .int (nI w))] := hl
  obtain ⟨a1, a2, a3, a4, a5, a6, a7, a8, -⟩ := hI.1.2.2.2.2.1
  have hn31 : n < 2 ^ 31 := by omega
  have hml9 := mk_len hI
  refine lv_aload_n hx hb dX0_grantsLeft_0 rfl (lv_at hl 0 rfl) ?_
  refine lv_iload_n hx hb dX0_grantsLeft_1 rfl (lv_at hl 1 rfl) ?_
  refine k_goV (wr := [(h, .inr (2, [.ref q1, .ref q2, .ref q3, .ref q4, .ref q5, .ref q6, .ref q7, .int (nI mk), .int (nI sv)])), (q1, .inl (cI, n, .inl (fun j => nI (pa j)))), (q2, .inl (cI, n, .inl (fun j => nI (ch j)))), (q3, .inl (cI, n, .inl (fun j => nI (kd j)))), (q4, .inl (cI, n, .inl (fun j => nI (ad j)))), (q5, .inl (cI, n, .inl (fun j => nI (ra j)))), (q6, .inl (cI, n, .inl (fun j => nI (su j)))), (q7, .inl (cI, n, .inl (fun j => nI (un j))))]) (va_runV (As := [.int (nI w)]) (rest := []) ⟨hx, hb, hml, hown, hts⟩ (c_X0_fillShares l g cI cJ cZ h mh kr kq fq bq gq rcv ncl bl rd hd jn sn fo bs gs0 r1 r2 r3 r4 sz lf rt tr top S L R rc w hR hrl hbo hw1 hw hgs0 _) (cwV 1 hts gX0_grantsLeft_X0_fillShares rfl rfl rfl (by decide +kernel) ⟨Nat.le_of_ble_eq_true rfl, Nat.le_of_ble_eq_true rfl⟩) (k_preV hk hP hD [0, 1, 2, 3, 4, 5, 6, 7] rfl rfl (ci := 0) (q0 := 0) rfl rfl) rfl rfl hl.1 rfl (lv_room (Nat.le_of_ble_eq_true rfl)) dX0_grantsLeft_2 ⟨by first | exact Nat.zero_le _ | omega, by first | exact Nat.zero_le _ | omega⟩) hP hD hS hA [0, 1, 2, 3, 4, 5, 6, 7] [8, 9, 10, 11, 12, 13, 14, 15] rfl rfl rfl (by decide) (fun u H locs hu hP hD hS => ?_)
  have hP : va_P g vwCl [(h, .inr (2, [.ref q1, .ref q2, .ref q3, .ref q4, .ref q5, .ref q6, .ref q7, .int (nI mk), .int (nI sv)])), (q1, .inl (cI, n, .inl (fun j => nI (pa j)))), (q2, .inl (cI, n, .inl (fun j => nI (ch j)))), (q3, .inl (cI, n, .inl (fun j => nI (kd j)))), (q4, .inl (cI, n, .inl (fun j => nI (ad j)))), (q5, .inl (cI, n, .inl (fun j => nI (ra j)))), (q6, .inl (cI, n, .inl (fun j => nI (su j)))), (q7, .inl (cI, n, .inl (fun j => nI (un j)))), (mh, .inr (0, [.ref kr, .ref h, .ref kq, .ref fq, .ref bq, .ref gq, .int (nI rcv), .int (nI ncl), .int (nI bl), .int (nI rd), .int (nI hd), .int (nI jn), .int (nI sn)])), (bq, .inl (cI, 24, .inl (fun j => nI (bs j)))), (gq, .inl (cI, 25, .inl (fun j => nI (u j)))), (kr, .inr (1, [.ref r1, .ref r2, .ref r3, .ref r4])), (r1, .inl (cI, 25, .inl sz)), (r2, .inl (cI, 25, .inl lf)), (r3, .inl (cI, 25, .inl rt)), (r4, .inl (cI, 25, .inl tr))] H := hP
  have hD : va_D A [(h, .inr (2, [.ref q1, .ref q2, .ref q3, .ref q4, .ref q5, .ref q6, .ref q7, .int (nI mk), .int (nI sv)])), (q1, .inl (cI, n, .inl (fun j => nI (pa j)))), (q2, .inl (cI, n, .inl (fun j => nI (ch j)))), (q3, .inl (cI, n, .inl (fun j => nI (kd j)))), (q4, .inl (cI, n, .inl (fun j => nI (ad j)))), (q5, .inl (cI, n, .inl (fun j => nI (ra j)))), (q6, .inl (cI, n, .inl (fun j => nI (su j)))), (q7, .inl (cI, n, .inl (fun j => nI (un j)))), (mh, .inr (0, [.ref kr, .ref h, .ref kq, .ref fq, .ref bq, .ref gq, .int (nI rcv), .int (nI ncl), .int (nI bl), .int (nI rd), .int (nI hd), .int (nI jn), .int (nI sn)])), (bq, .inl (cI, 24, .inl (fun j => nI (bs j)))), (gq, .inl (cI, 25, .inl (fun j => nI (u j)))), (kr, .inr (1, [.ref r1, .ref r2, .ref r3, .ref r4])), (r1, .inl (cI, 25, .inl sz)), (r2, .inl (cI, 25, .inl lf)), (r3, .inl (cI, 25, .inl rt)), (r4, .inl (cI, 25, .inl tr))] := hD
  refine lv_iconst (v := nI 0) hx hb dX0_grantsLeft_5 (by decide) ?_
  refine lv_istore_n (lv' := [(2, .int (nI 0)), (0, .ref mh), (1, .int (nI w))]) hx hb dX0_grantsLeft_6 rfl hl (by decide) rfl (fun ls hl => ?_)
  refine lv_iconst (v := nI 1) hx hb dX0_grantsLeft_7 (by decide) ?_
  refine n_top _ (nI (nz nu 1)) (by rw [nz_s (by decide), hI.1.2.1.1]) ?_
  refine lv_istore_n (lv' := [(3, .int (nI (nz nu 1))), (2, .int (nI 0)), (0, .ref mh), (1, .int (nI w))]) hx hb dX0_grantsLeft_8 rfl hl (by decide) rfl (fun ls hl => ?_)
  refine lv_aload_n hx hb dX0_grantsLeft_9 rfl (lv_at hl 2 rfl) ?_
  refine va_get (D := g) (ci := 0) (v := .ref h) (C := RX0) (T := TX0) (N := 13) hx hb hts hinX0 hown hK hP 8 rfl rfl 1 (by decide) (hts (.fieldLink RX0 21 "BuddyRoof$Memory" "tree" "LBuddyRoof$Tree;") (by decide +kernel)) (fun _ h9 => h9) rfl dX0_grantsLeft_10 ?_
  refine k_goR (W.runV (As := []) (rest := []) ⟨hx, hb, hml, hown, hts⟩ (c_X2_made l g cI cJ cZ h q1 q2 q3 q4 q5 q6 q7 n pa ch kd ad ra su un mk sv  ) (cwV 0 hts gX0_grantsLeft_X2_made rfl rfl rfl (by decide +kernel) ⟨Nat.le_of_ble_eq_true rfl, Nat.le_of_ble_eq_true rfl⟩) (k_preRV hk hP [0, 1, 2, 3, 4, 5, 6, 7] rfl (ci := 2) (q0 := 0) rfl rfl) rfl rfl hl.1 rfl (lv_room (Nat.le_of_ble_eq_true rfl)) dX0_grantsLeft_13 ⟨by first | exact Nat.zero_le _ | omega, by first | exact Nat.zero_le _ | omega⟩) ?_
  refine lv_istore (lv' := [(4, .int (nI mk)), (3, .int (nI (nz nu 1))), (2, .int (nI 0)), (0, .ref mh), (1, .int (nI w))]) hx hb dX0_grantsLeft_16 hl (by decide) rfl (fun ls hl => ?_)
  have hP := hP.sub (ws' := [(mh, .inr (0, [.ref kr, .ref h, .ref kq, .ref fq, .ref bq, .ref gq, .int (nI rcv), .int (nI ncl), .int (nI bl), .int (nI rd), .int (nI hd), .int (nI jn), .int (nI sn)])), (bq, .inl (cI, 24, .inl (fun j => nI (bs j)))), (gq, .inl (cI, 25, .inl (fun j => nI (u j)))), (kr, .inr (1, [.ref r1, .ref r2, .ref r3, .ref r4])), (r1, .inl (cI, 25, .inl sz)), (r2, .inl (cI, 25, .inl lf)), (r3, .inl (cI, 25, .inl rt)), (r4, .inl (cI, 25, .inl tr)), (h, .inr (2, [.ref q1, .ref q2, .ref q3, .ref q4, .ref q5, .ref q6, .ref q7, .int (nI mk), .int (nI sv)])), (q1, .inl (cI, n, .inl (fun j => nI (pa j)))), (q2, .inl (cI, n, .inl (fun j => nI (ch j)))), (q3, .inl (cI, n, .inl (fun j => nI (kd j)))), (q4, .inl (cI, n, .inl (fun j => nI (ad j)))), (q5, .inl (cI, n, .inl (fun j => nI (ra j)))), (q6, .inl (cI, n, .inl (fun j => nI (su j)))), (q7, .inl (cI, n, .inl (fun j => nI (un j))))]) [8, 9, 10, 11, 12, 13, 14, 15, 0, 1, 2, 3, 4, 5, 6, 7] rfl
  have hD := hD.sub (ws' := [(mh, .inr (0, [.ref kr, .ref h, .ref kq, .ref fq, .ref bq, .ref gq, .int (nI rcv), .int (nI ncl), .int (nI bl), .int (nI rd), .int (nI hd), .int (nI jn), .int (nI sn)])), (bq, .inl (cI, 24, .inl (fun j => nI (bs j)))), (gq, .inl (cI, 25, .inl (fun j => nI (u j)))), (kr, .inr (1, [.ref r1, .ref r2, .ref r3, .ref r4])), (r1, .inl (cI, 25, .inl sz)), (r2, .inl (cI, 25, .inl lf)), (r3, .inl (cI, 25, .inl rt)), (r4, .inl (cI, 25, .inl tr)), (h, .inr (2, [.ref q1, .ref q2, .ref q3, .ref q4, .ref q5, .ref q6, .ref q7, .int (nI mk), .int (nI sv)])), (q1, .inl (cI, n, .inl (fun j => nI (pa j)))), (q2, .inl (cI, n, .inl (fun j => nI (ch j)))), (q3, .inl (cI, n, .inl (fun j => nI (kd j)))), (q4, .inl (cI, n, .inl (fun j => nI (ad j)))), (q5, .inl (cI, n, .inl (fun j => nI (ra j)))), (q6, .inl (cI, n, .inl (fun j => nI (su j)))), (q7, .inl (cI, n, .inl (fun j => nI (un j))))]) [8, 9, 10, 11, 12, 13, 14, 15, 0, 1, 2, 3, 4, 5, 6, 7] rfl rfl
  refine lp_X0_grantsLeft_18 l g cI cJ cZ mh kr kq fq bq gq rcv ncl bl rd hd jn sn fo bs gs0 r1 r2 r3 r4 sz lf rt tr h q1 q2 q3 q4 q5 q6 q7 n pa ch kd ad ra su un mk sv top S L R rc sp rq nu w hn hR hrl hbo hI hw1 hw hgs0 (rT S L R (cls top L R) sp rq w 1) u hu ⟨hx, hb, hr, hml, hown, hts, hlocks⟩ hk hP (fun v hZ ls hl => ?_) _ mk 1 0 (Nat.lt_succ_self _) (wrm_1 hR hI) (Nat.le_refl _) ls (lv_sub hl [3, 4, 2, 1, 0] rfl)
  · skip
    refine lv_iload_n hx hb dX0_grantsLeft_105 rfl (lv_at hl 0 rfl) ?_
    refine W.widen (k := 0) (n := 0) (by first | exact Nat.le_refl _ | omega) (by first | exact Nat.le_refl _ | omega) ?_
    exact k_retI (sz := 0) (v := nI v) hx hb hr hlocks hAe hS hP hD u (rfl) (⟨by rw [hZ], hu.1⟩) dX0_grantsLeft_106
set_option maxHeartbeats 4000000 in
set_option maxRecDepth 100000 in
theorem lp_X0_sortBySize_26 {p : Program} {e : Env} {s : State} {m : MethodId} {args : Array Value} {below : List Frame} {meth : Method} {c : Code} {Q : State → Prop} (l : Launch) (g : va_G) (cI cJ cZ : ClassId) (h mh kr kq fq bq gq : Nat) (rcv nc0 bl rd hd jn sn : Nat) (bs0 : Nat → Nat) (r1 r2 r3 r4 : Nat) (sz lf rt tr : Nat → Int32) (top : Nat) (S L R : Nat → Nat) (rc : Nat → Bool) (hR : RuleOK S L R rc top) (hrl : rOK S L R rc sz lf rt) (hrv : rcv < 2 ^ 31 ∧ ∀ k, 1 ≤ k → k ≤ 24 → (rcv / 2 ^ k &&& 1 = 1 ↔ rc k = true)) (k nc : Nat) (b0 : Nat → Nat) (ho : sO S rc k nc b0) (hkr : rc k = true) (hk9 : 1 ≤ k ∧ k ≤ 24) (C0 : cM p s m args meth c cX0_sortBySize 3 none wsX0_sortBySize RX0) (hk : kK g (kty cI cJ cZ) s) {A : Nat → Prop} {H0 : Heap} (hA : ∀ q : Nat, H0.size ≤ q → A q) (kk0 : ∀ (a : Nat) (bs1 : Nat → Nat), (sIn S k nc b0 a bs1) → (a = 0 ∨ S (b0 (a - 1)) ≤ S k) → ∀ (H : Heap) (locs : List Loc), va_P g vwCl [(mh, .inr (0, [.ref kr, .ref h, .ref kq, .ref fq, .ref bq, .ref gq, .int (nI rcv), .int (nI nc), .int (nI bl), .int (nI rd), .int (nI hd), .int (nI jn), .int (nI sn)])), (bq, .inl (cI, 24, .inl (fun j => nI (bs1 j)))), (kr, .inr (1, [.ref r1, .ref r2, .ref r3, .ref r4])), (r1, .inl (cI, 25, .inl sz)), (r2, .inl (cI, 25, .inl lf)), (r3, .inl (cI, 25, .inl rt)), (r4, .inl (cI, 25, .inl tr))] H → va_D A [(mh, .inr (0, [.ref kr, .ref h, .ref kq, .ref fq, .ref bq, .ref gq, .int (nI rcv), .int (nI nc), .int (nI bl), .int (nI rd), .int (nI hd), .int (nI jn), .int (nI sn)])), (bq, .inl (cI, 24, .inl (fun j => nI (bs1 j)))), (kr, .inr (1, [.ref r1, .ref r2, .ref r3, .ref r4])), (r1, .inl (cI, 25, .inl sz)), (r2, .inl (cI, 25, .inl lf)), (r3, .inl (cI, 25, .inl rt)), (r4, .inl (cI, 25, .inl tr))] → va_S A H0 H locs → ∀ (ls : Array Slot), lv_has ls 3 [(0, .ref mh), (1, .int (nI k)), (2, .int (nI a))] → W p l e (headSpec wsX0_sortBySize ({ frames := 1, cells := 0, slots := 0, locals := 21 })).room s m args below meth c H locs 0 0 Q (F0 m 78 ls [])) :
    ∀ (K : Nat) (a : Nat) (bs : Nat → Nat), a < K → (sIn S k nc b0 a bs) → ∀ (H : Heap) (locs : List Loc), va_P g vwCl [(mh, .inr (0, [.ref kr, .ref h, .ref kq, .ref fq, .ref bq, .ref gq, .int (nI rcv), .int (nI nc), .int (nI bl), .int (nI rd), .int (nI hd), .int (nI jn), .int (nI sn)])), (bq, .inl (cI, 24, .inl (fun j => nI (bs j)))), (kr, .inr (1, [.ref r1, .ref r2, .ref r3, .ref r4])), (r1, .inl (cI, 25, .inl sz)), (r2, .inl (cI, 25, .inl lf)), (r3, .inl (cI, 25, .inl rt)), (r4, .inl (cI, 25, .inl tr))] H → va_D A [(mh, .inr (0, [.ref kr, .ref h, .ref kq, .ref fq, .ref bq, .ref gq, .int (nI rcv), .int (nI nc), .int (nI bl), .int (nI rd), .int (nI hd), .int (nI jn), .int (nI sn)])), (bq, .inl (cI, 24, .inl (fun j => nI (bs j)))), (kr, .inr (1, [.ref r1, .ref r2, .ref r3, .ref r4])), (r1, .inl (cI, 25, .inl sz)), (r2, .inl (cI, 25, .inl lf)), (r3, .inl (cI, 25, .inl rt)), (r4, .inl (cI, 25, .inl tr))] → va_S A H0 H locs →∀ (ls : Array Slot), lv_has ls 3 [(0, .ref mh), (1, .int (nI k)), (2, .int (nI a))] → W p l e (headSpec wsX0_sortBySize ({ frames := 1, cells := 0, slots := 0, locals := 21 })).room s m args below meth c H locs 0 0 Q (F0 m 26 ls []) := by
  obtain ⟨hx, hb, hr, hml, hown, hts, hlocks⟩ := C0
  have hK := hk.1
  have hinX0 : ∀ w ∈ wsX00, w ∈ wsX0_sortBySize := by decide +kernel
  have hinX1 : ∀ w ∈ wsX10, w ∈ wsX0_sortBySize := by decide +kernel
  intro K
  induction K with
  | zero =>
    intro a bs h0
    exact absurd h0 (Nat.not_lt_zero _)
  | succ K ih =>
    intro a bs hmu hi9 H locs hP hD hS ls hl
    have hia := hi9.1
    have ho1 := ho.1
    have hrk := rl_kids hR hrl hkr
    have hSk : S k < 2 ^ 31 := hrk.2.2.2.2.2.2.2.2.2.1
    refine lv_iload_n hx hb dX0_sortBySize_26 rfl (lv_at hl 2 rfl) ?_
    refine n_if_le (tgt := 78) hx hb dX0_sortBySize_27 (by decide) (by omega) (fun c5 => ?_) (fun c5 => ?_)
    · skip
      exact kk0 a bs hi9 (Or.inl (by omega)) _ _ hP hD hS ls (lv_sub hl [0, 1, 2] rfl)
    · skip
      have hob := ho.2.1 (a - 1) (by omega)
      rw [← hi9.2.1 (a - 1) (by omega)] at hob
      have hrk2 := rl_kids hR hrl hob.1
      have hSa : S (bs (a - 1)) < 2 ^ 31 := hrk2.2.2.2.2.2.2.2.2.2.1
      have hba : bs (a - 1) ≤ 24 := hrk2.2.2.2.2.2.2.2.2.2.2
      refine lv_aload_n hx hb dX0_sortBySize_30 rfl (lv_at hl 0 rfl) ?_
      refine va_get (D := g) (ci := 0) (v := .ref kr) (C := RX0) (T := TX0) (N := 13) hx hb hts hinX0 hown hK hP 0 rfl rfl 0 (by decide) (hts (.fieldLink RX0 12 "BuddyRoof$Memory" "rule" "LBuddyRoof$Rule;") (by decide +kernel)) (fun _ h9 => h9) rfl dX0_sortBySize_31 ?_
      refine va_getN (D := g) (host := "BuddyRoof") (ci := 1) (v := .ref r1) (C := RX1) (T := TX1) (N := 4) hx hb hts hinX1 hown hK hP 2 rfl rfl 0 (by decide) (hk.2.f (h := "BuddyRoof") (by decide +kernel)) (fun _ h9 => h9) rfl dX0_sortBySize_34 ?_
      refine lv_aload_n hx hb dX0_sortBySize_37 rfl (lv_at hl 0 rfl) ?_
      refine va_get (D := g) (ci := 0) (v := .ref bq) (C := RX0) (T := TX0) (N := 13) hx hb hts hinX0 hown hK hP 0 rfl rfl 4 (by decide) (hts (.fieldLink RX0 32 "BuddyRoof$Memory" "bySize" "[I") (by decide +kernel)) (fun _ h9 => h9) rfl dX0_sortBySize_38 ?_
      refine lv_iload_n hx hb dX0_sortBySize_41 rfl (lv_at hl 2 rfl) ?_
      refine lv_iconst (v := nI 1) hx hb dX0_sortBySize_42 (by decide) ?_
      refine n_isub hx hb dX0_sortBySize_43 (by first | assumption | omega) ?_
      refine n_ald (v := nI (bs (a - 1))) hx hb hK hP 1 0 rfl rfl (i := (a - 1)) (by first | assumption | omega) (by decide) rfl dX0_sortBySize_44 ?_
      refine n_ald (v := nI (S (bs (a - 1)))) hx hb hK hP 3 0 rfl rfl (i := (bs (a - 1))) (by first | assumption | omega) (by first | assumption | omega) (by exact hrk2.1) dX0_sortBySize_45 ?_
      refine lv_aload_n hx hb dX0_sortBySize_46 rfl (lv_at hl 0 rfl) ?_
      refine va_get (D := g) (ci := 0) (v := .ref kr) (C := RX0) (T := TX0) (N := 13) hx hb hts hinX0 hown hK hP 0 rfl rfl 0 (by decide) (hts (.fieldLink RX0 12 "BuddyRoof$Memory" "rule" "LBuddyRoof$Rule;") (by decide +kernel)) (fun _ h9 => h9) rfl dX0_sortBySize_47 ?_
      refine va_getN (D := g) (host := "BuddyRoof") (ci := 1) (v := .ref r1) (C := RX1) (T := TX1) (N := 4) hx hb hts hinX1 hown hK hP 2 rfl rfl 0 (by decide) (hk.2.f (h := "BuddyRoof") (by decide +kernel)) (fun _ h9 => h9) rfl dX0_sortBySize_50 ?_
      refine lv_iload_n hx hb dX0_sortBySize_53 rfl (lv_at hl 1 rfl) ?_
      refine n_ald (v := nI (S k)) hx hb hK hP 3 0 rfl rfl (i := k) (by first | assumption | omega) (by first | assumption | omega) (by exact hrk.1) dX0_sortBySize_54 ?_
      refine n_icmp_le (tgt := 78) hx hb dX0_sortBySize_55 (by decide) (by first | assumption | omega) (by first | assumption | omega) (fun c6 => ?_) (fun c6 => ?_)
      · skip
        exact kk0 a bs hi9 (Or.inr (by rw [← hi9.2.1 (a - 1) (by omega)]; omega)) _ _ hP hD hS ls (lv_sub hl [0, 1, 2] rfl)
      · skip
        refine lv_aload_n hx hb dX0_sortBySize_58 rfl (lv_at hl 0 rfl) ?_
        refine va_get (D := g) (ci := 0) (v := .ref bq) (C := RX0) (T := TX0) (N := 13) hx hb hts hinX0 hown hK hP 0 rfl rfl 4 (by decide) (hts (.fieldLink RX0 32 "BuddyRoof$Memory" "bySize" "[I") (by decide +kernel)) (fun _ h9 => h9) rfl dX0_sortBySize_59 ?_
        refine lv_iload_n hx hb dX0_sortBySize_62 rfl (lv_at hl 2 rfl) ?_
        refine lv_aload_n hx hb dX0_sortBySize_63 rfl (lv_at hl 0 rfl) ?_
        refine va_get (D := g) (ci := 0) (v := .ref bq) (C := RX0) (T := TX0) (N := 13) hx hb hts hinX0 hown hK hP 0 rfl rfl 4 (by decide) (hts (.fieldLink RX0 32 "BuddyRoof$Memory" "bySize" "[I") (by decide +kernel)) (fun _ h9 => h9) rfl dX0_sortBySize_64 ?_
        refine lv_iload_n hx hb dX0_sortBySize_67 rfl (lv_at hl 2 rfl) ?_
        refine lv_iconst (v := nI 1) hx hb dX0_sortBySize_68 (by decide) ?_
        refine n_isub hx hb dX0_sortBySize_69 (by first | assumption | omega) ?_
        refine n_ald (v := nI (bs (a - 1))) hx hb hK hP 1 0 rfl rfl (i := (a - 1)) (by first | assumption | omega) (by decide) rfl dX0_sortBySize_70 ?_
        refine n_ast hx hb hK hP hD hS 1 0 rfl rfl (i := a) (v := (bs (a - 1))) (by first | assumption | omega) (by decide) dX0_sortBySize_71 (fun H locs hP hD hS => ?_)
        have hP : va_P g vwCl [(mh, .inr (0, [.ref kr, .ref h, .ref kq, .ref fq, .ref bq, .ref gq, .int (nI rcv), .int (nI nc), .int (nI bl), .int (nI rd), .int (nI hd), .int (nI jn), .int (nI sn)])), (bq, .inl (cI, 24, .inl (fun j => nI ((upN bs a (bs (a - 1))) j)))), (kr, .inr (1, [.ref r1, .ref r2, .ref r3, .ref r4])), (r1, .inl (cI, 25, .inl sz)), (r2, .inl (cI, 25, .inl lf)), (r3, .inl (cI, 25, .inl rt)), (r4, .inl (cI, 25, .inl tr))] H := hP
        have hD : va_D A [(mh, .inr (0, [.ref kr, .ref h, .ref kq, .ref fq, .ref bq, .ref gq, .int (nI rcv), .int (nI nc), .int (nI bl), .int (nI rd), .int (nI hd), .int (nI jn), .int (nI sn)])), (bq, .inl (cI, 24, .inl (fun j => nI ((upN bs a (bs (a - 1))) j)))), (kr, .inr (1, [.ref r1, .ref r2, .ref r3, .ref r4])), (r1, .inl (cI, 25, .inl sz)), (r2, .inl (cI, 25, .inl lf)), (r3, .inl (cI, 25, .inl rt)), (r4, .inl (cI, 25, .inl tr))] := hD
        refine lv_iinc (v := nI (a - 1)) (lv' := [(2, .int (nI (a - 1))), (0, .ref mh), (1, .int (nI k))]) hx hb dX0_sortBySize_72 hl (k := 2) rfl (n_dec (k := 1) (by omega)) (by decide) rfl (fun ls hl => ?_)
        refine lv_goto (tgt := 26) hx hb dX0_sortBySize_75 (by decide) ?_
        exact ih (a - 1) (upN bs a (bs (a - 1))) (by omega) (sIn_step hi9 (by omega) (by rw [← hi9.2.1 (a - 1) (by omega)]; omega)) _ _ hP hD hS ls (lv_sub hl [1, 2, 0] rfl)

set_option maxHeartbeats 4000000 in
set_option maxRecDepth 100000 in
theorem lp_X0_sortBySize_7 {p : Program} {e : Env} {s : State} {m : MethodId} {args : Array Value} {below : List Frame} {meth : Method} {c : Code} {Q : State → Prop} (l : Launch) (g : va_G) (cI cJ cZ : ClassId) (h mh kr kq fq bq gq : Nat) (rcv nc0 bl rd hd jn sn : Nat) (bs0 : Nat → Nat) (r1 r2 r3 r4 : Nat) (sz lf rt tr : Nat → Int32) (top : Nat) (S L R : Nat → Nat) (rc : Nat → Bool) (hR : RuleOK S L R rc top) (hrl : rOK S L R rc sz lf rt) (hrv : rcv < 2 ^ 31 ∧ ∀ k, 1 ≤ k → k ≤ 24 → (rcv / 2 ^ k &&& 1 = 1 ↔ rc k = true))  (C0 : cM p s m args meth c cX0_sortBySize 3 none wsX0_sortBySize RX0) (hk : kK g (kty cI cJ cZ) s) {A : Nat → Prop} {H0 : Heap} (hA : ∀ q : Nat, H0.size ≤ q → A q) (kk0 : ∀ (nc : Nat) (bs : Nat → Nat), (bOK S rc nc bs) → ∀ (H : Heap) (locs : List Loc), va_P g vwCl [(mh, .inr (0, [.ref kr, .ref h, .ref kq, .ref fq, .ref bq, .ref gq, .int (nI rcv), .int (nI nc), .int (nI bl), .int (nI rd), .int (nI hd), .int (nI jn), .int (nI sn)])), (bq, .inl (cI, 24, .inl (fun j => nI (bs j)))), (kr, .inr (1, [.ref r1, .ref r2, .ref r3, .ref r4])), (r1, .inl (cI, 25, .inl sz)), (r2, .inl (cI, 25, .inl lf)), (r3, .inl (cI, 25, .inl rt)), (r4, .inl (cI, 25, .inl tr))] H → va_D A [(mh, .inr (0, [.ref kr, .ref h, .ref kq, .ref fq, .ref bq, .ref gq, .int (nI rcv), .int (nI nc), .int (nI bl), .int (nI rd), .int (nI hd), .int (nI jn), .int (nI sn)])), (bq, .inl (cI, 24, .inl (fun j => nI (bs j)))), (kr, .inr (1, [.ref r1, .ref r2, .ref r3, .ref r4])), (r1, .inl (cI, 25, .inl sz)), (r2, .inl (cI, 25, .inl lf)), (r3, .inl (cI, 25, .inl rt)), (r4, .inl (cI, 25, .inl tr))] → va_S A H0 H locs → ∀ (ls : Array Slot), lv_has ls 3 [] → W p l e (headSpec wsX0_sortBySize ({ frames := 1, cells := 0, slots := 0, locals := 21 })).room s m args below meth c H locs 0 0 Q (F0 m 101 ls [])) :
    ∀ (K : Nat) (k nc : Nat) (bs : Nat → Nat), (25 - k) < K → (1 ≤ k ∧ k ≤ 25) → (sO S rc k nc bs) → ∀ (H : Heap) (locs : List Loc), va_P g vwCl [(mh, .inr (0, [.ref kr, .ref h, .ref kq, .ref fq, .ref bq, .ref gq, .int (nI rcv), .int (nI nc), .int (nI bl), .int (nI rd), .int (nI hd), .int (nI jn), .int (nI sn)])), (bq, .inl (cI, 24, .inl (fun j => nI (bs j)))), (kr, .inr (1, [.ref r1, .ref r2, .ref r3, .ref r4])), (r1, .inl (cI, 25, .inl sz)), (r2, .inl (cI, 25, .inl lf)), (r3, .inl (cI, 25, .inl rt)), (r4, .inl (cI, 25, .inl tr))] H → va_D A [(mh, .inr (0, [.ref kr, .ref h, .ref kq, .ref fq, .ref bq, .ref gq, .int (nI rcv), .int (nI nc), .int (nI bl), .int (nI rd), .int (nI hd), .int (nI jn), .int (nI sn)])), (bq, .inl (cI, 24, .inl (fun j => nI (bs j)))), (kr, .inr (1, [.ref r1, .ref r2, .ref r3, .ref r4])), (r1, .inl (cI, 25, .inl sz)), (r2, .inl (cI, 25, .inl lf)), (r3, .inl (cI, 25, .inl rt)), (r4, .inl (cI, 25, .inl tr))] → va_S A H0 H locs →∀ (ls : Array Slot), lv_has ls 3 [(0, .ref mh), (1, .int (nI k))] → W p l e (headSpec wsX0_sortBySize ({ frames := 1, cells := 0, slots := 0, locals := 21 })).room s m args below meth c H locs 0 0 Q (F0 m 7 ls []) := by
  obtain ⟨hx, hb, hr, hml, hown, hts, hlocks⟩ := C0
  have hK := hk.1
  have hinX0 : ∀ w ∈ wsX00, w ∈ wsX0_sortBySize := by decide +kernel
  have hinX1 : ∀ w ∈ wsX10, w ∈ wsX0_sortBySize := by decide +kernel
  intro K
  induction K with
  | zero =>
    intro k nc bs h0
    exact absurd h0 (Nat.not_lt_zero _)
  | succ K ih =>
    intro k nc bs hmu hk9 ho H locs hP hD hS ls hl
    have ho1 := ho.1
    refine lv_iload_n hx hb dX0_sortBySize_7 rfl (lv_at hl 1 rfl) ?_
    refine lv_bipush (v := nI 24) hx hb dX0_sortBySize_8 (by decide) ?_
    refine n_icmp_gt (tgt := 101) hx hb dX0_sortBySize_10 (by decide) (by first | assumption | omega) (by first | assumption | omega) (fun c7 => ?_) (fun c7 => ?_)
    · skip
      exact kk0 nc bs (sO_end hR (by rw [show 25 = k by omega]; exact ho)) _ _ hP hD hS ls (lv_sub hl [] rfl)
    · skip
      refine lv_aload_n hx hb dX0_sortBySize_13 rfl (lv_at hl 0 rfl) ?_
      refine lv_iload_n hx hb dX0_sortBySize_14 rfl (lv_at hl 1 rfl) ?_
      refine k_goR (W.runV (As := [.int (nI k)]) (rest := []) ⟨hx, hb, hml, hown, hts⟩ (c_X0_reaches l g cI cJ cZ mh kr kq fq bq gq rcv nc bl rd hd jn sn (fun _ => 0) h k hrv.1 (by omega)) (cwV 1 hts gX0_sortBySize_X0_reaches rfl rfl rfl (by decide +kernel) ⟨Nat.le_of_ble_eq_true rfl, Nat.le_of_ble_eq_true rfl⟩) (k_preRV hk hP [0] rfl (ci := 0) (q0 := 0) rfl rfl) rfl rfl hl.1 rfl (lv_room (Nat.le_of_ble_eq_true rfl)) dX0_sortBySize_15 ⟨by first | exact Nat.zero_le _ | omega, by first | exact Nat.zero_le _ | omega⟩) ?_
      refine k_ifeq (tgt := 95) hx hb dX0_sortBySize_18 (by decide) (fun c8 => ?_) (fun c8 => ?_)
      · skip
        refine lv_iinc (v := nI (k + 1)) (lv' := [(1, .int (nI (k + 1))), (0, .ref mh)]) hx hb dX0_sortBySize_95 hl (k := 1) rfl (n_inc _ 1) (by decide) rfl (fun ls hl => ?_)
        refine lv_goto (tgt := 7) hx hb dX0_sortBySize_98 (by decide) ?_
        exact ih (k + 1) nc bs (by omega) (by omega) (sO_skip ho (by cases e9 : rc k; rfl; exact absurd ((hrv.2 k (by omega) (by omega)).mpr e9) c8)) _ _ hP hD hS ls (lv_sub hl [1, 0] rfl)
      · skip
        have hkr : rc k = true := (hrv.2 k (by omega) (by omega)).mp c8
        have hk24 : 1 ≤ k ∧ k ≤ 24 := by omega
        refine lv_aload_n hx hb dX0_sortBySize_21 rfl (lv_at hl 0 rfl) ?_
        refine va_get (D := g) (ci := 0) (v := .int (nI nc)) (C := RX0) (T := TX0) (N := 13) hx hb hts hinX0 hown hK hP 0 rfl rfl 7 (by decide) (hts (.fieldLink RX0 42 "BuddyRoof$Memory" "classes" "I") (by decide +kernel)) (fun _ h9 => h9) rfl dX0_sortBySize_22 ?_
        refine lv_istore_n (lv' := [(2, .int (nI nc)), (0, .ref mh), (1, .int (nI k))]) hx hb dX0_sortBySize_25 rfl hl (by decide) rfl (fun ls hl => ?_)
        refine lp_X0_sortBySize_26 l g cI cJ cZ h mh kr kq fq bq gq rcv nc0 bl rd hd jn sn bs0 r1 r2 r3 r4 sz lf rt tr top S L R rc hR hrl hrv k nc bs ho hkr hk24 ⟨hx, hb, hr, hml, hown, hts, hlocks⟩ hk hA (fun a bs1 hi9 hx9 H locs hP hD hS ls hl => ?_) _ nc bs (Nat.lt_succ_self _) sIn_0 _ _ hP hD hS ls (lv_sub hl [1, 2, 0] rfl)
        · skip
          refine lv_aload_n hx hb dX0_sortBySize_78 rfl (lv_at hl 0 rfl) ?_
          refine va_get (D := g) (ci := 0) (v := .ref bq) (C := RX0) (T := TX0) (N := 13) hx hb hts hinX0 hown hK hP 0 rfl rfl 4 (by decide) (hts (.fieldLink RX0 32 "BuddyRoof$Memory" "bySize" "[I") (by decide +kernel)) (fun _ h9 => h9) rfl dX0_sortBySize_79 ?_
          refine lv_iload_n hx hb dX0_sortBySize_82 rfl (lv_at hl 2 rfl) ?_
          refine lv_iload_n hx hb dX0_sortBySize_83 rfl (lv_at hl 1 rfl) ?_
          refine n_ast hx hb hK hP hD hS 1 0 rfl rfl (i := a) (v := k) (by have := hi9.1; omega) (by decide) dX0_sortBySize_84 (fun H locs hP hD hS => ?_)
          have hP : va_P g vwCl [(mh, .inr (0, [.ref kr, .ref h, .ref kq, .ref fq, .ref bq, .ref gq, .int (nI rcv), .int (nI nc), .int (nI bl), .int (nI rd), .int (nI hd), .int (nI jn), .int (nI sn)])), (bq, .inl (cI, 24, .inl (fun j => nI ((upN bs1 a k) j)))), (kr, .inr (1, [.ref r1, .ref r2, .ref r3, .ref r4])), (r1, .inl (cI, 25, .inl sz)), (r2, .inl (cI, 25, .inl lf)), (r3, .inl (cI, 25, .inl rt)), (r4, .inl (cI, 25, .inl tr))] H := hP
          have hD : va_D A [(mh, .inr (0, [.ref kr, .ref h, .ref kq, .ref fq, .ref bq, .ref gq, .int (nI rcv), .int (nI nc), .int (nI bl), .int (nI rd), .int (nI hd), .int (nI jn), .int (nI sn)])), (bq, .inl (cI, 24, .inl (fun j => nI ((upN bs1 a k) j)))), (kr, .inr (1, [.ref r1, .ref r2, .ref r3, .ref r4])), (r1, .inl (cI, 25, .inl sz)), (r2, .inl (cI, 25, .inl lf)), (r3, .inl (cI, 25, .inl rt)), (r4, .inl (cI, 25, .inl tr))] := hD
          refine lv_aload_n hx hb dX0_sortBySize_85 rfl (lv_at hl 0 rfl) ?_
          refine lv_dup hx hb dX0_sortBySize_86 rfl ?_
          refine va_get (D := g) (ci := 0) (v := .int (nI nc)) (C := RX0) (T := TX0) (N := 13) hx hb hts hinX0 hown hK hP 0 rfl rfl 7 (by decide) (hts (.fieldLink RX0 42 "BuddyRoof$Memory" "classes" "I") (by decide +kernel)) (fun _ h9 => h9) rfl dX0_sortBySize_87 ?_
          refine lv_iconst (v := nI 1) hx hb dX0_sortBySize_90 (by decide) ?_
          refine n_iadd hx hb dX0_sortBySize_91 ?_
          refine va_put (D := g) (ci := 0) (v := .int (nI (nc + 1))) (ty := .int) (C := RX0) (T := TX0) (N := 13) hx hb hts hinX0 tyX0 tyX0_ok nmX0 hown hK hP hD hS 0 rfl rfl 7 (by decide) (hts (.fieldLink RX0 42 "BuddyRoof$Memory" "classes" "I") (by decide +kernel)) (fun _ h9 => h9) rfl (by decide +kernel) rfl rfl (Nat.le_of_ble_eq_true rfl) dX0_sortBySize_92 (fun H locs hP hD hS => ?_)
          have hP : va_P g vwCl [(mh, .inr (0, [.ref kr, .ref h, .ref kq, .ref fq, .ref bq, .ref gq, .int (nI rcv), .int (nI (nc + 1)), .int (nI bl), .int (nI rd), .int (nI hd), .int (nI jn), .int (nI sn)])), (bq, .inl (cI, 24, .inl (fun j => nI ((upN bs1 a k) j)))), (kr, .inr (1, [.ref r1, .ref r2, .ref r3, .ref r4])), (r1, .inl (cI, 25, .inl sz)), (r2, .inl (cI, 25, .inl lf)), (r3, .inl (cI, 25, .inl rt)), (r4, .inl (cI, 25, .inl tr))] H := hP
          have hD : va_D A [(mh, .inr (0, [.ref kr, .ref h, .ref kq, .ref fq, .ref bq, .ref gq, .int (nI rcv), .int (nI (nc + 1)), .int (nI bl), .int (nI rd), .int (nI hd), .int (nI jn), .int (nI sn)])), (bq, .inl (cI, 24, .inl (fun j => nI ((upN bs1 a k) j)))), (kr, .inr (1, [.ref r1, .ref r2, .ref r3, .ref r4])), (r1, .inl (cI, 25, .inl sz)), (r2, .inl (cI, 25, .inl lf)), (r3, .inl (cI, 25, .inl rt)), (r4, .inl (cI, 25, .inl tr))] := hD
          refine lv_iinc (v := nI (k + 1)) (lv' := [(1, .int (nI (k + 1))), (0, .ref mh), (2, .int (nI a))]) hx hb dX0_sortBySize_95 hl (k := 1) rfl (n_inc _ 1) (by decide) rfl (fun ls hl => ?_)
          refine lv_goto (tgt := 7) hx hb dX0_sortBySize_98 (by decide) ?_
          exact ih (k + 1) (nc + 1) (upN bs1 a k) (by omega) (by omega) (sO_ins ho hkr hi9 hx9) _ _ hP hD hS ls (lv_sub hl [1, 0] rfl)

set_option maxHeartbeats 4000000 in
set_option maxRecDepth 100000 in
theorem c_X0_sortBySize (l : Launch) (g : va_G) (cI cJ cZ : ClassId) (h mh kr kq fq bq gq : Nat) (rcv nc0 bl rd hd jn sn : Nat) (bs0 : Nat → Nat) (r1 r2 r3 r4 : Nat) (sz lf rt tr : Nat → Int32) (top : Nat) (S L R : Nat → Nat) (rc : Nat → Bool) (hR : RuleOK S L R rc top) (hrl : rOK S L R rc sz lf rt) (hrv : rcv < 2 ^ 31 ∧ ∀ k, 1 ≤ k → k ≤ 24 → (rcv / 2 ^ k &&& 1 = 1 ↔ rc k = true)) : kV l g (kty cI cJ cZ) yX0_sortBySize wsX0_sortBySize ({ frames := 1, cells := 0, slots := 0, locals := 21 }) [.ref mh] [(mh, .inr (0, [.ref kr, .ref h, .ref kq, .ref fq, .ref bq, .ref gq, .int (nI rcv), .int (nI nc0), .int (nI bl), .int (nI rd), .int (nI hd), .int (nI jn), .int (nI sn)])), (bq, .inl (cI, 24, .inl (fun j => nI (bs0 j)))), (kr, .inr (1, [.ref r1, .ref r2, .ref r3, .ref r4])), (r1, .inl (cI, 25, .inl sz)), (r2, .inl (cI, 25, .inl lf)), (r3, .inl (cI, 25, .inl rt)), (r4, .inl (cI, 25, .inl tr))] (S := Nat × (Nat → Nat)) (fun u => bOK S rc u.1 u.2) (fun u => [(mh, .inr (0, [.ref kr, .ref h, .ref kq, .ref fq, .ref bq, .ref gq, .int (nI rcv), .int (nI (u.1)), .int (nI bl), .int (nI rd), .int (nI hd), .int (nI jn), .int (nI sn)])), (bq, .inl (cI, 24, .inl (fun j => nI (u.2 j)))), (kr, .inr (1, [.ref r1, .ref r2, .ref r3, .ref r4])), (r1, .inl (cI, 25, .inl sz)), (r2, .inl (cI, 25, .inl lf)), (r3, .inl (cI, 25, .inl rt)), (r4, .inl (cI, 25, .inl tr))]) 0 0 := by
  intro sz
  refine Met.ofW (cc := cX0_sortBySize) (maxL := 3) (ret := none) (by decide) rfl ?_
  intro p e s m args below meth c s₁ B hml hv
  obtain ⟨rfl, hsz, hP, hk, hD0⟩ := hv
  subst hsz
  have hx := B.exec
  have hb := B.bytes
  have hr := B.returns
  have hts := atoms_spec (ws := wsX0_sortBySize) B.pre
  have hown : s.vm.findClass RX0 = some m.cls := findClass_of_methodNamed B.named
  have hlocks := B.notSynchronized
  have hK := hk.1
  have hinX0 : ∀ w ∈ wsX00, w ∈ wsX0_sortBySize := by decide +kernel
  have hinX1 : ∀ w ∈ wsX10, w ∈ wsX0_sortBySize := by decide +kernel
  obtain ⟨A, hAe⟩ : ∃ A, va_A [(mh, .inr (0, [.ref kr, .ref h, .ref kq, .ref fq, .ref bq, .ref gq, .int (nI rcv), .int (nI nc0), .int (nI bl), .int (nI rd), .int (nI hd), .int (nI jn), .int (nI sn)])), (bq, .inl (cI, 24, .inl (fun j => nI (bs0 j)))), (kr, .inr (1, [.ref r1, .ref r2, .ref r3, .ref r4])), (r1, .inl (cI, 25, .inl sz)), (r2, .inl (cI, 25, .inl lf)), (r3, .inl (cI, 25, .inl rt)), (r4, .inl (cI, 25, .inl tr))] s.heap.size = A := ⟨_, rfl⟩
  have hD := hD0.self (sz := s.heap.size)
  rw [hAe] at hD
  have hA : ∀ q : Nat, s.heap.size ≤ q → A q := fun q h => by rw [← hAe]; exact Or.inr h
  have hS : va_S A s.heap s.heap [] := va_S.rf
  have hl := lv_entry ([.ref mh]) (n := 3) (Nat.le_of_ble_eq_true rfl)
  rw [lg_entry_eq]
  generalize (lg_sl ([.ref mh]) ++ List.replicate (3 - (lg_sl ([.ref mh])).length) Slot.unset).toArray = ls at hl ⊢
  have hl : lv_has ls 3 [(0, .ref mh)] := hl
  refine lv_aload_n hx hb dX0_sortBySize_0 rfl (lv_at hl 0 rfl) ?_
  refine lv_iconst (v := nI 0) hx hb dX0_sortBySize_1 (by decide) ?_
  refine va_put (D := g) (ci := 0) (v := .int (nI 0)) (ty := .int) (C := RX0) (T := TX0) (N := 13) hx hb hts hinX0 tyX0 tyX0_ok nmX0 hown hK hP hD hS 0 rfl rfl 7 (by decide) (hts (.fieldLink RX0 42 "BuddyRoof$Memory" "classes" "I") (by decide +kernel)) (fun _ h9 => h9) rfl (by decide +kernel) rfl rfl (Nat.le_of_ble_eq_true rfl) dX0_sortBySize_2 (fun H locs hP hD hS => ?_)
  have hP : va_P g vwCl [(mh, .inr (0, [.ref kr, .ref h, .ref kq, .ref fq, .ref bq, .ref gq, .int (nI rcv), .int (nI 0), .int (nI bl), .int (nI rd), .int (nI hd), .int (nI jn), .int (nI sn)])), (bq, .inl (cI, 24, .inl (fun j => nI (bs0 j)))), (kr, .inr (1, [.ref r1, .ref r2, .ref r3, .ref r4])), (r1, .inl (cI, 25, .inl sz)), (r2, .inl (cI, 25, .inl lf)), (r3, .inl (cI, 25, .inl rt)), (r4, .inl (cI, 25, .inl tr))] H := hP
  have hD : va_D A [(mh, .inr (0, [.ref kr, .ref h, .ref kq, .ref fq, .ref bq, .ref gq, .int (nI rcv), .int (nI 0), .int (nI bl), .int (nI rd), .int (nI hd), .int (nI jn), .int (nI sn)])), (bq, .inl (cI, 24, .inl (fun j => nI (bs0 j)))), (kr, .inr (1, [.ref r1, .ref r2, .ref r3, .ref r4])), (r1, .inl (cI, 25, .inl sz)), (r2, .inl (cI, 25, .inl lf)), (r3, .inl (cI, 25, .inl rt)), (r4, .inl (cI, 25, .inl tr))] := hD
  refine lv_iconst (v := nI 1) hx hb dX0_sortBySize_5 (by decide) ?_
  refine lv_istore_n (lv' := [(1, .int (nI 1)), (0, .ref mh)]) hx hb dX0_sortBySize_6 rfl hl (by decide) rfl (fun ls hl => ?_)
  refine lp_X0_sortBySize_7 l g cI cJ cZ h mh kr kq fq bq gq rcv nc0 bl rd hd jn sn bs0 r1 r2 r3 r4 sz lf rt tr top S L R rc hR hrl hrv  ⟨hx, hb, hr, hml, hown, hts, hlocks⟩ hk hA (fun nc bs ho H locs hP hD hS ls hl => ?_) _ 1 0 bs0 (Nat.lt_succ_self _) (by omega) (sO_1 hR) _ _ hP hD hS ls (lv_sub hl [1, 0] rfl)
  · skip
    refine W.widen (k := 0) (n := 0) (by first | exact Nat.le_refl _ | omega) (by first | exact Nat.le_refl _ | omega) ?_
    exact k_retV (sz := 0) hx hb hr hlocks hAe hS hP hD (nc, bs) (rfl) (ho) dX0_sortBySize_101
