set_option maxHeartbeats 4000000 in
set_option maxRecDepth 100000 in
theorem lp_X0_tightest_7 {p : Program} {e : Env} {s : State} {m : MethodId} {args : Array Value} {below : List Frame} {meth : Method} {c : Code} {Q : State → Prop} (l : Launch) (g : va_G) (cI cJ cZ : ClassId) (mh kr kq fq bq gq : Nat) (rcv ncl bl rd hd jn sn : Nat) (fo : Nat → Nat) (bs : Nat → Nat) (r1 r2 r3 r4 : Nat) (sz lf rt tr : Nat → Int32) (h q1 q2 q3 q4 q5 q6 q7 n : Nat) (pa ch kd ad ra su un : Nat → Nat) (mk sv : Nat) (top : Nat) (S L R : Nat → Nat) (rc : Nat → Bool) (sp : Nat → Bool) (rq nu : Nat → Nat) (w : Nat) (hn : n < 2 ^ 25) (hR : RuleOK S L R rc top) (hrl : rOK S L R rc sz lf rt) (hbo : bOK S rc ncl bs) (hI : wI top S L R sp rq nu ([]) n mk sv pa ch kd ad ra su un fo bl rd hd) (hw : w < 2 ^ 31)  (C0 : cM p s m args meth c cX0_tightest 6 (some .int) wsX0_tightest RX0) (hk : kK g (kty cI cJ cZ) s) {H : Heap} {locs : List Loc} (hP : va_P g vwCl [(mh, .inr (0, [.ref kr, .ref h, .ref kq, .ref fq, .ref bq, .ref gq, .int (nI rcv), .int (nI ncl), .int (nI bl), .int (nI rd), .int (nI hd), .int (nI jn), .int (nI sn)])), (bq, .inl (cI, 24, .inl (fun j => nI (bs j)))), (kr, .inr (1, [.ref r1, .ref r2, .ref r3, .ref r4])), (r1, .inl (cI, 25, .inl sz)), (r2, .inl (cI, 25, .inl lf)), (r3, .inl (cI, 25, .inl rt)), (r4, .inl (cI, 25, .inl tr)), (h, .inr (2, [.ref q1, .ref q2, .ref q3, .ref q4, .ref q5, .ref q6, .ref q7, .int (nI mk), .int (nI sv)])), (q1, .inl (cI, n, .inl (fun j => nI (pa j)))), (q2, .inl (cI, n, .inl (fun j => nI (ch j)))), (q3, .inl (cI, n, .inl (fun j => nI (kd j)))), (q4, .inl (cI, n, .inl (fun j => nI (ad j)))), (q5, .inl (cI, n, .inl (fun j => nI (ra j)))), (q6, .inl (cI, n, .inl (fun j => nI (su j)))), (q7, .inl (cI, n, .inl (fun j => nI (un j))))] H) (kk0 : ∀ (M : Nat), (tM S rc (fun k => (su 1).testBit k) w M ∧ M < 2 ^ 25) → ∀ (ls : Array Slot), lv_has ls 6 [(0, .ref mh), (2, .int (nI M))] → W p l e (headSpec wsX0_tightest ({ frames := 1, cells := 0, slots := 0, locals := 25 })).room s m args below meth c H locs 0 0 Q (F0 m 96 ls [])) :
    ∀ (K : Nat) (k i M z : Nat), k < K → (i + k = ncl) → (tMi S rc (fun k => (su 1).testBit k) w bs i M z) → ∀ (ls : Array Slot), lv_has ls 6 [(0, .ref mh), (1, .int (nI w)), (2, .int (nI M)), (3, .int (nI z)), (4, .int (nI i))] → W p l e (headSpec wsX0_tightest ({ frames := 1, cells := 0, slots := 0, locals := 25 })).room s m args below meth c H locs 0 0 Q (F0 m 7 ls []) := by
  obtain ⟨hx, hb, hr, hml, hown, hts, hlocks⟩ := C0
  have hK := hk.1
  have hinX0 : ∀ w ∈ wsX00, w ∈ wsX0_tightest := by decide +kernel
  have hinX1 : ∀ w ∈ wsX10, w ∈ wsX0_tightest := by decide +kernel
  intro K
  induction K with
  | zero =>
    intro k i M z h0
    exact absurd h0 (Nat.not_lt_zero _)
  | succ K ih =>
    intro k i M z hmu hf hT9 ls hl
    have hz31 := hT9.2.2.2
    have hM25 := hT9.2.2.1
    have hM31 : M < 2 ^ 31 := by omega
    obtain ⟨a1, a2, a3, a4, a5, a6, a7, a8, -⟩ := hI.1.2.2.2.2.1
    have hn31 : n < 2 ^ 31 := by omega
    have hml9 := mk_len hI
    have hbo0 := hbo.1
    refine lv_iload hx hb dX0_tightest_7 (lv_at hl 4 rfl) ?_
    refine lv_aload_n hx hb dX0_tightest_9 rfl (lv_at hl 0 rfl) ?_
    refine va_get (D := g) (ci := 0) (v := .int (nI ncl)) (C := RX0) (T := TX0) (N := 13) hx hb hts hinX0 hown hK hP 0 rfl rfl 7 (by decide) (hts (.fieldLink RX0 42 "BuddyRoof$Memory" "classes" "I") (by decide +kernel)) (fun _ h9 => h9) rfl dX0_tightest_10 ?_
    refine n_icmp_ge (tgt := 96) hx hb dX0_tightest_13 (by decide) (by first | assumption | omega) (by first | assumption | omega) (fun c6 => ?_) (fun c6 => ?_)
    · skip
      exact kk0 M (⟨tMi_end hbo (by rw [show ncl = i by omega]; exact hT9), hT9.2.2.1⟩) ls (lv_sub hl [0, 2] rfl)
    · skip
      have hrc9 := hbo.2.1 i (by omega)
      have hrk := rl_kids hR hrl hrc9
      have hbi : bs i ≤ 24 := hrk.2.2.2.2.2.2.2.2.2.2
      have hSi : S (bs i) < 2 ^ 31 := hrk.2.2.2.2.2.2.2.2.2.1
      refine lv_aload_n hx hb dX0_tightest_16 rfl (lv_at hl 0 rfl) ?_
      refine va_get (D := g) (ci := 0) (v := .ref bq) (C := RX0) (T := TX0) (N := 13) hx hb hts hinX0 hown hK hP 0 rfl rfl 4 (by decide) (hts (.fieldLink RX0 32 "BuddyRoof$Memory" "bySize" "[I") (by decide +kernel)) (fun _ h9 => h9) rfl dX0_tightest_17 ?_
      refine lv_iload hx hb dX0_tightest_20 (lv_at hl 4 rfl) ?_
      refine n_ald (v := nI (bs i)) hx hb hK hP 1 0 rfl rfl (i := i) (by omega) (by first | assumption | omega) rfl dX0_tightest_22 ?_
      refine lv_istore (lv' := [(5, .int (nI (bs i))), (0, .ref mh), (1, .int (nI w)), (2, .int (nI M)), (3, .int (nI z)), (4, .int (nI i))]) hx hb dX0_tightest_23 hl (by decide) rfl (fun ls hl => ?_)
      refine lv_aload_n hx hb dX0_tightest_25 rfl (lv_at hl 1 rfl) ?_
      refine va_get (D := g) (ci := 0) (v := .ref kr) (C := RX0) (T := TX0) (N := 13) hx hb hts hinX0 hown hK hP 0 rfl rfl 0 (by decide) (hts (.fieldLink RX0 12 "BuddyRoof$Memory" "rule" "LBuddyRoof$Rule;") (by decide +kernel)) (fun _ h9 => h9) rfl dX0_tightest_26 ?_
      refine va_getN (D := g) (host := "BuddyRoof") (ci := 1) (v := .ref r1) (C := RX1) (T := TX1) (N := 4) hx hb hts hinX1 hown hK hP 2 rfl rfl 0 (by decide) (hk.2.f (h := "BuddyRoof") (by decide +kernel)) (fun _ h9 => h9) rfl dX0_tightest_29 ?_
      refine lv_iload hx hb dX0_tightest_32 (lv_at hl 0 rfl) ?_
      refine n_ald (v := nI (S (bs i))) hx hb hK hP 3 0 rfl rfl (i := (bs i)) (by first | assumption | omega) (by first | assumption | omega) (by exact hrk.1) dX0_tightest_34 ?_
      refine lv_iload_n hx hb dX0_tightest_35 rfl (lv_at hl 2 rfl) ?_
      refine n_icmp_lt (tgt := 90) hx hb dX0_tightest_36 (by decide) (by first | assumption | omega) (by first | assumption | omega) (fun c7 => ?_) (fun c7 => ?_)
      · skip
        refine lv_iinc (v := nI (i + 1)) (lv' := [(4, .int (nI (i + 1))), (5, .int (nI (bs i))), (0, .ref mh), (1, .int (nI w)), (2, .int (nI M)), (3, .int (nI z))]) hx hb dX0_tightest_90 hl (k := 5) rfl (n_inc _ 1) (by decide) rfl (fun ls hl => ?_)
        refine lv_goto (tgt := 7) hx hb dX0_tightest_93 (by decide) ?_
        exact ih (k - 1) (i + 1) M z (by omega) (by omega) (tMi_skip hT9 (fun q => by omega)) ls (lv_sub hl [2, 3, 4, 5, 0] rfl)
      · skip
        refine lv_aload_n hx hb dX0_tightest_39 rfl (lv_at hl 1 rfl) ?_
        refine va_get (D := g) (ci := 0) (v := .ref h) (C := RX0) (T := TX0) (N := 13) hx hb hts hinX0 hown hK hP 0 rfl rfl 1 (by decide) (hts (.fieldLink RX0 21 "BuddyRoof$Memory" "tree" "LBuddyRoof$Tree;") (by decide +kernel)) (fun _ h9 => h9) rfl dX0_tightest_40 ?_
        refine lv_iload hx hb dX0_tightest_43 (lv_at hl 0 rfl) ?_
        refine k_goR (W.runV (As := [.int (nI (bs i))]) (rest := []) ⟨hx, hb, hml, hown, hts⟩ (c_X2_hasFree l g cI cJ cZ h q1 q2 q3 q4 q5 q6 q7 n pa ch kd ad ra su un mk sv (bs i) hn31 (by omega) (by omega) a7) (cwV 1 hts gX0_tightest_X2_hasFree rfl rfl rfl (by decide +kernel) ⟨Nat.le_of_ble_eq_true rfl, Nat.le_of_ble_eq_true rfl⟩) (k_preRV hk hP [7, 8, 9, 10, 11, 12, 13, 14] rfl (ci := 2) (q0 := 0) rfl rfl) rfl rfl hl.1 rfl (lv_room (Nat.le_of_ble_eq_true rfl)) dX0_tightest_45 ⟨by first | exact Nat.zero_le _ | omega, by first | exact Nat.zero_le _ | omega⟩) ?_
        refine k_ifeq (tgt := 90) hx hb dX0_tightest_48 (by decide) (fun c8 => ?_) (fun c8 => ?_)
        · skip
          refine lv_iinc (v := nI (i + 1)) (lv' := [(4, .int (nI (i + 1))), (5, .int (nI (bs i))), (0, .ref mh), (1, .int (nI w)), (2, .int (nI M)), (3, .int (nI z))]) hx hb dX0_tightest_90 hl (k := 5) rfl (n_inc _ 1) (by decide) rfl (fun ls hl => ?_)
          refine lv_goto (tgt := 7) hx hb dX0_tightest_93 (by decide) ?_
          exact ih (k - 1) (i + 1) M z (by omega) (by omega) (tMi_skip hT9 (fun q => c8 ((bit_div _ _).mpr q.2))) ls (lv_sub hl [2, 3, 4, 5, 0] rfl)
        · skip
          refine lv_iload_n hx hb dX0_tightest_51 rfl (lv_at hl 3 rfl) ?_
          refine n_if_eq (tgt := 72) hx hb dX0_tightest_52 (by decide) (by first | assumption | omega) (fun c9 => ?_) (fun c9 => ?_)
          · skip
            refine lv_aload_n hx hb dX0_tightest_72 rfl (lv_at hl 1 rfl) ?_
            refine va_get (D := g) (ci := 0) (v := .ref kr) (C := RX0) (T := TX0) (N := 13) hx hb hts hinX0 hown hK hP 0 rfl rfl 0 (by decide) (hts (.fieldLink RX0 12 "BuddyRoof$Memory" "rule" "LBuddyRoof$Rule;") (by decide +kernel)) (fun _ h9 => h9) rfl dX0_tightest_73 ?_
            refine va_getN (D := g) (host := "BuddyRoof") (ci := 1) (v := .ref r1) (C := RX1) (T := TX1) (N := 4) hx hb hts hinX1 hown hK hP 2 rfl rfl 0 (by decide) (hk.2.f (h := "BuddyRoof") (by decide +kernel)) (fun _ h9 => h9) rfl dX0_tightest_76 ?_
            refine lv_iload hx hb dX0_tightest_79 (lv_at hl 0 rfl) ?_
            refine n_ald (v := nI (S (bs i))) hx hb hK hP 3 0 rfl rfl (i := (bs i)) (by first | assumption | omega) (by first | assumption | omega) (by exact hrk.1) dX0_tightest_81 ?_
            refine lv_istore_n (lv' := [(3, .int (nI (S (bs i)))), (5, .int (nI (bs i))), (0, .ref mh), (1, .int (nI w)), (2, .int (nI M)), (4, .int (nI i))]) hx hb dX0_tightest_82 rfl hl (by decide) rfl (fun ls hl => ?_)
            refine lv_iload_n hx hb dX0_tightest_83 rfl (lv_at hl 4 rfl) ?_
            refine lv_iconst (v := nI 1) hx hb dX0_tightest_84 (by decide) ?_
            refine lv_iload hx hb dX0_tightest_85 (lv_at hl 1 rfl) ?_
            refine n_ishl hx hb dX0_tightest_87 (by exact Nat.lt_of_le_of_lt (Nat.mul_le_mul_left 1 (Nat.pow_le_pow_right (by decide) hbi)) (by decide)) (by first | assumption | omega) ?_
            refine n_ior hx hb dX0_tightest_88 ?_
            refine lv_istore_n (lv' := [(2, .int (nI (M ||| (1 * 2 ^ (bs i))))), (3, .int (nI (S (bs i)))), (5, .int (nI (bs i))), (0, .ref mh), (1, .int (nI w)), (4, .int (nI i))]) hx hb dX0_tightest_89 rfl hl (by decide) rfl (fun ls hl => ?_)
            refine lv_iinc (v := nI (i + 1)) (lv' := [(4, .int (nI (i + 1))), (2, .int (nI (M ||| (1 * 2 ^ (bs i))))), (3, .int (nI (S (bs i)))), (5, .int (nI (bs i))), (0, .ref mh), (1, .int (nI w))]) hx hb dX0_tightest_90 hl (k := 5) rfl (n_inc _ 1) (by decide) rfl (fun ls hl => ?_)
            refine lv_goto (tgt := 7) hx hb dX0_tightest_93 (by decide) ?_
            exact ih (k - 1) (i + 1) (M ||| (1 * 2 ^ (bs i))) (S (bs i)) (by omega) (by omega) (tMi_add hR hbo (by omega) hT9 (by omega) ((bit_div _ _).mp c8) (by omega)) ls (lv_sub hl [4, 5, 1, 2, 0] rfl)
          · skip
            refine lv_aload_n hx hb dX0_tightest_55 rfl (lv_at hl 1 rfl) ?_
            refine va_get (D := g) (ci := 0) (v := .ref kr) (C := RX0) (T := TX0) (N := 13) hx hb hts hinX0 hown hK hP 0 rfl rfl 0 (by decide) (hts (.fieldLink RX0 12 "BuddyRoof$Memory" "rule" "LBuddyRoof$Rule;") (by decide +kernel)) (fun _ h9 => h9) rfl dX0_tightest_56 ?_
            refine va_getN (D := g) (host := "BuddyRoof") (ci := 1) (v := .ref r1) (C := RX1) (T := TX1) (N := 4) hx hb hts hinX1 hown hK hP 2 rfl rfl 0 (by decide) (hk.2.f (h := "BuddyRoof") (by decide +kernel)) (fun _ h9 => h9) rfl dX0_tightest_59 ?_
            refine lv_iload hx hb dX0_tightest_62 (lv_at hl 0 rfl) ?_
            refine n_ald (v := nI (S (bs i))) hx hb hK hP 3 0 rfl rfl (i := (bs i)) (by first | assumption | omega) (by first | assumption | omega) (by exact hrk.1) dX0_tightest_64 ?_
            refine lv_iload_n hx hb dX0_tightest_65 rfl (lv_at hl 4 rfl) ?_
            refine n_icmp_eq (tgt := 72) hx hb dX0_tightest_66 (by decide) (by first | assumption | omega) (by first | assumption | omega) (fun c10 => ?_) (fun c10 => ?_)
            · skip
              refine lv_aload_n hx hb dX0_tightest_72 rfl (lv_at hl 1 rfl) ?_
              refine va_get (D := g) (ci := 0) (v := .ref kr) (C := RX0) (T := TX0) (N := 13) hx hb hts hinX0 hown hK hP 0 rfl rfl 0 (by decide) (hts (.fieldLink RX0 12 "BuddyRoof$Memory" "rule" "LBuddyRoof$Rule;") (by decide +kernel)) (fun _ h9 => h9) rfl dX0_tightest_73 ?_
              refine va_getN (D := g) (host := "BuddyRoof") (ci := 1) (v := .ref r1) (C := RX1) (T := TX1) (N := 4) hx hb hts hinX1 hown hK hP 2 rfl rfl 0 (by decide) (hk.2.f (h := "BuddyRoof") (by decide +kernel)) (fun _ h9 => h9) rfl dX0_tightest_76 ?_
              refine lv_iload hx hb dX0_tightest_79 (lv_at hl 0 rfl) ?_
              refine n_ald (v := nI (S (bs i))) hx hb hK hP 3 0 rfl rfl (i := (bs i)) (by first | assumption | omega) (by first | assumption | omega) (by exact hrk.1) dX0_tightest_81 ?_
              refine lv_istore_n (lv' := [(3, .int (nI (S (bs i)))), (5, .int (nI (bs i))), (0, .ref mh), (1, .int (nI w)), (2, .int (nI M)), (4, .int (nI i))]) hx hb dX0_tightest_82 rfl hl (by decide) rfl (fun ls hl => ?_)
              refine lv_iload_n hx hb dX0_tightest_83 rfl (lv_at hl 4 rfl) ?_
              refine lv_iconst (v := nI 1) hx hb dX0_tightest_84 (by decide) ?_
              refine lv_iload hx hb dX0_tightest_85 (lv_at hl 1 rfl) ?_
              refine n_ishl hx hb dX0_tightest_87 (by exact Nat.lt_of_le_of_lt (Nat.mul_le_mul_left 1 (Nat.pow_le_pow_right (by decide) hbi)) (by decide)) (by first | assumption | omega) ?_
              refine n_ior hx hb dX0_tightest_88 ?_
              refine lv_istore_n (lv' := [(2, .int (nI (M ||| (1 * 2 ^ (bs i))))), (3, .int (nI (S (bs i)))), (5, .int (nI (bs i))), (0, .ref mh), (1, .int (nI w)), (4, .int (nI i))]) hx hb dX0_tightest_89 rfl hl (by decide) rfl (fun ls hl => ?_)
              refine lv_iinc (v := nI (i + 1)) (lv' := [(4, .int (nI (i + 1))), (2, .int (nI (M ||| (1 * 2 ^ (bs i))))), (3, .int (nI (S (bs i)))), (5, .int (nI (bs i))), (0, .ref mh), (1, .int (nI w))]) hx hb dX0_tightest_90 hl (k := 5) rfl (n_inc _ 1) (by decide) rfl (fun ls hl => ?_)
              refine lv_goto (tgt := 7) hx hb dX0_tightest_93 (by decide) ?_
              exact ih (k - 1) (i + 1) (M ||| (1 * 2 ^ (bs i))) (S (bs i)) (by omega) (by omega) (tMi_add hR hbo (by omega) hT9 (by omega) ((bit_div _ _).mp c8) (by omega)) ls (lv_sub hl [4, 5, 1, 2, 0] rfl)
            · skip
              refine lv_goto (tgt := 96) hx hb dX0_tightest_69 (by decide) ?_
              exact kk0 M (⟨tMi_break hbo (by omega) hT9 (by omega) c10, hT9.2.2.1⟩) ls (lv_sub hl [1, 3] rfl)

set_option maxHeartbeats 4000000 in
set_option maxRecDepth 100000 in
theorem c_X0_tightest (l : Launch) (g : va_G) (cI cJ cZ : ClassId) (mh kr kq fq bq gq : Nat) (rcv ncl bl rd hd jn sn : Nat) (fo : Nat → Nat) (bs : Nat → Nat) (r1 r2 r3 r4 : Nat) (sz lf rt tr : Nat → Int32) (h q1 q2 q3 q4 q5 q6 q7 n : Nat) (pa ch kd ad ra su un : Nat → Nat) (mk sv : Nat) (top : Nat) (S L R : Nat → Nat) (rc : Nat → Bool) (sp : Nat → Bool) (rq nu : Nat → Nat) (w : Nat) (hn : n < 2 ^ 25) (hR : RuleOK S L R rc top) (hrl : rOK S L R rc sz lf rt) (hbo : bOK S rc ncl bs) (hI : wI top S L R sp rq nu ([]) n mk sv pa ch kd ad ra su un fo bl rd hd) (hw : w < 2 ^ 31) : kR l g (kty cI cJ cZ) yX0_tightest wsX0_tightest ({ frames := 1, cells := 0, slots := 0, locals := 25 }) [.ref mh, .int (nI w)] [(mh, .inr (0, [.ref kr, .ref h, .ref kq, .ref fq, .ref bq, .ref gq, .int (nI rcv), .int (nI ncl), .int (nI bl), .int (nI rd), .int (nI hd), .int (nI jn), .int (nI sn)])), (bq, .inl (cI, 24, .inl (fun j => nI (bs j)))), (kr, .inr (1, [.ref r1, .ref r2, .ref r3, .ref r4])), (r1, .inl (cI, 25, .inl sz)), (r2, .inl (cI, 25, .inl lf)), (r3, .inl (cI, 25, .inl rt)), (r4, .inl (cI, 25, .inl tr)), (h, .inr (2, [.ref q1, .ref q2, .ref q3, .ref q4, .ref q5, .ref q6, .ref q7, .int (nI mk), .int (nI sv)])), (q1, .inl (cI, n, .inl (fun j => nI (pa j)))), (q2, .inl (cI, n, .inl (fun j => nI (ch j)))), (q3, .inl (cI, n, .inl (fun j => nI (kd j)))), (q4, .inl (cI, n, .inl (fun j => nI (ad j)))), (q5, .inl (cI, n, .inl (fun j => nI (ra j)))), (q6, .inl (cI, n, .inl (fun j => nI (su j)))), (q7, .inl (cI, n, .inl (fun j => nI (un j))))] (nI (nz nu (bst S (cls top L R) rq w (lvs sp 1)))) := by
  refine Met.ofW (cc := cX0_tightest) (maxL := 6) (ret := (some .int)) (by decide) rfl ?_
  intro p e s m args below meth c s₁ B hml hv
  obtain ⟨rfl, hP, hk⟩ := hv
  have hx := B.exec
  have hb := B.bytes
  have hr := B.returns
  have hts := atoms_spec (ws := wsX0_tightest) B.pre
  have hown : s.vm.findClass RX0 = some m.cls := findClass_of_methodNamed B.named
  have hlocks := B.notSynchronized
  have hK := hk.1
  have hinX0 : ∀ w ∈ wsX00, w ∈ wsX0_tightest := by decide +kernel
  have hinX1 : ∀ w ∈ wsX10, w ∈ wsX0_tightest := by decide +kernel
  have hl := lv_entry ([.ref mh, .int (nI w)]) (n := 6) (Nat.le_of_ble_eq_true rfl)
  rw [lg_entry_eq]
  generalize (lg_sl ([.ref mh, .int (nI w)]) ++ List.replicate (6 - (lg_sl ([.ref mh, .int (nI w)])).length) Slot.unset).toArray = ls at hl ⊢
  have hl : lv_has ls 6 [(0, .ref mh), (1, .int (nI w))] := hl
  obtain ⟨a1, a2, a3, a4, a5, a6, a7, a8, -⟩ := hI.1.2.2.2.2.1
  have hn31 : n < 2 ^ 31 := by omega
  have hml9 := mk_len hI
  have hbo0 := hbo.1
  refine lv_iconst (v := nI 0) hx hb dX0_tightest_0 (by decide) ?_
  refine lv_istore_n (lv' := [(2, .int (nI 0)), (0, .ref mh), (1, .int (nI w))]) hx hb dX0_tightest_1 rfl hl (by decide) rfl (fun ls hl => ?_)
  refine lv_iconst (v := nI 0) hx hb dX0_tightest_2 (by decide) ?_
  refine lv_istore_n (lv' := [(3, .int (nI 0)), (2, .int (nI 0)), (0, .ref mh), (1, .int (nI w))]) hx hb dX0_tightest_3 rfl hl (by decide) rfl (fun ls hl => ?_)
  refine lv_iconst (v := nI 0) hx hb dX0_tightest_4 (by decide) ?_
  refine lv_istore (lv' := [(4, .int (nI 0)), (3, .int (nI 0)), (2, .int (nI 0)), (0, .ref mh), (1, .int (nI w))]) hx hb dX0_tightest_5 hl (by decide) rfl (fun ls hl => ?_)
  refine lp_X0_tightest_7 l g cI cJ cZ mh kr kq fq bq gq rcv ncl bl rd hd jn sn fo bs r1 r2 r3 r4 sz lf rt tr h q1 q2 q3 q4 q5 q6 q7 n pa ch kd ad ra su un mk sv top S L R rc sp rq nu w hn hR hrl hbo hI hw  ⟨hx, hb, hr, hml, hown, hts, hlocks⟩ hk hP (fun M hT9 ls hl => ?_) _ ncl 0 0 0 (Nat.lt_succ_self _) (by omega) tMi_0 ls (lv_sub hl [3, 4, 2, 1, 0] rfl)
  · skip
    refine lv_aload_n hx hb dX0_tightest_96 rfl (lv_at hl 0 rfl) ?_
    refine va_get (D := g) (ci := 0) (v := .ref h) (C := RX0) (T := TX0) (N := 13) hx hb hts hinX0 hown hK hP 0 rfl rfl 1 (by decide) (hts (.fieldLink RX0 21 "BuddyRoof$Memory" "tree" "LBuddyRoof$Tree;") (by decide +kernel)) (fun _ h9 => h9) rfl dX0_tightest_97 ?_
    refine lv_iload_n hx hb dX0_tightest_100 rfl (lv_at hl 1 rfl) ?_
    refine lv_iconst (v := nI 0) hx hb dX0_tightest_101 (by decide) ?_
    refine k_goR (W.runV (As := [.int (nI M), .int (nI 0)]) (rest := []) ⟨hx, hb, hml, hown, hts⟩ (c_X2_outermost l g cI cJ cZ h q1 q2 q3 q4 q5 q6 q7 n pa ch kd ad ra su un mk sv M 0 hn31 (by omega) a2 a3 a7 (by decide)) (cwV 2 hts gX0_tightest_X2_outermost rfl rfl rfl (by decide +kernel) ⟨Nat.le_of_ble_eq_true rfl, Nat.le_of_ble_eq_true rfl⟩) (k_preRV hk hP [7, 8, 9, 10, 11, 12, 13, 14] rfl (ci := 2) (q0 := 0) rfl rfl) rfl rfl hl.1 rfl (lv_room (Nat.le_of_ble_eq_true rfl)) dX0_tightest_102 ⟨by first | exact Nat.zero_le _ | omega, by first | exact Nat.zero_le _ | omega⟩) ?_
    refine n_top _ (nI (nz nu (bst S (cls top L R) rq w (lvs sp 1)))) (by rw [tight hR hI hT9.1]; split <;> rfl) ?_
    exact k_retR (v := nI (nz nu (bst S (cls top L R) rq w (lvs sp 1)))) hx hb hr hlocks (rfl) dX0_tightest_105
