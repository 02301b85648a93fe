set_option maxHeartbeats 4000000 in
theorem c_X4_joinAt_i (l : Launch) (g : va_G) (cI cJ cZ : ClassId) (rm a1 a2 a3 a4 a5 a6 a7 a8 a9 b1 b2 b3 b4 b5 b6 b7 b8 b9 : Nat) (cd tp bl jn sn wt wm wg wo wd : Nat) (sz lf rt : Nat → Int32) (S L R : Nat → Nat) (rc : Nat → Bool) (sp : Nat → Bool) (rq nd : Nat → Nat) (x : Nat) (l1 l2 : List Nat) (i : Nat) (hR : RuleOK S L R rc tp) (hT : TOK tp S L R sp rq) (hW : nW tp S L R rq nd (lvs sp 1)) (hlen : (lvs sp 1).length ≤ 14000) (hrl : rOK S L R rc sz lf rt) (hjo : joi sp rq x) (hsp : lvs sp 1 = l1 ++ 2 * x :: (2 * x + 1) :: l2) (hli : l1.length = i) : kV l g (kty cI cJ cZ) yX4_joinAt wsX4_joinAt ({ frames := 1, cells := 0, slots := 0, locals := 24 }) [.ref rm, .int (nI i)] [(rm, .inr (4, [.int (nI cd), .ref a1, .ref a2, .ref a3, .ref a4, .ref a5, .ref a6, .ref a7, .ref a8, .ref a9, .int (nI tp), .int (nI ((lvs sp 1).length)), .ref b1, .int (nI bl), .ref b2, .ref b3, .int (nI jn), .int (nI sn), .ref b4, .ref b5, .ref b6, .ref b7, .ref b8, .int (nI wt), .int (nI wm), .int (nI wg), .long (lN wo), .int (nI wd), .ref b9])), (b1, .inl (cJ, 14000, .inr (.inl (fun j => lN (nd j))))), (a4, .inl (cI, 25, .inl sz)), (a5, .inl (cI, 25, .inl lf)), (a6, .inl (cI, 25, .inl rt))] (S := Nat → Nat) (fun u => nW tp S L R rq u (l1 ++ x :: l2)) (fun u => [(rm, .inr (4, [.int (nI cd), .ref a1, .ref a2, .ref a3, .ref a4, .ref a5, .ref a6, .ref a7, .ref a8, .ref a9, .int (nI tp), .int (nI ((lvs sp 1).length - 1)), .ref b1, .int (nI bl), .ref b2, .ref b3, .int (nI (jn + 1)), .int (nI sn), .ref b4, .ref b5, .ref b6, .ref b7, .ref b8, .int (nI wt), .int (nI wm), .int (nI wg), .long (lN wo), .int (nI wd), .ref b9])), (b1, .inl (cJ, 14000, .inr (.inl (fun j => lN (u j))))), (a4, .inl (cI, 25, .inl sz)), (a5, .inl (cI, 25, .inl lf)), (a6, .inl (cI, 25, .inl rt))]) 0 0 := by
  subst hli; exact c_X4_joinAt l g cI cJ cZ rm a1 a2 a3 a4 a5 a6 a7 a8 a9 b1 b2 b3 b4 b5 b6 b7 b8 b9 cd tp bl jn sn wt wm wg wo wd sz lf rt S L R rc sp rq nd x l1 l2 hR hT hW hlen hrl hjo hsp
set_option maxHeartbeats 4000000 in
set_option maxRecDepth 100000 in
theorem lp_X4_joinAll_7 {p : Program} {e : Env} {s : State} {m : MethodId} {args : Array Value} {below : List Frame} {meth : Method} {c : Code} {Q : State → Prop} (l : Launch) (g : va_G) (cI cJ cZ : ClassId) (rm a1 a2 a3 a4 a5 a6 a7 a8 a9 b1 b2 b3 b4 b5 b6 b7 b8 b9 : Nat) (cd tp bl jn sn wt wm wg wo wd : Nat) (sz lf rt : Nat → Int32) (S L R : Nat → Nat) (rc : Nat → Bool) (sp0 : Nat → Bool) (rq nd0 : Nat → Nat) (hR : RuleOK S L R rc tp) (hT0 : TOK tp S L R sp0 rq) (hW0 : nW tp S L R rq nd0 (lvs sp0 1)) (hlen0 : (lvs sp0 1).length ≤ 14000) (hrl : rOK S L R rc sz lf rt)  (C0 : cM p s m args meth c cX4_joinAll 3 (some .int) wsX4_joinAll RX4) (hk : kK g (kty cI cJ cZ) s) {A : Nat → Prop} {H0 : Heap} (hA : ∀ q : Nat, H0.size ≤ q → A q) (kk0 : ∀ (nd : Nat → Nat), (nW tp S L R rq nd (lvs (jal sp0 rq) 1)) → ((lvs (jal sp0 rq) 1).length ≤ (lvs sp0 1).length) → ∀ (H : Heap) (locs : List Loc), va_P g vwCl [(rm, .inr (4, [.int (nI cd), .ref a1, .ref a2, .ref a3, .ref a4, .ref a5, .ref a6, .ref a7, .ref a8, .ref a9, .int (nI tp), .int (nI ((lvs (jal sp0 rq) 1).length)), .ref b1, .int (nI bl), .ref b2, .ref b3, .int (nI (jn + ((lvs sp0 1).length - (lvs (jal sp0 rq) 1).length))), .int (nI sn), .ref b4, .ref b5, .ref b6, .ref b7, .ref b8, .int (nI wt), .int (nI wm), .int (nI wg), .long (lN wo), .int (nI wd), .ref b9])), (b1, .inl (cJ, 14000, .inr (.inl (fun j => lN (nd j))))), (a4, .inl (cI, 25, .inl sz)), (a5, .inl (cI, 25, .inl lf)), (a6, .inl (cI, 25, .inl rt))] H → va_D A [(rm, .inr (4, [.int (nI cd), .ref a1, .ref a2, .ref a3, .ref a4, .ref a5, .ref a6, .ref a7, .ref a8, .ref a9, .int (nI tp), .int (nI ((lvs (jal sp0 rq) 1).length)), .ref b1, .int (nI bl), .ref b2, .ref b3, .int (nI (jn + ((lvs sp0 1).length - (lvs (jal sp0 rq) 1).length))), .int (nI sn), .ref b4, .ref b5, .ref b6, .ref b7, .ref b8, .int (nI wt), .int (nI wm), .int (nI wg), .long (lN wo), .int (nI wd), .ref b9])), (b1, .inl (cJ, 14000, .inr (.inl (fun j => lN (nd j))))), (a4, .inl (cI, 25, .inl sz)), (a5, .inl (cI, 25, .inl lf)), (a6, .inl (cI, 25, .inl rt))] → va_S A H0 H locs → ∀ (ls : Array Slot), lv_has ls 3 [(0, .ref rm), (1, .int (nI jn))] → W p l e (headSpec wsX4_joinAll ({ frames := 2, cells := 0, slots := 0, locals := 48 })).room s m args below meth c H locs 0 0 Q (F0 m 67 ls [])) :
    ∀ (K : Nat) (i : Nat) (sp : Nat → Bool) (nd : Nat → Nat), (2 * (lvs sp 1).length - i) < K → (TOK tp S L R sp rq) → (nW tp S L R rq nd (lvs sp 1)) → ((lvs sp 1).length ≤ 14000) → (i ≤ (lvs sp 1).length) → (jal sp rq = jal sp0 rq) → ((lvs sp 1).length ≤ (lvs sp0 1).length) → (noP rq (lvs sp 1) i) → ∀ (H : Heap) (locs : List Loc), va_P g vwCl [(rm, .inr (4, [.int (nI cd), .ref a1, .ref a2, .ref a3, .ref a4, .ref a5, .ref a6, .ref a7, .ref a8, .ref a9, .int (nI tp), .int (nI ((lvs sp 1).length)), .ref b1, .int (nI bl), .ref b2, .ref b3, .int (nI (jn + ((lvs sp0 1).length - (lvs sp 1).length))), .int (nI sn), .ref b4, .ref b5, .ref b6, .ref b7, .ref b8, .int (nI wt), .int (nI wm), .int (nI wg), .long (lN wo), .int (nI wd), .ref b9])), (b1, .inl (cJ, 14000, .inr (.inl (fun j => lN (nd j))))), (a4, .inl (cI, 25, .inl sz)), (a5, .inl (cI, 25, .inl lf)), (a6, .inl (cI, 25, .inl rt))] H → va_D A [(rm, .inr (4, [.int (nI cd), .ref a1, .ref a2, .ref a3, .ref a4, .ref a5, .ref a6, .ref a7, .ref a8, .ref a9, .int (nI tp), .int (nI ((lvs sp 1).length)), .ref b1, .int (nI bl), .ref b2, .ref b3, .int (nI (jn + ((lvs sp0 1).length - (lvs sp 1).length))), .int (nI sn), .ref b4, .ref b5, .ref b6, .ref b7, .ref b8, .int (nI wt), .int (nI wm), .int (nI wg), .long (lN wo), .int (nI wd), .ref b9])), (b1, .inl (cJ, 14000, .inr (.inl (fun j => lN (nd j))))), (a4, .inl (cI, 25, .inl sz)), (a5, .inl (cI, 25, .inl lf)), (a6, .inl (cI, 25, .inl rt))] → va_S A H0 H locs →∀ (ls : Array Slot), lv_has ls 3 [(0, .ref rm), (1, .int (nI jn)), (2, .int (nI i))] → W p l e (headSpec wsX4_joinAll ({ frames := 2, cells := 0, slots := 0, locals := 48 })).room s m args below meth c H locs 0 0 Q (F0 m 7 ls []) := by
  obtain ⟨hx, hb, hr, hml, hown, hts, hlocks⟩ := C0
  have hK := hk.1
  have hinX4 : ∀ w ∈ wsX40, w ∈ wsX4_joinAll := by decide +kernel
  intro K
  induction K with
  | zero =>
    intro i sp nd h0
    exact absurd h0 (Nat.not_lt_zero _)
  | succ K ih =>
    intro i sp nd hmu hT hW hlen hi hja hle hno H locs hP hD hS ls hl
    refine lv_iload_n hx hb dX4_joinAll_7 rfl (lv_at hl 2 rfl) ?_
    refine lv_aload_n hx hb dX4_joinAll_8 rfl (lv_at hl 0 rfl) ?_
    refine va_get (D := g) (ci := 4) (v := .int (nI ((lvs sp 1).length))) (C := RX4) (T := TX4) (N := 29) hx hb hts hinX4 hown hK hP 0 rfl rfl 11 (by decide) (hts (.fieldLink RX4 96 "BuddyRoofModel" "many" "I") (by decide +kernel)) (fun _ h9 => h9) rfl dX4_joinAll_9 ?_
    refine n_icmp_ge (tgt := 67) hx hb dX4_joinAll_12 (by decide) (by first | assumption | omega) (by first | assumption | omega) (fun c6 => ?_) (fun c6 => ?_)
    · skip
      have he9 := noP_e hR hT hno (by omega)
      rw [hja] at he9
      subst he9
      exact kk0 nd hW hle _ _ hP hD hS ls (lv_sub hl [0, 1] rfl)
    · skip
      obtain ⟨pp, pp_1, pp_2, pp_3, pp_4, pp_5, pp_6, pp_7, pp_8, pp_9, pp_10⟩ := nW_rd (i := i) hR hT hW hlen (by omega)
      refine lv_aload_n hx hb dX4_joinAll_15 rfl (lv_at hl 0 rfl) ?_
      refine lv_iload_n hx hb dX4_joinAll_16 rfl (lv_at hl 2 rfl) ?_
      refine k_goR (W.runV (As := [.int (nI i)]) (rest := []) ⟨hx, hb, hml, hown, hts⟩ (c_X4_isPair l g cI cJ cZ rm a1 a2 a3 a4 a5 a6 a7 a8 a9 b1 b2 b3 b4 b5 b6 b7 b8 b9 cd tp bl (jn + ((lvs sp0 1).length - (lvs sp 1).length)) sn wt wm wg wo wd S L R rc sp rq nd i hR hT hW hlen (by omega)) (cwV 1 hts gX4_joinAll_X4_isPair rfl rfl rfl (by decide +kernel) ⟨Nat.le_of_ble_eq_true rfl, Nat.le_of_ble_eq_true rfl⟩) (k_preRV hk hP [0, 1] rfl (ci := 4) (q0 := 0) rfl rfl) rfl rfl hl.1 rfl (lv_room (Nat.le_of_ble_eq_true rfl)) dX4_joinAll_17 ⟨by first | exact Nat.zero_le _ | omega, by first | exact Nat.zero_le _ | omega⟩) ?_
      refine k_ifeq (tgt := 61) hx hb dX4_joinAll_20 (by decide) (fun c7 => ?_) (fun c7 => ?_)
      · skip
        refine lv_iinc (v := nI (i + 1)) (lv' := [(2, .int (nI (i + 1))), (0, .ref rm), (1, .int (nI jn))]) hx hb dX4_joinAll_61 hl (k := 2) rfl (n_inc _ 1) (by decide) rfl (fun ls hl => ?_)
        refine lv_goto (tgt := 7) hx hb dX4_joinAll_64 (by decide) ?_
        exact ih (i + 1) sp nd (by omega) hT hW hlen (by omega) hja hle (noP_s hno (fun p9 q9 h9 => absurd h9 c7)) _ _ hP hD hS ls (lv_sub hl [1, 2, 0] rfl)
      · skip
        have hi1 : i + 1 < (lvs sp 1).length := Classical.byContradiction fun e9 => by rw [prB_n (by omega)] at c7; exact absurd c7 (by decide)
        obtain ⟨qq, qq_1, qq_2, qq_3, qq_4, qq_5, qq_6, qq_7, qq_8, qq_9, qq_10⟩ := nW_rd (i := i + 1) hR hT hW hlen (by omega)
        refine lv_aload_n hx hb dX4_joinAll_23 rfl (lv_at hl 0 rfl) ?_
        refine lv_iload_n hx hb dX4_joinAll_24 rfl (lv_at hl 2 rfl) ?_
        refine k_goR (W.runV (As := [.int (nI i)]) (rest := []) ⟨hx, hb, hml, hown, hts⟩ (c_X4_isLive l g cI cJ cZ rm a1 a2 a3 a4 a5 a6 a7 a8 a9 b1 b2 b3 b4 b5 b6 b7 b8 b9 cd tp ((lvs sp 1).length) bl (jn + ((lvs sp0 1).length - (lvs sp 1).length)) sn wt wm wg wo wd nd i pp_4 pp_5) (cwV 1 hts gX4_joinAll_X4_isLive rfl rfl rfl (by decide +kernel) ⟨Nat.le_of_ble_eq_true rfl, Nat.le_of_ble_eq_true rfl⟩) (k_preRV hk hP [0, 1] rfl (ci := 4) (q0 := 0) rfl rfl) rfl rfl hl.1 rfl (lv_room (Nat.le_of_ble_eq_true rfl)) dX4_joinAll_25 ⟨by first | exact Nat.zero_le _ | omega, by first | exact Nat.zero_le _ | omega⟩) ?_
        refine n_top _ (bI (0 < rq pp)) (bI_c pp_7) ?_
        refine k_ifne (tgt := 61) hx hb dX4_joinAll_28 (by decide) (fun c8 => ?_) (fun c8 => ?_)
        · skip
          refine lv_iinc (v := nI (i + 1)) (lv' := [(2, .int (nI (i + 1))), (0, .ref rm), (1, .int (nI jn))]) hx hb dX4_joinAll_61 hl (k := 2) rfl (n_inc _ 1) (by decide) rfl (fun ls hl => ?_)
          refine lv_goto (tgt := 7) hx hb dX4_joinAll_64 (by decide) ?_
          exact ih (i + 1) sp nd (by omega) hT hW hlen (by omega) hja hle (noP_s hno (fun p9 q9 _ e9 _ => Or.inl (by rw [pp_1] at e9; rw [← Option.some.inj e9]; exact c8))) _ _ hP hD hS ls (lv_sub hl [1, 2, 0] rfl)
        · skip
          refine lv_aload_n hx hb dX4_joinAll_31 rfl (lv_at hl 0 rfl) ?_
          refine lv_iload_n hx hb dX4_joinAll_32 rfl (lv_at hl 2 rfl) ?_
          refine lv_iconst (v := nI 1) hx hb dX4_joinAll_33 (by decide) ?_
          refine n_iadd hx hb dX4_joinAll_34 ?_
          refine k_goR (W.runV (As := [.int (nI (i + 1))]) (rest := []) ⟨hx, hb, hml, hown, hts⟩ (c_X4_isLive l g cI cJ cZ rm a1 a2 a3 a4 a5 a6 a7 a8 a9 b1 b2 b3 b4 b5 b6 b7 b8 b9 cd tp ((lvs sp 1).length) bl (jn + ((lvs sp0 1).length - (lvs sp 1).length)) sn wt wm wg wo wd nd (i + 1) qq_4 qq_5) (cwV 1 hts gX4_joinAll_X4_isLive rfl rfl rfl (by decide +kernel) ⟨Nat.le_of_ble_eq_true rfl, Nat.le_of_ble_eq_true rfl⟩) (k_preRV hk hP [0, 1] rfl (ci := 4) (q0 := 0) rfl rfl) rfl rfl hl.1 rfl (lv_room (Nat.le_of_ble_eq_true rfl)) dX4_joinAll_35 ⟨by first | exact Nat.zero_le _ | omega, by first | exact Nat.zero_le _ | omega⟩) ?_
          refine n_top _ (bI (0 < rq qq)) (bI_c qq_7) ?_
          refine k_ifne (tgt := 61) hx hb dX4_joinAll_38 (by decide) (fun c9 => ?_) (fun c9 => ?_)
          · skip
            refine lv_iinc (v := nI (i + 1)) (lv' := [(2, .int (nI (i + 1))), (0, .ref rm), (1, .int (nI jn))]) hx hb dX4_joinAll_61 hl (k := 2) rfl (n_inc _ 1) (by decide) rfl (fun ls hl => ?_)
            refine lv_goto (tgt := 7) hx hb dX4_joinAll_64 (by decide) ?_
            exact ih (i + 1) sp nd (by omega) hT hW hlen (by omega) hja hle (noP_s hno (fun p9 q9 _ _ e9 => Or.inr (by rw [qq_1] at e9; rw [← Option.some.inj e9]; exact c9))) _ _ hP hD hS ls (lv_sub hl [1, 2, 0] rfl)
          · skip
            refine lv_aload_n hx hb dX4_joinAll_41 rfl (lv_at hl 0 rfl) ?_
            refine lv_iload_n hx hb dX4_joinAll_42 rfl (lv_at hl 2 rfl) ?_
            obtain ⟨hjo, hsp, hl1⟩ := pr_joi hR hT c7 pp_1 qq_1 c8 c9
            have hsj := lvs_join_at hR hT hjo hsp
            have hlj := len_join hR hT hjo
            refine k_goV (wr := []) (va_runV (As := [.int (nI i)]) (rest := []) ⟨hx, hb, hml, hown, hts⟩ (c_X4_joinAt_i l g cI cJ cZ rm a1 a2 a3 a4 a5 a6 a7 a8 a9 b1 b2 b3 b4 b5 b6 b7 b8 b9 cd tp bl (jn + ((lvs sp0 1).length - (lvs sp 1).length)) sn wt wm wg wo wd sz lf rt S L R rc sp rq nd (pp / 2) ((lvs sp 1).take i) ((lvs sp 1).drop (i + 2)) i hR hT hW hlen hrl hjo hsp hl1 _) (cwV 1 hts gX4_joinAll_X4_joinAt rfl rfl rfl (by decide +kernel) ⟨Nat.le_of_ble_eq_true rfl, Nat.le_of_ble_eq_true rfl⟩) (k_preV hk hP hD [0, 1, 2, 3, 4] rfl rfl (ci := 4) (q0 := 0) rfl rfl) rfl rfl hl.1 rfl (lv_room (Nat.le_of_ble_eq_true rfl)) dX4_joinAll_43 ⟨by first | exact Nat.zero_le _ | omega, by first | exact Nat.zero_le _ | omega⟩) hP hD hS hA [0, 1, 2, 3, 4] [] rfl rfl rfl (by decide) (fun nd1 H locs hu hP hD hS => ?_)
            rw [show (lvs sp 1).length - 1 = (lvs (upB sp (pp / 2) false) 1).length by omega, show jn + ((lvs sp0 1).length - (lvs sp 1).length) + 1 = jn + ((lvs sp0 1).length - (lvs (upB sp (pp / 2) false) 1).length) by omega] at hP hD
            have hP : va_P g vwCl [(rm, .inr (4, [.int (nI cd), .ref a1, .ref a2, .ref a3, .ref a4, .ref a5, .ref a6, .ref a7, .ref a8, .ref a9, .int (nI tp), .int (nI ((lvs (upB sp (pp / 2) false) 1).length)), .ref b1, .int (nI bl), .ref b2, .ref b3, .int (nI (jn + ((lvs sp0 1).length - (lvs (upB sp (pp / 2) false) 1).length))), .int (nI sn), .ref b4, .ref b5, .ref b6, .ref b7, .ref b8, .int (nI wt), .int (nI wm), .int (nI wg), .long (lN wo), .int (nI wd), .ref b9])), (b1, .inl (cJ, 14000, .inr (.inl (fun j => lN (nd1 j))))), (a4, .inl (cI, 25, .inl sz)), (a5, .inl (cI, 25, .inl lf)), (a6, .inl (cI, 25, .inl rt))] H := hP
            have hD : va_D A [(rm, .inr (4, [.int (nI cd), .ref a1, .ref a2, .ref a3, .ref a4, .ref a5, .ref a6, .ref a7, .ref a8, .ref a9, .int (nI tp), .int (nI ((lvs (upB sp (pp / 2) false) 1).length)), .ref b1, .int (nI bl), .ref b2, .ref b3, .int (nI (jn + ((lvs sp0 1).length - (lvs (upB sp (pp / 2) false) 1).length))), .int (nI sn), .ref b4, .ref b5, .ref b6, .ref b7, .ref b8, .int (nI wt), .int (nI wm), .int (nI wg), .long (lN wo), .int (nI wd), .ref b9])), (b1, .inl (cJ, 14000, .inr (.inl (fun j => lN (nd1 j))))), (a4, .inl (cI, 25, .inl sz)), (a5, .inl (cI, 25, .inl lf)), (a6, .inl (cI, 25, .inl rt))] := hD
            refine lv_iload_n hx hb dX4_joinAll_46 rfl (lv_at hl 2 rfl) ?_
            refine n_if_le (tgt := 56) hx hb dX4_joinAll_47 (by decide) (by first | assumption | omega) (fun c10 => ?_) (fun c10 => ?_)
            · skip
              refine lv_iconst (v := nI 0) hx hb dX4_joinAll_56 (by decide) ?_
              refine lv_istore_n (lv' := [(2, .int (nI 0)), (0, .ref rm), (1, .int (nI jn))]) hx hb dX4_joinAll_57 rfl hl (by decide) rfl (fun ls hl => ?_)
              refine lv_goto (tgt := 7) hx hb dX4_joinAll_58 (by decide) ?_
              exact ih 0 (upB sp (pp / 2) false) nd1 (by omega) (TOK_join hT hjo) (by rw [hsj]; exact hu) (by omega) (by omega) (by rw [jal_join hR hT hjo]; exact hja) (by omega) noP_0 _ _ hP hD hS ls (lv_sub hl [1, 2, 0] rfl)
            · skip
              refine lv_iload_n hx hb dX4_joinAll_50 rfl (lv_at hl 2 rfl) ?_
              refine lv_iconst (v := nI 1) hx hb dX4_joinAll_51 (by decide) ?_
              refine n_isub hx hb dX4_joinAll_52 (by first | assumption | omega) ?_
              refine lv_goto (tgt := 57) hx hb dX4_joinAll_53 (by decide) ?_
              refine lv_istore_n (lv' := [(2, .int (nI (i - 1))), (0, .ref rm), (1, .int (nI jn))]) hx hb dX4_joinAll_57 rfl hl (by decide) rfl (fun ls hl => ?_)
              refine lv_goto (tgt := 7) hx hb dX4_joinAll_58 (by decide) ?_
              exact ih (i - 1) (upB sp (pp / 2) false) nd1 (by omega) (TOK_join hT hjo) (by rw [hsj]; exact hu) (by omega) (by omega) (by rw [jal_join hR hT hjo]; exact hja) (by omega) (by rw [hsj]; have q9 := noP_j (rq := rq) (x := pp / 2) (by rw [← hsp, hl1]; exact hno); rw [hl1] at q9; exact q9) _ _ hP hD hS ls (lv_sub hl [1, 2, 0] rfl)

set_option maxHeartbeats 4000000 in
set_option maxRecDepth 100000 in
theorem c_X4_joinAll (l : Launch) (g : va_G) (cI cJ cZ : ClassId) (rm a1 a2 a3 a4 a5 a6 a7 a8 a9 b1 b2 b3 b4 b5 b6 b7 b8 b9 : Nat) (cd tp bl jn sn wt wm wg wo wd : Nat) (sz lf rt : Nat → Int32) (S L R : Nat → Nat) (rc : Nat → Bool) (sp0 : Nat → Bool) (rq nd0 : Nat → Nat) (hR : RuleOK S L R rc tp) (hT0 : TOK tp S L R sp0 rq) (hW0 : nW tp S L R rq nd0 (lvs sp0 1)) (hlen0 : (lvs sp0 1).length ≤ 14000) (hrl : rOK S L R rc sz lf rt) : kI l g (kty cI cJ cZ) yX4_joinAll wsX4_joinAll ({ frames := 2, cells := 0, slots := 0, locals := 48 }) [.ref rm] [(rm, .inr (4, [.int (nI cd), .ref a1, .ref a2, .ref a3, .ref a4, .ref a5, .ref a6, .ref a7, .ref a8, .ref a9, .int (nI tp), .int (nI ((lvs sp0 1).length)), .ref b1, .int (nI bl), .ref b2, .ref b3, .int (nI jn), .int (nI sn), .ref b4, .ref b5, .ref b6, .ref b7, .ref b8, .int (nI wt), .int (nI wm), .int (nI wg), .long (lN wo), .int (nI wd), .ref b9])), (b1, .inl (cJ, 14000, .inr (.inl (fun j => lN (nd0 j))))), (a4, .inl (cI, 25, .inl sz)), (a5, .inl (cI, 25, .inl lf)), (a6, .inl (cI, 25, .inl rt))] (S := Nat → Nat) (fun r u => r = nI ((lvs sp0 1).length - (lvs (jal sp0 rq) 1).length) ∧ nW tp S L R rq u (lvs (jal sp0 rq) 1) ∧ (lvs (jal sp0 rq) 1).length ≤ (lvs sp0 1).length) (fun u => [(rm, .inr (4, [.int (nI cd), .ref a1, .ref a2, .ref a3, .ref a4, .ref a5, .ref a6, .ref a7, .ref a8, .ref a9, .int (nI tp), .int (nI ((lvs (jal sp0 rq) 1).length)), .ref b1, .int (nI bl), .ref b2, .ref b3, .int (nI (jn + ((lvs sp0 1).length - (lvs (jal sp0 rq) 1).length))), .int (nI sn), .ref b4, .ref b5, .ref b6, .ref b7, .ref b8, .int (nI wt), .int (nI wm), .int (nI wg), .long (lN wo), .int (nI wd), .ref b9])), (b1, .inl (cJ, 14000, .inr (.inl (fun j => lN (u j))))), (a4, .inl (cI, 25, .inl sz)), (a5, .inl (cI, 25, .inl lf)), (a6, .inl (cI, 25, .inl rt))]) 0 0 := by
  intro sz
  refine Met.ofW (cc := cX4_joinAll) (maxL := 3) (ret := (some .int)) (by decide) rfl ?_
  intro p e s m args below meth c s₁ B hml hv
  obtain ⟨rfl, hsz, hP, hk, hD0⟩ := hv
  subst hsz
  have hx := B.exec
  have hb := B.bytes
  have hr := B.returns
  have hts := atoms_spec (ws := wsX4_joinAll) B.pre
  have hown : s.vm.findClass RX4 = some m.cls := findClass_of_methodNamed B.named
  have hlocks := B.notSynchronized
  have hK := hk.1
  have hinX4 : ∀ w ∈ wsX40, w ∈ wsX4_joinAll := by decide +kernel
  obtain ⟨A, hAe⟩ : ∃ A, va_A [(rm, .inr (4, [.int (nI cd), .ref a1, .ref a2, .ref a3, .ref a4, .ref a5, .ref a6, .ref a7, .ref a8, .ref a9, .int (nI tp), .int (nI ((lvs sp0 1).length)), .ref b1, .int (nI bl), .ref b2, .ref b3, .int (nI jn), .int (nI sn), .ref b4, .ref b5, .ref b6, .ref b7, .ref b8, .int (nI wt), .int (nI wm), .int (nI wg), .long (lN wo), .int (nI wd), .ref b9])), (b1, .inl (cJ, 14000, .inr (.inl (fun j => lN (nd0 j))))), (a4, .inl (cI, 25, .inl sz)), (a5, .inl (cI, 25, .inl lf)), (a6, .inl (cI, 25, .inl rt))] s.heap.size = A := ⟨_, rfl⟩
  have hD := hD0.self (sz := s.heap.size)
  rw [hAe] at hD
  have hA : ∀ q : Nat, s.heap.size ≤ q → A q := fun q h => by rw [← hAe]; exact Or.inr h
  have hS : va_S A s.heap s.heap [] := va_S.rf
  have hl := lv_entry ([.ref rm]) (n := 3) (Nat.le_of_ble_eq_true rfl)
  rw [lg_entry_eq]
  generalize (lg_sl ([.ref rm]) ++ List.replicate (3 - (lg_sl ([.ref rm])).length) Slot.unset).toArray = ls at hl ⊢
  have hl : lv_has ls 3 [(0, .ref rm)] := hl
  refine lv_aload_n hx hb dX4_joinAll_0 rfl (lv_at hl 0 rfl) ?_
  refine va_get (D := g) (ci := 4) (v := .int (nI jn)) (C := RX4) (T := TX4) (N := 29) hx hb hts hinX4 hown hK hP 0 rfl rfl 16 (by decide) (hts (.fieldLink RX4 106 "BuddyRoofModel" "joins" "I") (by decide +kernel)) (fun _ h9 => h9) rfl dX4_joinAll_1 ?_
  refine lv_istore_n (lv' := [(1, .int (nI jn)), (0, .ref rm)]) hx hb dX4_joinAll_4 rfl hl (by decide) rfl (fun ls hl => ?_)
  refine lv_iconst (v := nI 0) hx hb dX4_joinAll_5 (by decide) ?_
  refine lv_istore_n (lv' := [(2, .int (nI 0)), (1, .int (nI jn)), (0, .ref rm)]) hx hb dX4_joinAll_6 rfl hl (by decide) rfl (fun ls hl => ?_)
  have hP : va_P g vwCl [(rm, .inr (4, [.int (nI cd), .ref a1, .ref a2, .ref a3, .ref a4, .ref a5, .ref a6, .ref a7, .ref a8, .ref a9, .int (nI tp), .int (nI ((lvs sp0 1).length)), .ref b1, .int (nI bl), .ref b2, .ref b3, .int (nI (jn + ((lvs sp0 1).length - (lvs sp0 1).length))), .int (nI sn), .ref b4, .ref b5, .ref b6, .ref b7, .ref b8, .int (nI wt), .int (nI wm), .int (nI wg), .long (lN wo), .int (nI wd), .ref b9])), (b1, .inl (cJ, 14000, .inr (.inl (fun j => lN (nd0 j))))), (a4, .inl (cI, 25, .inl sz)), (a5, .inl (cI, 25, .inl lf)), (a6, .inl (cI, 25, .inl rt))] s.heap := by rw [Nat.sub_self]; exact hP
  have hD : va_D A [(rm, .inr (4, [.int (nI cd), .ref a1, .ref a2, .ref a3, .ref a4, .ref a5, .ref a6, .ref a7, .ref a8, .ref a9, .int (nI tp), .int (nI ((lvs sp0 1).length)), .ref b1, .int (nI bl), .ref b2, .ref b3, .int (nI (jn + ((lvs sp0 1).length - (lvs sp0 1).length))), .int (nI sn), .ref b4, .ref b5, .ref b6, .ref b7, .ref b8, .int (nI wt), .int (nI wm), .int (nI wg), .long (lN wo), .int (nI wd), .ref b9])), (b1, .inl (cJ, 14000, .inr (.inl (fun j => lN (nd0 j))))), (a4, .inl (cI, 25, .inl sz)), (a5, .inl (cI, 25, .inl lf)), (a6, .inl (cI, 25, .inl rt))] := by rw [Nat.sub_self]; exact hD
  refine lp_X4_joinAll_7 l g cI cJ cZ rm a1 a2 a3 a4 a5 a6 a7 a8 a9 b1 b2 b3 b4 b5 b6 b7 b8 b9 cd tp bl jn sn wt wm wg wo wd sz lf rt S L R rc sp0 rq nd0 hR hT0 hW0 hlen0 hrl  ⟨hx, hb, hr, hml, hown, hts, hlocks⟩ hk hA (fun nd hW hle H locs hP hD hS ls hl => ?_) _ 0 sp0 nd0 (Nat.lt_succ_self _) hT0 hW0 hlen0 (Nat.zero_le _) rfl (Nat.le_refl _) noP_0 _ _ hP hD hS ls (lv_sub hl [2, 1, 0] rfl)
  · skip
    refine lv_aload_n hx hb dX4_joinAll_67 rfl (lv_at hl 0 rfl) ?_
    refine va_get (D := g) (ci := 4) (v := .int (nI (jn + ((lvs sp0 1).length - (lvs (jal sp0 rq) 1).length)))) (C := RX4) (T := TX4) (N := 29) hx hb hts hinX4 hown hK hP 0 rfl rfl 16 (by decide) (hts (.fieldLink RX4 106 "BuddyRoofModel" "joins" "I") (by decide +kernel)) (fun _ h9 => h9) rfl dX4_joinAll_68 ?_
    refine lv_iload_n hx hb dX4_joinAll_71 rfl (lv_at hl 1 rfl) ?_
    refine n_isub hx hb dX4_joinAll_72 (by omega) ?_
    refine n_top _ (nI ((lvs sp0 1).length - (lvs (jal sp0 rq) 1).length)) (by rw [Nat.add_sub_cancel_left]) ?_
    have hP := hP.sub (ws' := [(rm, .inr (4, [.int (nI cd), .ref a1, .ref a2, .ref a3, .ref a4, .ref a5, .ref a6, .ref a7, .ref a8, .ref a9, .int (nI tp), .int (nI ((lvs (jal sp0 rq) 1).length)), .ref b1, .int (nI bl), .ref b2, .ref b3, .int (nI (jn + ((lvs sp0 1).length - (lvs (jal sp0 rq) 1).length))), .int (nI sn), .ref b4, .ref b5, .ref b6, .ref b7, .ref b8, .int (nI wt), .int (nI wm), .int (nI wg), .long (lN wo), .int (nI wd), .ref b9])), (b1, .inl (cJ, 14000, .inr (.inl (fun j => lN (nd j))))), (a4, .inl (cI, 25, .inl sz)), (a5, .inl (cI, 25, .inl lf)), (a6, .inl (cI, 25, .inl rt))]) [0, 1, 2, 3, 4] rfl
    have hD := hD.sub (ws' := [(rm, .inr (4, [.int (nI cd), .ref a1, .ref a2, .ref a3, .ref a4, .ref a5, .ref a6, .ref a7, .ref a8, .ref a9, .int (nI tp), .int (nI ((lvs (jal sp0 rq) 1).length)), .ref b1, .int (nI bl), .ref b2, .ref b3, .int (nI (jn + ((lvs sp0 1).length - (lvs (jal sp0 rq) 1).length))), .int (nI sn), .ref b4, .ref b5, .ref b6, .ref b7, .ref b8, .int (nI wt), .int (nI wm), .int (nI wg), .long (lN wo), .int (nI wd), .ref b9])), (b1, .inl (cJ, 14000, .inr (.inl (fun j => lN (nd j))))), (a4, .inl (cI, 25, .inl sz)), (a5, .inl (cI, 25, .inl lf)), (a6, .inl (cI, 25, .inl rt))]) [0, 1, 2, 3, 4] rfl rfl
    refine W.widen (k := 0) (n := 0) (by first | exact Nat.le_refl _ | omega) (by first | exact Nat.le_refl _ | omega) ?_
    exact k_retI (sz := 0) (v := nI ((lvs sp0 1).length - (lvs (jal sp0 rq) 1).length)) hx hb hr hlocks hAe hS hP hD nd (rfl) (⟨rfl, hW, hle⟩) dX4_joinAll_73
set_option maxHeartbeats 4000000 in
set_option maxRecDepth 100000 in
theorem lp_X4_freeOf_4 {p : Program} {e : Env} {s : State} {m : MethodId} {args : Array Value} {below : List Frame} {meth : Method} {c : Code} {Q : State → Prop} (l : Launch) (g : va_G) (cI cJ cZ : ClassId) (rm a1 a2 a3 a4 a5 a6 a7 a8 a9 b1 b2 b3 b4 b5 b6 b7 b8 b9 : Nat) (cd tp bl jn sn wt wm wg wo wd : Nat) (S L R : Nat → Nat) (rc : Nat → Bool) (sp : Nat → Bool) (rq nd : Nat → Nat) (kk : Nat) (hR : RuleOK S L R rc tp) (hT : TOK tp S L R sp rq) (hW : nW tp S L R rq nd (lvs sp 1)) (hlen : (lvs sp 1).length ≤ 14000) (hkk : kk < 2 ^ 31)  (C0 : cM p s m args meth c cX4_freeOf 4 (some .int) wsX4_freeOf RX4) (hk : kK g (kty cI cJ cZ) s) {H : Heap} {locs : List Loc} (hP : va_P g vwCl [(rm, .inr (4, [.int (nI cd), .ref a1, .ref a2, .ref a3, .ref a4, .ref a5, .ref a6, .ref a7, .ref a8, .ref a9, .int (nI tp), .int (nI ((lvs sp 1).length)), .ref b1, .int (nI bl), .ref b2, .ref b3, .int (nI jn), .int (nI sn), .ref b4, .ref b5, .ref b6, .ref b7, .ref b8, .int (nI wt), .int (nI wm), .int (nI wg), .long (lN wo), .int (nI wd), .ref b9])), (b1, .inl (cJ, 14000, .inr (.inl (fun j => lN (nd j)))))] H) (kk0 : ∀ (ct : Nat), (ct = cF (cls tp L R) sp rq kk) → ∀ (ls : Array Slot), lv_has ls 4 [(2, .int (nI ct))] → W p l e (headSpec wsX4_freeOf ({ frames := 1, cells := 0, slots := 0, locals := 21 })).room s m args below meth c H locs 0 0 Q (F0 m 38 ls [])) :
    ∀ (K : Nat) (i ct : Nat), ((lvs sp 1).length - i) < K → (i ≤ (lvs sp 1).length) → (ct = ((lvs sp 1).take i).countP (fun q => decide (rq q = 0) && decide (kk = cls tp L R q))) → ∀ (ls : Array Slot), lv_has ls 4 [(0, .ref rm), (1, .int (nI kk)), (2, .int (nI ct)), (3, .int (nI i))] → W p l e (headSpec wsX4_freeOf ({ frames := 1, cells := 0, slots := 0, locals := 21 })).room s m args below meth c H locs 0 0 Q (F0 m 4 ls []) := by
  obtain ⟨hx, hb, hr, hml, hown, hts, hlocks⟩ := C0
  have hK := hk.1
  have hinX4 : ∀ w ∈ wsX40, w ∈ wsX4_freeOf := by decide +kernel
  intro K
  induction K with
  | zero =>
    intro i ct h0
    exact absurd h0 (Nat.not_lt_zero _)
  | succ K ih =>
    intro i ct hmu hi hct ls hl
    refine lv_iload_n hx hb dX4_freeOf_4 rfl (lv_at hl 3 rfl) ?_
    refine lv_aload_n hx hb dX4_freeOf_5 rfl (lv_at hl 0 rfl) ?_
    refine va_get (D := g) (ci := 4) (v := .int (nI ((lvs sp 1).length))) (C := RX4) (T := TX4) (N := 29) hx hb hts hinX4 hown hK hP 0 rfl rfl 11 (by decide) (hts (.fieldLink RX4 96 "BuddyRoofModel" "many" "I") (by decide +kernel)) (fun _ h9 => h9) rfl dX4_freeOf_6 ?_
    refine n_icmp_ge (tgt := 38) hx hb dX4_freeOf_9 (by decide) (by first | assumption | omega) (by first | assumption | omega) (fun c4 => ?_) (fun c4 => ?_)
    · skip
      exact kk0 ct (by rw [hct, take_all (by omega)]; rfl) ls (lv_sub hl [2] rfl)
    · skip
      obtain ⟨pp, pp_1, pp_2, pp_3, pp_4, pp_5, pp_6, pp_7, pp_8, pp_9, pp_10⟩ := nW_rd (i := i) hR hT hW hlen (by omega)
      have hck := cls_ok hR hT pp_2
      refine lv_aload_n hx hb dX4_freeOf_12 rfl (lv_at hl 0 rfl) ?_
      refine lv_iload_n hx hb dX4_freeOf_13 rfl (lv_at hl 3 rfl) ?_
      refine k_goR (W.runV (As := [.int (nI i)]) (rest := []) ⟨hx, hb, hml, hown, hts⟩ (c_X4_isLive l g cI cJ cZ rm a1 a2 a3 a4 a5 a6 a7 a8 a9 b1 b2 b3 b4 b5 b6 b7 b8 b9 cd tp ((lvs sp 1).length) bl jn sn wt wm wg wo wd nd i pp_4 pp_5) (cwV 1 hts gX4_freeOf_X4_isLive rfl rfl rfl (by decide +kernel) ⟨Nat.le_of_ble_eq_true rfl, Nat.le_of_ble_eq_true rfl⟩) (k_preRV hk hP [0, 1] rfl (ci := 4) (q0 := 0) rfl rfl) rfl rfl hl.1 rfl (lv_room (Nat.le_of_ble_eq_true rfl)) dX4_freeOf_14 ⟨by first | exact Nat.zero_le _ | omega, by first | exact Nat.zero_le _ | omega⟩) ?_
      refine n_top _ (bI (0 < rq pp)) (bI_c pp_7) ?_
      refine k_ifne (tgt := 32) hx hb dX4_freeOf_17 (by decide) (fun c5 => ?_) (fun c5 => ?_)
      · skip
        refine lv_iinc (v := nI (i + 1)) (lv' := [(3, .int (nI (i + 1))), (0, .ref rm), (1, .int (nI kk)), (2, .int (nI ct))]) hx hb dX4_freeOf_32 hl (k := 3) rfl (n_inc _ 1) (by decide) rfl (fun ls hl => ?_)
        refine lv_goto (tgt := 4) hx hb dX4_freeOf_35 (by decide) ?_
        exact ih (i + 1) ct (by omega) (by omega) (by rw [take_s pp_1, List.countP_append, ← hct, List.countP_cons_of_neg (by simp only [Bool.and_eq_true, decide_eq_true_eq]; omega)]; rfl) ls (lv_sub hl [1, 2, 3, 0] rfl)
      · skip
        refine lv_aload_n hx hb dX4_freeOf_20 rfl (lv_at hl 0 rfl) ?_
        refine lv_iload_n hx hb dX4_freeOf_21 rfl (lv_at hl 3 rfl) ?_
        refine k_goR (W.runV (As := [.int (nI i)]) (rest := []) ⟨hx, hb, hml, hown, hts⟩ (c_X4_classOf l g cI cJ cZ rm a1 a2 a3 a4 a5 a6 a7 a8 a9 b1 b2 b3 b4 b5 b6 b7 b8 b9 cd tp ((lvs sp 1).length) bl jn sn wt wm wg wo wd nd i pp_4 pp_5) (cwV 1 hts gX4_freeOf_X4_classOf rfl rfl rfl (by decide +kernel) ⟨Nat.le_of_ble_eq_true rfl, Nat.le_of_ble_eq_true rfl⟩) (k_preRV hk hP [0, 1] rfl (ci := 4) (q0 := 0) rfl rfl) rfl rfl hl.1 rfl (lv_room (Nat.le_of_ble_eq_true rfl)) dX4_freeOf_22 ⟨by first | exact Nat.zero_le _ | omega, by first | exact Nat.zero_le _ | omega⟩) ?_
        refine n_top _ (nI (cls tp L R pp)) (congrArg nI pp_8) ?_
        refine lv_iload_n hx hb dX4_freeOf_25 rfl (lv_at hl 1 rfl) ?_
        refine n_icmp_ne (tgt := 32) hx hb dX4_freeOf_26 (by decide) (by first | assumption | omega) (by first | assumption | omega) (fun c6 => ?_) (fun c6 => ?_)
        · skip
          refine lv_iinc (v := nI (i + 1)) (lv' := [(3, .int (nI (i + 1))), (0, .ref rm), (1, .int (nI kk)), (2, .int (nI ct))]) hx hb dX4_freeOf_32 hl (k := 3) rfl (n_inc _ 1) (by decide) rfl (fun ls hl => ?_)
          refine lv_goto (tgt := 4) hx hb dX4_freeOf_35 (by decide) ?_
          exact ih (i + 1) ct (by omega) (by omega) (by rw [take_s pp_1, List.countP_append, ← hct, List.countP_cons_of_neg (by simp only [Bool.and_eq_true, decide_eq_true_eq]; omega)]; rfl) ls (lv_sub hl [1, 2, 3, 0] rfl)
        · skip
          refine lv_iinc (v := nI (ct + 1)) (lv' := [(2, .int (nI (ct + 1))), (0, .ref rm), (1, .int (nI kk)), (3, .int (nI i))]) hx hb dX4_freeOf_29 hl (k := 2) rfl (n_inc _ 1) (by decide) rfl (fun ls hl => ?_)
          refine lv_iinc (v := nI (i + 1)) (lv' := [(3, .int (nI (i + 1))), (2, .int (nI (ct + 1))), (0, .ref rm), (1, .int (nI kk))]) hx hb dX4_freeOf_32 hl (k := 3) rfl (n_inc _ 1) (by decide) rfl (fun ls hl => ?_)
          refine lv_goto (tgt := 4) hx hb dX4_freeOf_35 (by decide) ?_
          exact ih (i + 1) (ct + 1) (by omega) (by omega) (by rw [take_s pp_1, List.countP_append, ← hct, List.countP_cons_of_pos (by simp only [Bool.and_eq_true, decide_eq_true_eq]; omega)]; rfl) ls (lv_sub hl [2, 3, 1, 0] rfl)

set_option maxHeartbeats 4000000 in
set_option maxRecDepth 100000 in
theorem c_X4_freeOf (l : Launch) (g : va_G) (cI cJ cZ : ClassId) (rm a1 a2 a3 a4 a5 a6 a7 a8 a9 b1 b2 b3 b4 b5 b6 b7 b8 b9 : Nat) (cd tp bl jn sn wt wm wg wo wd : Nat) (S L R : Nat → Nat) (rc : Nat → Bool) (sp : Nat → Bool) (rq nd : Nat → Nat) (kk : Nat) (hR : RuleOK S L R rc tp) (hT : TOK tp S L R sp rq) (hW : nW tp S L R rq nd (lvs sp 1)) (hlen : (lvs sp 1).length ≤ 14000) (hkk : kk < 2 ^ 31) : kR l g (kty cI cJ cZ) yX4_freeOf wsX4_freeOf ({ frames := 1, cells := 0, slots := 0, locals := 21 }) [.ref rm, .int (nI kk)] [(rm, .inr (4, [.int (nI cd), .ref a1, .ref a2, .ref a3, .ref a4, .ref a5, .ref a6, .ref a7, .ref a8, .ref a9, .int (nI tp), .int (nI ((lvs sp 1).length)), .ref b1, .int (nI bl), .ref b2, .ref b3, .int (nI jn), .int (nI sn), .ref b4, .ref b5, .ref b6, .ref b7, .ref b8, .int (nI wt), .int (nI wm), .int (nI wg), .long (lN wo), .int (nI wd), .ref b9])), (b1, .inl (cJ, 14000, .inr (.inl (fun j => lN (nd j)))))] (nI (cF (cls tp L R) sp rq kk)) := by
  refine Met.ofW (cc := cX4_freeOf) (maxL := 4) (ret := (some .int)) (by decide) rfl ?_
  intro p e s m args below meth c s₁ B hml hv
  obtain ⟨rfl, hP, hk⟩ := hv
  have hx := B.exec
  have hb := B.bytes
  have hr := B.returns
  have hts := atoms_spec (ws := wsX4_freeOf) B.pre
  have hown : s.vm.findClass RX4 = some m.cls := findClass_of_methodNamed B.named
  have hlocks := B.notSynchronized
  have hK := hk.1
  have hinX4 : ∀ w ∈ wsX40, w ∈ wsX4_freeOf := by decide +kernel
  have hl := lv_entry ([.ref rm, .int (nI kk)]) (n := 4) (Nat.le_of_ble_eq_true rfl)
  rw [lg_entry_eq]
  generalize (lg_sl ([.ref rm, .int (nI kk)]) ++ List.replicate (4 - (lg_sl ([.ref rm, .int (nI kk)])).length) Slot.unset).toArray = ls at hl ⊢
  have hl : lv_has ls 4 [(0, .ref rm), (1, .int (nI kk))] := hl
  refine lv_iconst (v := nI 0) hx hb dX4_freeOf_0 (by decide) ?_
  refine lv_istore_n (lv' := [(2, .int (nI 0)), (0, .ref rm), (1, .int (nI kk))]) hx hb dX4_freeOf_1 rfl hl (by decide) rfl (fun ls hl => ?_)
  refine lv_iconst (v := nI 0) hx hb dX4_freeOf_2 (by decide) ?_
  refine lv_istore_n (lv' := [(3, .int (nI 0)), (2, .int (nI 0)), (0, .ref rm), (1, .int (nI kk))]) hx hb dX4_freeOf_3 rfl hl (by decide) rfl (fun ls hl => ?_)
  refine lp_X4_freeOf_4 l g cI cJ cZ rm a1 a2 a3 a4 a5 a6 a7 a8 a9 b1 b2 b3 b4 b5 b6 b7 b8 b9 cd tp bl jn sn wt wm wg wo wd S L R rc sp rq nd kk hR hT hW hlen hkk  ⟨hx, hb, hr, hml, hown, hts, hlocks⟩ hk hP (fun ct hct ls hl => ?_) _ 0 0 (Nat.lt_succ_self _) (Nat.zero_le _) rfl ls (lv_sub hl [2, 3, 1, 0] rfl)
  · skip
    refine lv_iload_n hx hb dX4_freeOf_38 rfl (lv_at hl 0 rfl) ?_
    exact k_retR (v := nI ct) hx hb hr hlocks (by rw [hct]) dX4_freeOf_39
set_option maxHeartbeats 4000000 in
set_option maxRecDepth 100000 in
theorem lp_X4_best_4 {p : Program} {e : Env} {s : State} {m : MethodId} {args : Array Value} {below : List Frame} {meth : Method} {c : Code} {Q : State → Prop} (l : Launch) (g : va_G) (cI cJ cZ : ClassId) (rm a1 a2 a3 a4 a5 a6 a7 a8 a9 b1 b2 b3 b4 b5 b6 b7 b8 b9 : Nat) (cd tp bl jn sn wt wm wg wo wd : Nat) (sz lf rt : Nat → Int32) (S L R : Nat → Nat) (rc : Nat → Bool) (sp : Nat → Bool) (rq nd : Nat → Nat) (w : Nat) (hR : RuleOK S L R rc tp) (hT : TOK tp S L R sp rq) (hW : nW tp S L R rq nd (lvs sp 1)) (hlen : (lvs sp 1).length ≤ 14000) (hrl : rOK S L R rc sz lf rt) (hw : w < 2 ^ 31)  (C0 : cM p s m args meth c cX4_best 4 (some .int) wsX4_best RX4) (hk : kK g (kty cI cJ cZ) s) {H : Heap} {locs : List Loc} (hP : va_P g vwCl [(rm, .inr (4, [.int (nI cd), .ref a1, .ref a2, .ref a3, .ref a4, .ref a5, .ref a6, .ref a7, .ref a8, .ref a9, .int (nI tp), .int (nI ((lvs sp 1).length)), .ref b1, .int (nI bl), .ref b2, .ref b3, .int (nI jn), .int (nI sn), .ref b4, .ref b5, .ref b6, .ref b7, .ref b8, .int (nI wt), .int (nI wm), .int (nI wg), .long (lN wo), .int (nI wd), .ref b9])), (b1, .inl (cJ, 14000, .inr (.inl (fun j => lN (nd j))))), (a4, .inl (cI, 25, .inl sz)), (a5, .inl (cI, 25, .inl lf)), (a6, .inl (cI, 25, .inl rt))] H) (kk0 : ∀ (bv : Int32), (bv = if bst S (cls tp L R) rq w (lvs sp 1) = 0 then -1 else nI (plc (lvs sp 1) (bst S (cls tp L R) rq w (lvs sp 1)))) → ∀ (ls : Array Slot), lv_has ls 4 [(2, .int bv)] → W p l e (headSpec wsX4_best ({ frames := 1, cells := 0, slots := 0, locals := 21 })).room s m args below meth c H locs 0 0 Q (F0 m 72 ls [])) :
    ∀ (K : Nat) (i : Nat) (bv : Int32), ((lvs sp 1).length - i) < K → (i ≤ (lvs sp 1).length) → (bsA (lvs sp 1) (bst S (cls tp L R) rq w ((lvs sp 1).take i)) i bv) → ∀ (ls : Array Slot), lv_has ls 4 [(0, .ref rm), (1, .int (nI w)), (2, .int bv), (3, .int (nI i))] → W p l e (headSpec wsX4_best ({ frames := 1, cells := 0, slots := 0, locals := 21 })).room s m args below meth c H locs 0 0 Q (F0 m 4 ls []) := by
  obtain ⟨hx, hb, hr, hml, hown, hts, hlocks⟩ := C0
  have hK := hk.1
  have hinX4 : ∀ w ∈ wsX40, w ∈ wsX4_best := by decide +kernel
  intro K
  induction K with
  | zero =>
    intro i bv h0
    exact absurd h0 (Nat.not_lt_zero _)
  | succ K ih =>
    intro i bv hmu hi hbv ls hl
    refine lv_iload_n hx hb dX4_best_4 rfl (lv_at hl 3 rfl) ?_
    refine lv_aload_n hx hb dX4_best_5 rfl (lv_at hl 0 rfl) ?_
    refine va_get (D := g) (ci := 4) (v := .int (nI ((lvs sp 1).length))) (C := RX4) (T := TX4) (N := 29) hx hb hts hinX4 hown hK hP 0 rfl rfl 11 (by decide) (hts (.fieldLink RX4 96 "BuddyRoofModel" "many" "I") (by decide +kernel)) (fun _ h9 => h9) rfl dX4_best_6 ?_
    refine n_icmp_ge (tgt := 72) hx hb dX4_best_9 (by decide) (by first | assumption | omega) (by first | assumption | omega) (fun c6 => ?_) (fun c6 => ?_)
    · skip
      exact kk0 bv (by have q9 := bsA_v (lvs_nodup hR hT ex_1) hbv; rw [take_all (by omega)] at q9; exact q9) ls (lv_sub hl [2] rfl)
    · skip
      obtain ⟨pp, pp_1, pp_2, pp_3, pp_4, pp_5, pp_6, pp_7, pp_8, pp_9, pp_10⟩ := nW_rd (i := i) hR hT hW hlen (by omega)
      have hck := cls_ok hR hT pp_2
      have hrk := rl_kids hR hrl hck.1
      have hbv9 := hbv
      refine lv_aload_n hx hb dX4_best_12 rfl (lv_at hl 0 rfl) ?_
      refine lv_iload_n hx hb dX4_best_13 rfl (lv_at hl 3 rfl) ?_
      refine k_goR (W.runV (As := [.int (nI i)]) (rest := []) ⟨hx, hb, hml, hown, hts⟩ (c_X4_isLive l g cI cJ cZ rm a1 a2 a3 a4 a5 a6 a7 a8 a9 b1 b2 b3 b4 b5 b6 b7 b8 b9 cd tp ((lvs sp 1).length) bl jn sn wt wm wg wo wd nd i pp_4 pp_5) (cwV 1 hts gX4_best_X4_isLive rfl rfl rfl (by decide +kernel) ⟨Nat.le_of_ble_eq_true rfl, Nat.le_of_ble_eq_true rfl⟩) (k_preRV hk hP [0, 1] rfl (ci := 4) (q0 := 0) rfl rfl) rfl rfl hl.1 rfl (lv_room (Nat.le_of_ble_eq_true rfl)) dX4_best_14 ⟨by first | exact Nat.zero_le _ | omega, by first | exact Nat.zero_le _ | omega⟩) ?_
      refine n_top _ (bI (0 < rq pp)) (bI_c pp_7) ?_
      refine k_ifne (tgt := 66) hx hb dX4_best_17 (by decide) (fun c7 => ?_) (fun c7 => ?_)
      · skip
        refine lv_iinc (v := nI (i + 1)) (lv' := [(3, .int (nI (i + 1))), (0, .ref rm), (1, .int (nI w)), (2, .int bv)]) hx hb dX4_best_66 hl (k := 3) rfl (n_inc _ 1) (by decide) rfl (fun ls hl => ?_)
        refine lv_goto (tgt := 4) hx hb dX4_best_69 (by decide) ?_
        exact ih (i + 1) bv (by omega) (by omega) (by rw [bst_s pp_1, bstep_n (Or.inl c7)]; exact bsA_k hbv) ls (lv_sub hl [1, 2, 3, 0] rfl)
      · skip
        refine lv_aload_n hx hb dX4_best_20 rfl (lv_at hl 0 rfl) ?_
        refine va_get (D := g) (ci := 4) (v := .ref a4) (C := RX4) (T := TX4) (N := 29) hx hb hts hinX4 hown hK hP 0 rfl rfl 4 (by decide) (hts (.fieldLink RX4 19 "BuddyRoofModel" "sizes" "[I") (by decide +kernel)) (fun _ h9 => h9) rfl dX4_best_21 ?_
        refine lv_aload_n hx hb dX4_best_24 rfl (lv_at hl 0 rfl) ?_
        refine lv_iload_n hx hb dX4_best_25 rfl (lv_at hl 3 rfl) ?_
        refine k_goR (W.runV (As := [.int (nI i)]) (rest := [.ref a4]) ⟨hx, hb, hml, hown, hts⟩ (c_X4_classOf l g cI cJ cZ rm a1 a2 a3 a4 a5 a6 a7 a8 a9 b1 b2 b3 b4 b5 b6 b7 b8 b9 cd tp ((lvs sp 1).length) bl jn sn wt wm wg wo wd nd i pp_4 pp_5) (cwV 1 hts gX4_best_X4_classOf rfl rfl rfl (by decide +kernel) ⟨Nat.le_of_ble_eq_true rfl, Nat.le_of_ble_eq_true rfl⟩) (k_preRV hk hP [0, 1] rfl (ci := 4) (q0 := 0) rfl rfl) rfl rfl hl.1 rfl (lv_room (Nat.le_of_ble_eq_true rfl)) dX4_best_26 ⟨by first | exact Nat.zero_le _ | omega, by first | exact Nat.zero_le _ | omega⟩) ?_
        refine n_top _ (nI (cls tp L R pp)) (congrArg nI pp_8) ?_
        refine n_ald (v := nI (S (cls tp L R pp))) hx hb hK hP 2 0 rfl rfl (i := (cls tp L R pp)) (by omega) (by decide) (by exact hrk.1) dX4_best_29 ?_
        refine lv_iload_n hx hb dX4_best_30 rfl (lv_at hl 1 rfl) ?_
        refine n_icmp_ge (tgt := 37) hx hb dX4_best_31 (by decide) (by first | assumption | omega) (by first | assumption | omega) (fun c8 => ?_) (fun c8 => ?_)
        · skip
          refine lv_iload_n hx hb dX4_best_37 rfl (lv_at hl 2 rfl) ?_
          refine lv_if_lt (tgt := 64) hx hb dX4_best_38 (by decide) (fun c9 => ?_) (fun c9 => ?_)
          · skip
            have hb0 : bst S (cls tp L R) rq w ((lvs sp 1).take i) = 0 := by
              rcases hbv with e9 | ⟨hbn, jb, hj1, hj2, hj3⟩
              · exact e9.1
              · rw [hj3] at c9; exact absurd c9 (nI_pos (by omega))
            refine lv_iload_n hx hb dX4_best_64 rfl (lv_at hl 3 rfl) ?_
            refine lv_istore_n (lv' := [(2, .int (nI i)), (0, .ref rm), (1, .int (nI w)), (3, .int (nI i))]) hx hb dX4_best_65 rfl hl (by decide) rfl (fun ls hl => ?_)
            refine lv_iinc (v := nI (i + 1)) (lv' := [(3, .int (nI (i + 1))), (2, .int (nI i)), (0, .ref rm), (1, .int (nI w))]) hx hb dX4_best_66 hl (k := 3) rfl (n_inc _ 1) (by decide) rfl (fun ls hl => ?_)
            refine lv_goto (tgt := 4) hx hb dX4_best_69 (by decide) ?_
            exact ih (i + 1) (nI i) (by omega) (by omega) (by rw [bst_s pp_1, bstep_y c7 (by omega) (Or.inl hb0)]; exact Or.inr ⟨by have := ex_pos pp_2; omega, i, by omega, pp_1, rfl⟩) ls (lv_sub hl [2, 3, 1, 0] rfl)
          · skip
            rcases hbv with e9 | ⟨hbn, jb, hj1, hj2, hj3⟩
            · exact absurd (by rw [e9.2]; decide) c9
            subst hj3
            have hbv := hbv9
            obtain ⟨bb, bb_1, bb_2, bb_3, bb_4, bb_5, bb_6, bb_7, bb_8, bb_9, bb_10⟩ := nW_rd (i := jb) hR hT hW hlen (by omega)
            have hbe : bb = bst S (cls tp L R) rq w ((lvs sp 1).take i) := by rw [bb_1] at hj2; exact Option.some.inj hj2
            have hcb := cls_ok hR hT bb_2
            have hrb := rl_kids hR hrl hcb.1
            refine lv_aload_n hx hb dX4_best_41 rfl (lv_at hl 0 rfl) ?_
            refine va_get (D := g) (ci := 4) (v := .ref a4) (C := RX4) (T := TX4) (N := 29) hx hb hts hinX4 hown hK hP 0 rfl rfl 4 (by decide) (hts (.fieldLink RX4 19 "BuddyRoofModel" "sizes" "[I") (by decide +kernel)) (fun _ h9 => h9) rfl dX4_best_42 ?_
            refine lv_aload_n hx hb dX4_best_45 rfl (lv_at hl 0 rfl) ?_
            refine lv_iload_n hx hb dX4_best_46 rfl (lv_at hl 3 rfl) ?_
            refine k_goR (W.runV (As := [.int (nI i)]) (rest := [.ref a4]) ⟨hx, hb, hml, hown, hts⟩ (c_X4_classOf l g cI cJ cZ rm a1 a2 a3 a4 a5 a6 a7 a8 a9 b1 b2 b3 b4 b5 b6 b7 b8 b9 cd tp ((lvs sp 1).length) bl jn sn wt wm wg wo wd nd i pp_4 pp_5) (cwV 1 hts gX4_best_X4_classOf rfl rfl rfl (by decide +kernel) ⟨Nat.le_of_ble_eq_true rfl, Nat.le_of_ble_eq_true rfl⟩) (k_preRV hk hP [0, 1] rfl (ci := 4) (q0 := 0) rfl rfl) rfl rfl hl.1 rfl (lv_room (Nat.le_of_ble_eq_true rfl)) dX4_best_47 ⟨by first | exact Nat.zero_le _ | omega, by first | exact Nat.zero_le _ | omega⟩) ?_
            refine n_top _ (nI (cls tp L R pp)) (congrArg nI pp_8) ?_
            refine n_ald (v := nI (S (cls tp L R pp))) hx hb hK hP 2 0 rfl rfl (i := (cls tp L R pp)) (by omega) (by decide) (by exact hrk.1) dX4_best_50 ?_
            refine lv_aload_n hx hb dX4_best_51 rfl (lv_at hl 0 rfl) ?_
            refine va_get (D := g) (ci := 4) (v := .ref a4) (C := RX4) (T := TX4) (N := 29) hx hb hts hinX4 hown hK hP 0 rfl rfl 4 (by decide) (hts (.fieldLink RX4 19 "BuddyRoofModel" "sizes" "[I") (by decide +kernel)) (fun _ h9 => h9) rfl dX4_best_52 ?_
            refine lv_aload_n hx hb dX4_best_55 rfl (lv_at hl 0 rfl) ?_
            refine lv_iload_n hx hb dX4_best_56 rfl (lv_at hl 2 rfl) ?_
            refine k_goR (W.runV (As := [.int (nI jb)]) (rest := [.ref a4, .int (nI (S (cls tp L R pp)))]) ⟨hx, hb, hml, hown, hts⟩ (c_X4_classOf l g cI cJ cZ rm a1 a2 a3 a4 a5 a6 a7 a8 a9 b1 b2 b3 b4 b5 b6 b7 b8 b9 cd tp ((lvs sp 1).length) bl jn sn wt wm wg wo wd nd jb bb_4 bb_5) (cwV 1 hts gX4_best_X4_classOf rfl rfl rfl (by decide +kernel) ⟨Nat.le_of_ble_eq_true rfl, Nat.le_of_ble_eq_true rfl⟩) (k_preRV hk hP [0, 1] rfl (ci := 4) (q0 := 0) rfl rfl) rfl rfl hl.1 rfl (lv_room (Nat.le_of_ble_eq_true rfl)) dX4_best_57 ⟨by first | exact Nat.zero_le _ | omega, by first | exact Nat.zero_le _ | omega⟩) ?_
            refine n_top _ (nI (cls tp L R bb)) (congrArg nI bb_8) ?_
            refine n_ald (v := nI (S (cls tp L R bb))) hx hb hK hP 2 0 rfl rfl (i := (cls tp L R bb)) (by omega) (by decide) (by exact hrb.1) dX4_best_60 ?_
            refine n_icmp_ge (tgt := 66) hx hb dX4_best_61 (by decide) (by first | assumption | omega) (by first | assumption | omega) (fun c10 => ?_) (fun c10 => ?_)
            · skip
              refine lv_iinc (v := nI (i + 1)) (lv' := [(3, .int (nI (i + 1))), (0, .ref rm), (1, .int (nI w)), (2, .int (nI jb))]) hx hb dX4_best_66 hl (k := 3) rfl (n_inc _ 1) (by decide) rfl (fun ls hl => ?_)
              refine lv_goto (tgt := 4) hx hb dX4_best_69 (by decide) ?_
              exact ih (i + 1) (nI jb) (by omega) (by omega) (by rw [bst_s pp_1, bstep_n (Or.inr (Or.inr ⟨hbn, by rw [← hbe]; omega⟩))]; exact bsA_k hbv) ls (lv_sub hl [1, 2, 3, 0] rfl)
            · skip
              refine lv_iload_n hx hb dX4_best_64 rfl (lv_at hl 3 rfl) ?_
              refine lv_istore_n (lv' := [(2, .int (nI i)), (0, .ref rm), (1, .int (nI w)), (3, .int (nI i))]) hx hb dX4_best_65 rfl hl (by decide) rfl (fun ls hl => ?_)
              refine lv_iinc (v := nI (i + 1)) (lv' := [(3, .int (nI (i + 1))), (2, .int (nI i)), (0, .ref rm), (1, .int (nI w))]) hx hb dX4_best_66 hl (k := 3) rfl (n_inc _ 1) (by decide) rfl (fun ls hl => ?_)
              refine lv_goto (tgt := 4) hx hb dX4_best_69 (by decide) ?_
              exact ih (i + 1) (nI i) (by omega) (by omega) (by rw [bst_s pp_1, bstep_y c7 (by omega) (Or.inr (by rw [← hbe]; omega))]; exact Or.inr ⟨by have := ex_pos pp_2; omega, i, by omega, pp_1, rfl⟩) ls (lv_sub hl [2, 3, 1, 0] rfl)
        · skip
          refine lv_goto (tgt := 66) hx hb dX4_best_34 (by decide) ?_
          refine lv_iinc (v := nI (i + 1)) (lv' := [(3, .int (nI (i + 1))), (0, .ref rm), (1, .int (nI w)), (2, .int bv)]) hx hb dX4_best_66 hl (k := 3) rfl (n_inc _ 1) (by decide) rfl (fun ls hl => ?_)
          refine lv_goto (tgt := 4) hx hb dX4_best_69 (by decide) ?_
          exact ih (i + 1) bv (by omega) (by omega) (by rw [bst_s pp_1, bstep_n (Or.inr (Or.inl (by omega)))]; exact bsA_k hbv) ls (lv_sub hl [1, 2, 3, 0] rfl)

set_option maxHeartbeats 4000000 in
set_option maxRecDepth 100000 in
theorem c_X4_best (l : Launch) (g : va_G) (cI cJ cZ : ClassId) (rm a1 a2 a3 a4 a5 a6 a7 a8 a9 b1 b2 b3 b4 b5 b6 b7 b8 b9 : Nat) (cd tp bl jn sn wt wm wg wo wd : Nat) (sz lf rt : Nat → Int32) (S L R : Nat → Nat) (rc : Nat → Bool) (sp : Nat → Bool) (rq nd : Nat → Nat) (w : Nat) (hR : RuleOK S L R rc tp) (hT : TOK tp S L R sp rq) (hW : nW tp S L R rq nd (lvs sp 1)) (hlen : (lvs sp 1).length ≤ 14000) (hrl : rOK S L R rc sz lf rt) (hw : w < 2 ^ 31) : kR l g (kty cI cJ cZ) yX4_best wsX4_best ({ frames := 1, cells := 0, slots := 0, locals := 21 }) [.ref rm, .int (nI w)] [(rm, .inr (4, [.int (nI cd), .ref a1, .ref a2, .ref a3, .ref a4, .ref a5, .ref a6, .ref a7, .ref a8, .ref a9, .int (nI tp), .int (nI ((lvs sp 1).length)), .ref b1, .int (nI bl), .ref b2, .ref b3, .int (nI jn), .int (nI sn), .ref b4, .ref b5, .ref b6, .ref b7, .ref b8, .int (nI wt), .int (nI wm), .int (nI wg), .long (lN wo), .int (nI wd), .ref b9])), (b1, .inl (cJ, 14000, .inr (.inl (fun j => lN (nd j))))), (a4, .inl (cI, 25, .inl sz)), (a5, .inl (cI, 25, .inl lf)), (a6, .inl (cI, 25, .inl rt))] (if bst S (cls tp L R) rq w (lvs sp 1) = 0 then -1 else nI (plc (lvs sp 1) (bst S (cls tp L R) rq w (lvs sp 1)))) := by
  refine Met.ofW (cc := cX4_best) (maxL := 4) (ret := (some .int)) (by decide) rfl ?_
  intro p e s m args below meth c s₁ B hml hv
  obtain ⟨rfl, hP, hk⟩ := hv
  have hx := B.exec
  have hb := B.bytes
  have hr := B.returns
  have hts := atoms_spec (ws := wsX4_best) B.pre
  have hown : s.vm.findClass RX4 = some m.cls := findClass_of_methodNamed B.named
  have hlocks := B.notSynchronized
  have hK := hk.1
  have hinX4 : ∀ w ∈ wsX40, w ∈ wsX4_best := by decide +kernel
  have hl := lv_entry ([.ref rm, .int (nI w)]) (n := 4) (Nat.le_of_ble_eq_true rfl)
  rw [lg_entry_eq]
  generalize (lg_sl ([.ref rm, .int (nI w)]) ++ List.replicate (4 - (lg_sl ([.ref rm, .int (nI w)])).length) Slot.unset).toArray = ls at hl ⊢
  have hl : lv_has ls 4 [(0, .ref rm), (1, .int (nI w))] := hl
  refine lv_iconst (v := (-1)) hx hb dX4_best_0 (by decide) ?_
  refine lv_istore_n (lv' := [(2, .int (-1)), (0, .ref rm), (1, .int (nI w))]) hx hb dX4_best_1 rfl hl (by decide) rfl (fun ls hl => ?_)
  refine lv_iconst (v := nI 0) hx hb dX4_best_2 (by decide) ?_
  refine lv_istore_n (lv' := [(3, .int (nI 0)), (2, .int (-1)), (0, .ref rm), (1, .int (nI w))]) hx hb dX4_best_3 rfl hl (by decide) rfl (fun ls hl => ?_)
  refine lp_X4_best_4 l g cI cJ cZ rm a1 a2 a3 a4 a5 a6 a7 a8 a9 b1 b2 b3 b4 b5 b6 b7 b8 b9 cd tp bl jn sn wt wm wg wo wd sz lf rt S L R rc sp rq nd w hR hT hW hlen hrl hw  ⟨hx, hb, hr, hml, hown, hts, hlocks⟩ hk hP (fun bv hbv ls hl => ?_) _ 0 (-1) (Nat.lt_succ_self _) (Nat.zero_le _) (Or.inl ⟨rfl, rfl⟩) ls (lv_sub hl [2, 3, 1, 0] rfl)
  · skip
    refine lv_iload_n hx hb dX4_best_72 rfl (lv_at hl 0 rfl) ?_
    exact k_retR (v := bv) hx hb hr hlocks (hbv) dX4_best_73
