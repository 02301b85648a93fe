set_option maxHeartbeats 4000000 in
set_option maxRecDepth 100000 in
theorem c_X4_isPair (l : Launch) (g : va_G) (cI cJ cZ : ClassId) (rm a1 a2 a3 a4 a5 a6 a7 a8 a9 b1 b2 b3 b4 b5 b6 b7 b8 b9 : Nat) (cd tp bl jn sn wt wm wg wo wd : Nat) (S L R : Nat → Nat) (rc : Nat → Bool) (sp : Nat → Bool) (rq nd : Nat → Nat) (i : Nat) (hR : RuleOK S L R rc tp) (hT : TOK tp S L R sp rq) (hW : nW tp S L R rq nd (lvs sp 1)) (hlen : (lvs sp 1).length ≤ 14000) (hi : i < (lvs sp 1).length) : kR l g (kty cI cJ cZ) yX4_isPair wsX4_isPair ({ frames := 1, cells := 0, slots := 0, locals := 21 }) [.ref rm, .int (nI i)] [(rm, .inr (4, [.int (nI cd), .ref a1, .ref a2, .ref a3, .ref a4, .ref a5, .ref a6, .ref a7, .ref a8, .ref a9, .int (nI tp), .int (nI ((lvs sp 1).length)), .ref b1, .int (nI bl), .ref b2, .ref b3, .int (nI jn), .int (nI sn), .ref b4, .ref b5, .ref b6, .ref b7, .ref b8, .int (nI wt), .int (nI wm), .int (nI wg), .long (lN wo), .int (nI wd), .ref b9])), (b1, .inl (cJ, 14000, .inr (.inl (fun j => lN (nd j)))))] (bI (prB (lvs sp 1) i = true)) := by
  refine Met.ofW (cc := cX4_isPair) (maxL := 2) (ret := (some .boolean)) (by decide) rfl ?_
  intro p e s m args below meth c s₁ B hml hv
  obtain ⟨rfl, hP, hk⟩ := hv
  have hx := B.exec
  have hb := B.bytes
  have hr := B.returns
  have hts := atoms_spec (ws := wsX4_isPair) B.pre
  have hown : s.vm.findClass RX4 = some m.cls := findClass_of_methodNamed B.named
  have hlocks := B.notSynchronized
  have hK := hk.1
  have hinX4 : ∀ w ∈ wsX40, w ∈ wsX4_isPair := by decide +kernel
  have hl := lv_entry ([.ref rm, .int (nI i)]) (n := 2) (Nat.le_of_ble_eq_true rfl)
  rw [lg_entry_eq]
  generalize (lg_sl ([.ref rm, .int (nI i)]) ++ List.replicate (2 - (lg_sl ([.ref rm, .int (nI i)])).length) Slot.unset).toArray = ls at hl ⊢
  have hl : lv_has ls 2 [(0, .ref rm), (1, .int (nI i))] := hl
  obtain ⟨pp, pp_1, pp_2, pp_3, pp_4, pp_5, pp_6, pp_7, pp_8, pp_9, pp_10⟩ := nW_rd (i := i) hR hT hW hlen hi
  have hb1 := sid_b hR hT pp_2
  refine lv_iload_n hx hb dX4_isPair_0 rfl (lv_at hl 1 rfl) ?_
  refine n_if_lt (tgt := 68) hx hb dX4_isPair_1 (by decide) (by first | assumption | omega) ?_
  refine lv_iload_n hx hb dX4_isPair_4 rfl (lv_at hl 1 rfl) ?_
  refine lv_iconst (v := nI 1) hx hb dX4_isPair_5 (by decide) ?_
  refine n_iadd hx hb dX4_isPair_6 ?_
  refine lv_aload_n hx hb dX4_isPair_7 rfl (lv_at hl 0 rfl) ?_
  refine va_get (D := g) (ci := 4) (v := .int (nI ((lvs sp 1).length))) (C := RX4) (T := TX4) (N := 29) hx hb hts hinX4 hown hK hP 0 rfl rfl 11 (by decide) (hts (.fieldLink RX4 96 "BuddyRoofModel" "many" "I") (by decide +kernel)) (fun _ h9 => h9) rfl dX4_isPair_8 ?_
  refine n_icmp_ge (tgt := 68) hx hb dX4_isPair_11 (by decide) (by first | assumption | omega) (by first | assumption | omega) (fun c2 => ?_) (fun c2 => ?_)
  · skip
    refine lv_iconst (v := nI 0) hx hb dX4_isPair_68 (by decide) ?_
    exact k_retRZ (v := nI 0) hx hb hr hlocks (by decide) (by rw [prB_n (by omega)]; decide) dX4_isPair_69
  · skip
    obtain ⟨qq, qq_1, qq_2, qq_3, qq_4, qq_5, qq_6, qq_7, qq_8, qq_9, qq_10⟩ := nW_rd (i := i + 1) hR hT hW hlen (by omega)
    have hb2 := sid_b hR hT qq_2
    refine lv_aload_n hx hb dX4_isPair_14 rfl (lv_at hl 0 rfl) ?_
    refine lv_iload_n hx hb dX4_isPair_15 rfl (lv_at hl 1 rfl) ?_
    refine k_goR (W.runV (As := [.int (nI i)]) (rest := []) ⟨hx, hb, hml, hown, hts⟩ (c_X4_depth l g cI cJ cZ rm a1 a2 a3 a4 a5 a6 a7 a8 a9 b1 b2 b3 b4 b5 b6 b7 b8 b9 cd tp ((lvs sp 1).length) bl jn sn wt wm wg wo wd nd i pp_4 pp_5) (cwV 1 hts gX4_isPair_X4_depth rfl rfl rfl (by decide +kernel) ⟨Nat.le_of_ble_eq_true rfl, Nat.le_of_ble_eq_true rfl⟩) (k_preRV hk hP [0, 1] rfl (ci := 4) (q0 := 0) rfl rfl) rfl rfl hl.1 rfl (lv_room (Nat.le_of_ble_eq_true rfl)) dX4_isPair_16 ⟨by first | exact Nat.zero_le _ | omega, by first | exact Nat.zero_le _ | omega⟩) ?_
    refine n_top _ (nI (dep pp)) (congrArg nI pp_9) ?_
    refine n_if_le (tgt := 68) hx hb dX4_isPair_19 (by decide) (by first | assumption | omega) (fun c3 => ?_) (fun c3 => ?_)
    · skip
      refine lv_iconst (v := nI 0) hx hb dX4_isPair_68 (by decide) ?_
      exact k_retRZ (v := nI 0) hx hb hr hlocks (by decide) (by rw [bI_c (prB_iff hR hT pp_1 qq_1 pp_2 qq_2)]; unfold bI; split <;> first | rfl | (exfalso; omega)) dX4_isPair_69
    · skip
      refine lv_aload_n hx hb dX4_isPair_22 rfl (lv_at hl 0 rfl) ?_
      refine lv_iload_n hx hb dX4_isPair_23 rfl (lv_at hl 1 rfl) ?_
      refine k_goR (W.runV (As := [.int (nI i)]) (rest := []) ⟨hx, hb, hml, hown, hts⟩ (c_X4_depth l g cI cJ cZ rm a1 a2 a3 a4 a5 a6 a7 a8 a9 b1 b2 b3 b4 b5 b6 b7 b8 b9 cd tp ((lvs sp 1).length) bl jn sn wt wm wg wo wd nd i pp_4 pp_5) (cwV 1 hts gX4_isPair_X4_depth rfl rfl rfl (by decide +kernel) ⟨Nat.le_of_ble_eq_true rfl, Nat.le_of_ble_eq_true rfl⟩) (k_preRV hk hP [0, 1] rfl (ci := 4) (q0 := 0) rfl rfl) rfl rfl hl.1 rfl (lv_room (Nat.le_of_ble_eq_true rfl)) dX4_isPair_24 ⟨by first | exact Nat.zero_le _ | omega, by first | exact Nat.zero_le _ | omega⟩) ?_
      refine n_top _ (nI (dep pp)) (congrArg nI pp_9) ?_
      refine lv_aload_n hx hb dX4_isPair_27 rfl (lv_at hl 0 rfl) ?_
      refine lv_iload_n hx hb dX4_isPair_28 rfl (lv_at hl 1 rfl) ?_
      refine lv_iconst (v := nI 1) hx hb dX4_isPair_29 (by decide) ?_
      refine n_iadd hx hb dX4_isPair_30 ?_
      refine k_goR (W.runV (As := [.int (nI (i + 1))]) (rest := [.int (nI (dep pp))]) ⟨hx, hb, hml, hown, hts⟩ (c_X4_depth l g cI cJ cZ rm a1 a2 a3 a4 a5 a6 a7 a8 a9 b1 b2 b3 b4 b5 b6 b7 b8 b9 cd tp ((lvs sp 1).length) bl jn sn wt wm wg wo wd nd (i + 1) qq_4 qq_5) (cwV 1 hts gX4_isPair_X4_depth rfl rfl rfl (by decide +kernel) ⟨Nat.le_of_ble_eq_true rfl, Nat.le_of_ble_eq_true rfl⟩) (k_preRV hk hP [0, 1] rfl (ci := 4) (q0 := 0) rfl rfl) rfl rfl hl.1 rfl (lv_room (Nat.le_of_ble_eq_true rfl)) dX4_isPair_31 ⟨by first | exact Nat.zero_le _ | omega, by first | exact Nat.zero_le _ | omega⟩) ?_
      refine n_top _ (nI (dep qq)) (congrArg nI qq_9) ?_
      refine n_icmp_ne (tgt := 68) hx hb dX4_isPair_34 (by decide) (by first | assumption | omega) (by first | assumption | omega) (fun c4 => ?_) (fun c4 => ?_)
      · skip
        refine lv_iconst (v := nI 0) hx hb dX4_isPair_68 (by decide) ?_
        exact k_retRZ (v := nI 0) hx hb hr hlocks (by decide) (by rw [bI_c (prB_iff hR hT pp_1 qq_1 pp_2 qq_2)]; unfold bI; split <;> first | rfl | (exfalso; omega)) dX4_isPair_69
      · skip
        refine lv_aload_n hx hb dX4_isPair_37 rfl (lv_at hl 0 rfl) ?_
        refine lv_iload_n hx hb dX4_isPair_38 rfl (lv_at hl 1 rfl) ?_
        refine k_goR (W.runV (As := [.int (nI i)]) (rest := []) ⟨hx, hb, hml, hown, hts⟩ (c_X4_sides l g cI cJ cZ rm a1 a2 a3 a4 a5 a6 a7 a8 a9 b1 b2 b3 b4 b5 b6 b7 b8 b9 cd tp ((lvs sp 1).length) bl jn sn wt wm wg wo wd nd i pp_4 pp_5) (cwV 1 hts gX4_isPair_X4_sides rfl rfl rfl (by decide +kernel) ⟨Nat.le_of_ble_eq_true rfl, Nat.le_of_ble_eq_true rfl⟩) (k_preRV hk hP [0, 1] rfl (ci := 4) (q0 := 0) rfl rfl) rfl rfl hl.1 rfl (lv_room (Nat.le_of_ble_eq_true rfl)) dX4_isPair_39 ⟨by first | exact Nat.zero_le _ | omega, by first | exact Nat.zero_le _ | omega⟩) ?_
        refine n_top _ (nI (pp % 2 ^ dep pp)) (congrArg nI pp_10) ?_
        refine lv_iconst (v := nI 2) hx hb dX4_isPair_42 (by decide) ?_
        refine n_irem hx hb dX4_isPair_43 (by first | assumption | omega) (by first | assumption | omega) (by first | assumption | omega) ?_
        refine n_if_ne (tgt := 68) hx hb dX4_isPair_44 (by decide) (by first | assumption | omega) (fun c5 => ?_) (fun c5 => ?_)
        · skip
          refine lv_iconst (v := nI 0) hx hb dX4_isPair_68 (by decide) ?_
          exact k_retRZ (v := nI 0) hx hb hr hlocks (by decide) (by rw [bI_c (prB_iff hR hT pp_1 qq_1 pp_2 qq_2)]; unfold bI; split <;> first | rfl | (exfalso; omega)) dX4_isPair_69
        · skip
          refine lv_aload_n hx hb dX4_isPair_47 rfl (lv_at hl 0 rfl) ?_
          refine lv_iload_n hx hb dX4_isPair_48 rfl (lv_at hl 1 rfl) ?_
          refine k_goR (W.runV (As := [.int (nI i)]) (rest := []) ⟨hx, hb, hml, hown, hts⟩ (c_X4_sides l g cI cJ cZ rm a1 a2 a3 a4 a5 a6 a7 a8 a9 b1 b2 b3 b4 b5 b6 b7 b8 b9 cd tp ((lvs sp 1).length) bl jn sn wt wm wg wo wd nd i pp_4 pp_5) (cwV 1 hts gX4_isPair_X4_sides rfl rfl rfl (by decide +kernel) ⟨Nat.le_of_ble_eq_true rfl, Nat.le_of_ble_eq_true rfl⟩) (k_preRV hk hP [0, 1] rfl (ci := 4) (q0 := 0) rfl rfl) rfl rfl hl.1 rfl (lv_room (Nat.le_of_ble_eq_true rfl)) dX4_isPair_49 ⟨by first | exact Nat.zero_le _ | omega, by first | exact Nat.zero_le _ | omega⟩) ?_
          refine n_top _ (nI (pp % 2 ^ dep pp)) (congrArg nI pp_10) ?_
          refine lv_iconst (v := nI 1) hx hb dX4_isPair_52 (by decide) ?_
          refine n_iadd hx hb dX4_isPair_53 ?_
          refine lv_aload_n hx hb dX4_isPair_54 rfl (lv_at hl 0 rfl) ?_
          refine lv_iload_n hx hb dX4_isPair_55 rfl (lv_at hl 1 rfl) ?_
          refine lv_iconst (v := nI 1) hx hb dX4_isPair_56 (by decide) ?_
          refine n_iadd hx hb dX4_isPair_57 ?_
          refine k_goR (W.runV (As := [.int (nI (i + 1))]) (rest := [.int (nI ((pp % 2 ^ dep pp) + 1))]) ⟨hx, hb, hml, hown, hts⟩ (c_X4_sides l g cI cJ cZ rm a1 a2 a3 a4 a5 a6 a7 a8 a9 b1 b2 b3 b4 b5 b6 b7 b8 b9 cd tp ((lvs sp 1).length) bl jn sn wt wm wg wo wd nd (i + 1) qq_4 qq_5) (cwV 1 hts gX4_isPair_X4_sides rfl rfl rfl (by decide +kernel) ⟨Nat.le_of_ble_eq_true rfl, Nat.le_of_ble_eq_true rfl⟩) (k_preRV hk hP [0, 1] rfl (ci := 4) (q0 := 0) rfl rfl) rfl rfl hl.1 rfl (lv_room (Nat.le_of_ble_eq_true rfl)) dX4_isPair_58 ⟨by first | exact Nat.zero_le _ | omega, by first | exact Nat.zero_le _ | omega⟩) ?_
          refine n_top _ (nI (qq % 2 ^ dep qq)) (congrArg nI qq_10) ?_
          refine n_icmp_ne (tgt := 68) hx hb dX4_isPair_61 (by decide) (by first | assumption | omega) (by first | assumption | omega) (fun c6 => ?_) (fun c6 => ?_)
          · skip
            refine lv_iconst (v := nI 0) hx hb dX4_isPair_68 (by decide) ?_
            exact k_retRZ (v := nI 0) hx hb hr hlocks (by decide) (by rw [bI_c (prB_iff hR hT pp_1 qq_1 pp_2 qq_2)]; unfold bI; split <;> first | rfl | (exfalso; omega)) dX4_isPair_69
          · skip
            refine lv_iconst (v := nI 1) hx hb dX4_isPair_64 (by decide) ?_
            refine lv_goto (tgt := 69) hx hb dX4_isPair_65 (by decide) ?_
            exact k_retRZ (v := nI 1) hx hb hr hlocks (by decide) (by rw [bI_c (prB_iff hR hT pp_1 qq_1 pp_2 qq_2)]; unfold bI; split <;> first | rfl | (exfalso; omega)) dX4_isPair_69
set_option maxHeartbeats 4000000 in
set_option maxRecDepth 100000 in
theorem c_X4_isPair_n (l : Launch) (g : va_G) (cI cJ cZ : ClassId) (rm a1 a2 a3 a4 a5 a6 a7 a8 a9 b1 b2 b3 b4 b5 b6 b7 b8 b9 : Nat) (cd tp mn bl jn sn wt wm wg wo wd : Nat) (v : Int32) (hv : v < 0) : kR l g (kty cI cJ cZ) yX4_isPair wsX4_isPair ({ frames := 0, cells := 0, slots := 0, locals := 0 }) [.ref rm, .int v] [(rm, .inr (4, [.int (nI cd), .ref a1, .ref a2, .ref a3, .ref a4, .ref a5, .ref a6, .ref a7, .ref a8, .ref a9, .int (nI tp), .int (nI mn), .ref b1, .int (nI bl), .ref b2, .ref b3, .int (nI jn), .int (nI sn), .ref b4, .ref b5, .ref b6, .ref b7, .ref b8, .int (nI wt), .int (nI wm), .int (nI wg), .long (lN wo), .int (nI wd), .ref b9]))] (nI 0) := by
  refine Met.ofW (cc := cX4_isPair) (maxL := 2) (ret := (some .boolean)) (by decide) rfl ?_
  intro p e s m args below meth c s₁ B hml hv
  obtain ⟨rfl, hP, hk⟩ := hv
  have hx := B.exec
  have hb := B.bytes
  have hr := B.returns
  have hts := atoms_spec (ws := wsX4_isPair) B.pre
  have hown : s.vm.findClass RX4 = some m.cls := findClass_of_methodNamed B.named
  have hlocks := B.notSynchronized
  have hK := hk.1
  have hl := lv_entry ([.ref rm, .int v]) (n := 2) (Nat.le_of_ble_eq_true rfl)
  rw [lg_entry_eq]
  generalize (lg_sl ([.ref rm, .int v]) ++ List.replicate (2 - (lg_sl ([.ref rm, .int v])).length) Slot.unset).toArray = ls at hl ⊢
  have hl : lv_has ls 2 [(0, .ref rm), (1, .int v)] := hl
  refine lv_iload_n hx hb dX4_isPair_0 rfl (lv_at hl 1 rfl) ?_
  refine lv_if_lt (tgt := 68) hx hb dX4_isPair_1 (by decide) (fun c1 => ?_) (fun c1 => ?_)
  · skip
    refine lv_iconst (v := nI 0) hx hb dX4_isPair_68 (by decide) ?_
    exact k_retRZ (v := nI 0) hx hb hr hlocks (by decide) (rfl) dX4_isPair_69
  · exact (by exact absurd hv c1)
set_option maxHeartbeats 4000000 in
set_option maxRecDepth 100000 in
theorem lp_X4_classAt_10 {p : Program} {e : Env} {s : State} {m : MethodId} {args : Array Value} {below : List Frame} {meth : Method} {c : Code} {Q : State → Prop} (l : Launch) (g : va_G) (cI cJ cZ : ClassId) (rm a1 a2 a3 a4 a5 a6 a7 a8 a9 b1 b2 b3 b4 b5 b6 b7 b8 b9 : Nat) (cd tp mn bl jn sn wt wm wg wo wd : Nat) (sz lf rt : Nat → Int32) (S L R : Nat → Nat) (rc : Nat → Bool) (sp : Nat → Bool) (rq : Nat → Nat) (y dd ss : Nat) (hR : RuleOK S L R rc tp) (hT : TOK tp S L R sp rq) (hrl : rOK S L R rc sz lf rt) (hyx : ex sp y) (hdd : dep y = dd) (hss : y % 2 ^ dep y = ss)  (C0 : cM p s m args meth c cX4_classAt 5 (some .int) wsX4_classAt RX4) (hk : kK g (kty cI cJ cZ) s) {H : Heap} {locs : List Loc} (hP : va_P g vwCl [(rm, .inr (4, [.int (nI cd), .ref a1, .ref a2, .ref a3, .ref a4, .ref a5, .ref a6, .ref a7, .ref a8, .ref a9, .int (nI tp), .int (nI mn), .ref b1, .int (nI bl), .ref b2, .ref b3, .int (nI jn), .int (nI sn), .ref b4, .ref b5, .ref b6, .ref b7, .ref b8, .int (nI wt), .int (nI wm), .int (nI wg), .long (lN wo), .int (nI wd), .ref b9])), (a4, .inl (cI, 25, .inl sz)), (a5, .inl (cI, 25, .inl lf)), (a6, .inl (cI, 25, .inl rt))] H) (kk0 :  ∀ (ls : Array Slot), lv_has ls 5 [(3, .int (nI (cls tp L R y)))] → W p l e (headSpec wsX4_classAt ({ frames := 0, cells := 0, slots := 0, locals := 0 })).room s m args below meth c H locs 0 0 Q (F0 m 46 ls [])) :
    ∀ (K : Nat) (j : Nat), j < K → (j ≤ dep y) → ∀ (ls : Array Slot), lv_has ls 5 [(0, .ref rm), (2, .int (nI ss)), (3, .int (nI (cls tp L R (y / 2 ^ j)))), (4, .int (nI j + (-1)))] → W p l e (headSpec wsX4_classAt ({ frames := 0, cells := 0, slots := 0, locals := 0 })).room s m args below meth c H locs 0 0 Q (F0 m 10 ls []) := by
  obtain ⟨hx, hb, hr, hml, hown, hts, hlocks⟩ := C0
  have hK := hk.1
  have hinX4 : ∀ w ∈ wsX40, w ∈ wsX4_classAt := by decide +kernel
  intro K
  induction K with
  | zero =>
    intro j h0
    exact absurd h0 (Nat.not_lt_zero _)
  | succ K ih =>
    intro j hmu hj ls hl
    have hb1 := sid_b hR hT hyx
    rw [hss] at hb1
    refine lv_iload hx hb dX4_classAt_10 (lv_at hl 3 rfl) ?_
    refine lv_if_lt (tgt := 46) hx hb dX4_classAt_12 (by decide) (fun c3 => ?_) (fun c3 => ?_)
    · skip
      have hj0 : j = 0 := Classical.byContradiction fun e9 => by
        obtain ⟨jj, rfl⟩ : ∃ jj, j = jj + 1 := ⟨j - 1, by omega⟩
        rw [pk_m1] at c3
        exact absurd c3 (nI_pos (by omega))
      subst hj0
      rw [show y / 2 ^ 0 = y by simp] at hl
      exact kk0   ls (lv_sub hl [2] rfl)
    · skip
      obtain ⟨jj, rfl⟩ : ∃ jj, j = jj + 1 := ⟨j - 1, by have : j ≠ 0 := fun e9 => c3 (by rw [e9]; decide); omega⟩
      rw [pk_m1] at hl
      have hck := cls_ok hR hT (ex_anc hT (jj + 1) y hyx (by omega))
      have hrk := rl_kids hR hrl hck.1
      have hcb := cls_bit (top := tp) (L := L) (R := R) (anc_2 (j := jj) hyx (by omega))
      have hsb := sid_bit (p := y) (d := dep y) (jj := jj) (by omega)
      rw [hss] at hsb
      refine lv_iload_n hx hb dX4_classAt_15 rfl (lv_at hl 1 rfl) ?_
      refine lv_iload hx hb dX4_classAt_16 (lv_at hl 3 rfl) ?_
      refine n_ishr hx hb dX4_classAt_18 (by first | assumption | omega) (by first | assumption | omega) ?_
      refine lv_iconst (v := nI 1) hx hb dX4_classAt_19 (by decide) ?_
      refine n_iand hx hb dX4_classAt_20 ?_
      refine n_if_ne (tgt := 33) hx hb dX4_classAt_21 (by decide) (by exact Nat.lt_of_le_of_lt Nat.and_le_right (by decide)) (fun c4 => ?_) (fun c4 => ?_)
      · skip
        refine lv_aload_n hx hb dX4_classAt_33 rfl (lv_at hl 0 rfl) ?_
        refine va_get (D := g) (ci := 4) (v := .ref a6) (C := RX4) (T := TX4) (N := 29) hx hb hts hinX4 hown hK hP 0 rfl rfl 6 (by decide) (hts (.fieldLink RX4 25 "BuddyRoofModel" "rights" "[I") (by decide +kernel)) (fun _ h9 => h9) rfl dX4_classAt_34 ?_
        refine lv_iload_n hx hb dX4_classAt_37 rfl (lv_at hl 2 rfl) ?_
        refine n_ald (v := nI (R (cls tp L R (y / 2 ^ (jj + 1))))) hx hb hK hP 3 0 rfl rfl (i := (cls tp L R (y / 2 ^ (jj + 1)))) (by omega) (by first | assumption | omega) (by exact hrk.2.2.1) dX4_classAt_38 ?_
        refine n_top _ (nI (cls tp L R (y / 2 ^ jj))) (by rw [hcb, if_neg (by omega)]) ?_
        refine lv_istore_n (lv' := [(3, .int (nI (cls tp L R (y / 2 ^ jj)))), (0, .ref rm), (2, .int (nI ss)), (4, .int (nI jj))]) hx hb dX4_classAt_39 rfl hl (by decide) rfl (fun ls hl => ?_)
        refine lv_iinc (v := nI jj + (-1)) (lv' := [(4, .int (nI jj + (-1))), (3, .int (nI (cls tp L R (y / 2 ^ jj)))), (0, .ref rm), (2, .int (nI ss))]) hx hb dX4_classAt_40 hl (k := 3) rfl ((rfl)) (by decide) rfl (fun ls hl => ?_)
        refine lv_goto (tgt := 10) hx hb dX4_classAt_43 (by decide) ?_
        exact ih jj (by omega) (by omega) ls (lv_sub hl [2, 3, 1, 0] rfl)
      · skip
        refine lv_aload_n hx hb dX4_classAt_24 rfl (lv_at hl 0 rfl) ?_
        refine va_get (D := g) (ci := 4) (v := .ref a5) (C := RX4) (T := TX4) (N := 29) hx hb hts hinX4 hown hK hP 0 rfl rfl 5 (by decide) (hts (.fieldLink RX4 22 "BuddyRoofModel" "lefts" "[I") (by decide +kernel)) (fun _ h9 => h9) rfl dX4_classAt_25 ?_
        refine lv_iload_n hx hb dX4_classAt_28 rfl (lv_at hl 2 rfl) ?_
        refine n_ald (v := nI (L (cls tp L R (y / 2 ^ (jj + 1))))) hx hb hK hP 2 0 rfl rfl (i := (cls tp L R (y / 2 ^ (jj + 1)))) (by omega) (by first | assumption | omega) (by exact hrk.2.1) dX4_classAt_29 ?_
        refine n_top _ (nI (cls tp L R (y / 2 ^ jj))) (by rw [hcb, if_pos (by omega)]) ?_
        refine lv_goto (tgt := 39) hx hb dX4_classAt_30 (by decide) ?_
        refine lv_istore_n (lv' := [(3, .int (nI (cls tp L R (y / 2 ^ jj)))), (0, .ref rm), (2, .int (nI ss)), (4, .int (nI jj))]) hx hb dX4_classAt_39 rfl hl (by decide) rfl (fun ls hl => ?_)
        refine lv_iinc (v := nI jj + (-1)) (lv' := [(4, .int (nI jj + (-1))), (3, .int (nI (cls tp L R (y / 2 ^ jj)))), (0, .ref rm), (2, .int (nI ss))]) hx hb dX4_classAt_40 hl (k := 3) rfl ((rfl)) (by decide) rfl (fun ls hl => ?_)
        refine lv_goto (tgt := 10) hx hb dX4_classAt_43 (by decide) ?_
        exact ih jj (by omega) (by omega) ls (lv_sub hl [2, 3, 1, 0] rfl)

set_option maxHeartbeats 4000000 in
set_option maxRecDepth 100000 in
theorem c_X4_classAt (l : Launch) (g : va_G) (cI cJ cZ : ClassId) (rm a1 a2 a3 a4 a5 a6 a7 a8 a9 b1 b2 b3 b4 b5 b6 b7 b8 b9 : Nat) (cd tp mn bl jn sn wt wm wg wo wd : Nat) (sz lf rt : Nat → Int32) (S L R : Nat → Nat) (rc : Nat → Bool) (sp : Nat → Bool) (rq : Nat → Nat) (y dd ss : Nat) (hR : RuleOK S L R rc tp) (hT : TOK tp S L R sp rq) (hrl : rOK S L R rc sz lf rt) (hyx : ex sp y) (hdd : dep y = dd) (hss : y % 2 ^ dep y = ss) : kR l g (kty cI cJ cZ) yX4_classAt wsX4_classAt ({ frames := 0, cells := 0, slots := 0, locals := 0 }) [.ref rm, .int (nI dd), .int (nI ss)] [(rm, .inr (4, [.int (nI cd), .ref a1, .ref a2, .ref a3, .ref a4, .ref a5, .ref a6, .ref a7, .ref a8, .ref a9, .int (nI tp), .int (nI mn), .ref b1, .int (nI bl), .ref b2, .ref b3, .int (nI jn), .int (nI sn), .ref b4, .ref b5, .ref b6, .ref b7, .ref b8, .int (nI wt), .int (nI wm), .int (nI wg), .long (lN wo), .int (nI wd), .ref b9])), (a4, .inl (cI, 25, .inl sz)), (a5, .inl (cI, 25, .inl lf)), (a6, .inl (cI, 25, .inl rt))] (nI (cls tp L R y)) := by
  refine Met.ofW (cc := cX4_classAt) (maxL := 5) (ret := (some .int)) (by decide) rfl ?_
  intro p e s m args below meth c s₁ B hml hv
  obtain ⟨rfl, hP, hk⟩ := hv
  have hx := B.exec
  have hb := B.bytes
  have hr := B.returns
  have hts := atoms_spec (ws := wsX4_classAt) B.pre
  have hown : s.vm.findClass RX4 = some m.cls := findClass_of_methodNamed B.named
  have hlocks := B.notSynchronized
  have hK := hk.1
  have hinX4 : ∀ w ∈ wsX40, w ∈ wsX4_classAt := by decide +kernel
  have hl := lv_entry ([.ref rm, .int (nI dd), .int (nI ss)]) (n := 5) (Nat.le_of_ble_eq_true rfl)
  rw [lg_entry_eq]
  generalize (lg_sl ([.ref rm, .int (nI dd), .int (nI ss)]) ++ List.replicate (5 - (lg_sl ([.ref rm, .int (nI dd), .int (nI ss)])).length) Slot.unset).toArray = ls at hl ⊢
  have hl : lv_has ls 5 [(0, .ref rm), (1, .int (nI dd)), (2, .int (nI ss))] := hl
  have hb1 := sid_b hR hT hyx
  refine lv_aload_n hx hb dX4_classAt_0 rfl (lv_at hl 0 rfl) ?_
  refine va_get (D := g) (ci := 4) (v := .int (nI tp)) (C := RX4) (T := TX4) (N := 29) hx hb hts hinX4 hown hK hP 0 rfl rfl 10 (by decide) (hts (.fieldLink RX4 93 "BuddyRoofModel" "top" "I") (by decide +kernel)) (fun _ h9 => h9) rfl dX4_classAt_1 ?_
  refine n_top _ (nI (cls tp L R (y / 2 ^ (dep y)))) (by rw [anc_1 hyx, cls_1]) ?_
  refine lv_istore_n (lv' := [(3, .int (nI (cls tp L R (y / 2 ^ (dep y))))), (0, .ref rm), (1, .int (nI dd)), (2, .int (nI ss))]) hx hb dX4_classAt_4 rfl hl (by decide) rfl (fun ls hl => ?_)
  refine lv_iload_n hx hb dX4_classAt_5 rfl (lv_at hl 2 rfl) ?_
  refine lv_iconst (v := nI 1) hx hb dX4_classAt_6 (by decide) ?_
  refine lv_isub hx hb dX4_classAt_7 ?_
  refine n_top _ (nI (dep y) + (-1)) (by rw [hdd, Int32.sub_eq_add_neg]; rfl) ?_
  refine lv_istore (lv' := [(4, .int (nI (dep y) + (-1))), (3, .int (nI (cls tp L R (y / 2 ^ (dep y))))), (0, .ref rm), (1, .int (nI dd)), (2, .int (nI ss))]) hx hb dX4_classAt_8 hl (by decide) rfl (fun ls hl => ?_)
  refine lp_X4_classAt_10 l g cI cJ cZ rm a1 a2 a3 a4 a5 a6 a7 a8 a9 b1 b2 b3 b4 b5 b6 b7 b8 b9 cd tp mn bl jn sn wt wm wg wo wd sz lf rt S L R rc sp rq y dd ss hR hT hrl hyx hdd hss  ⟨hx, hb, hr, hml, hown, hts, hlocks⟩ hk hP (fun   ls hl => ?_) _ (dep y) (Nat.lt_succ_self _) (by omega) ls (lv_sub hl [2, 4, 1, 0] rfl)
  · skip
    refine lv_iload_n hx hb dX4_classAt_46 rfl (lv_at hl 0 rfl) ?_
    exact k_retR (v := nI (cls tp L R y)) hx hb hr hlocks (rfl) dX4_classAt_47
set_option maxHeartbeats 4000000 in
set_option maxRecDepth 100000 in
theorem lp_X4_joinAt_44 {p : Program} {e : Env} {s : State} {m : MethodId} {args : Array Value} {below : List Frame} {meth : Method} {c : Code} {Q : State → Prop} (l : Launch) (g : va_G) (cI cJ cZ : ClassId) (rm a1 a2 a3 a4 a5 a6 a7 a8 a9 b1 b2 b3 b4 b5 b6 b7 b8 b9 : Nat) (cd tp bl jn sn wt wm wg wo wd : Nat) (sz lf rt : Nat → Int32) (S L R : Nat → Nat) (rc : Nat → Bool) (sp : Nat → Bool) (rq nd : Nat → Nat) (x : Nat) (l1 l2 : List Nat) (hR : RuleOK S L R rc tp) (hT : TOK tp S L R sp rq) (hW : nW tp S L R rq nd (lvs sp 1)) (hlen : (lvs sp 1).length ≤ 14000) (hrl : rOK S L R rc sz lf rt) (hjo : joi sp rq x) (hsp : lvs sp 1 = l1 ++ 2 * x :: (2 * x + 1) :: l2)  (C0 : cM p s m args meth c cX4_joinAt 5 none wsX4_joinAt RX4) (hk : kK g (kty cI cJ cZ) s) {A : Nat → Prop} {H0 : Heap} (hA : ∀ q : Nat, H0.size ≤ q → A q) (kk0 : ∀ (nd1 : Nat → Nat), (nW tp S L R rq nd1 (l1 ++ x :: l2)) → ∀ (H : Heap) (locs : List Loc), va_P g vwCl [(rm, .inr (4, [.int (nI cd), .ref a1, .ref a2, .ref a3, .ref a4, .ref a5, .ref a6, .ref a7, .ref a8, .ref a9, .int (nI tp), .int (nI ((lvs sp 1).length)), .ref b1, .int (nI bl), .ref b2, .ref b3, .int (nI jn), .int (nI sn), .ref b4, .ref b5, .ref b6, .ref b7, .ref b8, .int (nI wt), .int (nI wm), .int (nI wg), .long (lN wo), .int (nI wd), .ref b9])), (b1, .inl (cJ, 14000, .inr (.inl (fun j => lN (nd1 j))))), (a4, .inl (cI, 25, .inl sz)), (a5, .inl (cI, 25, .inl lf)), (a6, .inl (cI, 25, .inl rt))] H → va_D A [(rm, .inr (4, [.int (nI cd), .ref a1, .ref a2, .ref a3, .ref a4, .ref a5, .ref a6, .ref a7, .ref a8, .ref a9, .int (nI tp), .int (nI ((lvs sp 1).length)), .ref b1, .int (nI bl), .ref b2, .ref b3, .int (nI jn), .int (nI sn), .ref b4, .ref b5, .ref b6, .ref b7, .ref b8, .int (nI wt), .int (nI wm), .int (nI wg), .long (lN wo), .int (nI wd), .ref b9])), (b1, .inl (cJ, 14000, .inr (.inl (fun j => lN (nd1 j))))), (a4, .inl (cI, 25, .inl sz)), (a5, .inl (cI, 25, .inl lf)), (a6, .inl (cI, 25, .inl rt))] → va_S A H0 H locs → ∀ (ls : Array Slot), lv_has ls 5 [(0, .ref rm)] → W p l e (headSpec wsX4_joinAt ({ frames := 1, cells := 0, slots := 0, locals := 24 })).room s m args below meth c H locs 0 0 Q (F0 m 77 ls [])) :
    ∀ (K : Nat) (k : Nat) (nd1 : Nat → Nat), (l1.length + l2.length + 2 - k) < K → (l1.length < k ∧ k < l1.length + l2.length + 2) → (∀ j, j < l1.length → nd1 j = nd j) → (nd1 l1.length = wrd tp S L R rq x) → (∀ j, l1.length < j → j < k → nd1 j = nd (j + 1)) → (∀ j, k ≤ j → nd1 j = nd j) → ∀ (H : Heap) (locs : List Loc), va_P g vwCl [(rm, .inr (4, [.int (nI cd), .ref a1, .ref a2, .ref a3, .ref a4, .ref a5, .ref a6, .ref a7, .ref a8, .ref a9, .int (nI tp), .int (nI ((lvs sp 1).length)), .ref b1, .int (nI bl), .ref b2, .ref b3, .int (nI jn), .int (nI sn), .ref b4, .ref b5, .ref b6, .ref b7, .ref b8, .int (nI wt), .int (nI wm), .int (nI wg), .long (lN wo), .int (nI wd), .ref b9])), (b1, .inl (cJ, 14000, .inr (.inl (fun j => lN (nd1 j))))), (a4, .inl (cI, 25, .inl sz)), (a5, .inl (cI, 25, .inl lf)), (a6, .inl (cI, 25, .inl rt))] H → va_D A [(rm, .inr (4, [.int (nI cd), .ref a1, .ref a2, .ref a3, .ref a4, .ref a5, .ref a6, .ref a7, .ref a8, .ref a9, .int (nI tp), .int (nI ((lvs sp 1).length)), .ref b1, .int (nI bl), .ref b2, .ref b3, .int (nI jn), .int (nI sn), .ref b4, .ref b5, .ref b6, .ref b7, .ref b8, .int (nI wt), .int (nI wm), .int (nI wg), .long (lN wo), .int (nI wd), .ref b9])), (b1, .inl (cJ, 14000, .inr (.inl (fun j => lN (nd1 j))))), (a4, .inl (cI, 25, .inl sz)), (a5, .inl (cI, 25, .inl lf)), (a6, .inl (cI, 25, .inl rt))] → va_S A H0 H locs →∀ (ls : Array Slot), lv_has ls 5 [(0, .ref rm), (4, .int (nI k))] → W p l e (headSpec wsX4_joinAt ({ frames := 1, cells := 0, slots := 0, locals := 24 })).room s m args below meth c H locs 0 0 Q (F0 m 44 ls []) := by
  obtain ⟨hx, hb, hr, hml, hown, hts, hlocks⟩ := C0
  have hK := hk.1
  have hinX4 : ∀ w ∈ wsX40, w ∈ wsX4_joinAt := by decide +kernel
  intro K
  induction K with
  | zero =>
    intro k nd1 h0
    exact absurd h0 (Nat.not_lt_zero _)
  | succ K ih =>
    intro k nd1 hmu hk9 hd1 hd2 hd3 hd4 H locs hP hD hS ls hl
    have hll : (lvs sp 1).length = l1.length + (l2.length + 2) := by rw [hsp]; simp
    refine lv_iload hx hb dX4_joinAt_44 (lv_at hl 1 rfl) ?_
    refine lv_iconst (v := nI 1) hx hb dX4_joinAt_46 (by decide) ?_
    refine n_iadd hx hb dX4_joinAt_47 ?_
    refine lv_aload_n hx hb dX4_joinAt_48 rfl (lv_at hl 0 rfl) ?_
    refine va_get (D := g) (ci := 4) (v := .int (nI ((lvs sp 1).length))) (C := RX4) (T := TX4) (N := 29) hx hb hts hinX4 hown hK hP 0 rfl rfl 11 (by decide) (hts (.fieldLink RX4 96 "BuddyRoofModel" "many" "I") (by decide +kernel)) (fun _ h9 => h9) rfl dX4_joinAt_49 ?_
    refine n_icmp_ge (tgt := 77) hx hb dX4_joinAt_52 (by decide) (by first | assumption | omega) (by first | assumption | omega) (fun c2 => ?_) (fun c2 => ?_)
    · skip
      exact kk0 nd1 (nW_join (by rw [← hsp]; exact hW) hd1 hd2 (fun j q1 q2 => hd3 j q1 (by omega))) _ _ hP hD hS ls (lv_sub hl [0] rfl)
    · skip
      refine lv_aload_n hx hb dX4_joinAt_55 rfl (lv_at hl 0 rfl) ?_
      refine va_get (D := g) (ci := 4) (v := .ref b1) (C := RX4) (T := TX4) (N := 29) hx hb hts hinX4 hown hK hP 0 rfl rfl 12 (by decide) (hts (.fieldLink RX4 38 "BuddyRoofModel" "node" "[J") (by decide +kernel)) (fun _ h9 => h9) rfl dX4_joinAt_56 ?_
      refine lv_iload hx hb dX4_joinAt_59 (lv_at hl 1 rfl) ?_
      refine lv_aload_n hx hb dX4_joinAt_61 rfl (lv_at hl 0 rfl) ?_
      refine va_get (D := g) (ci := 4) (v := .ref b1) (C := RX4) (T := TX4) (N := 29) hx hb hts hinX4 hown hK hP 0 rfl rfl 12 (by decide) (hts (.fieldLink RX4 38 "BuddyRoofModel" "node" "[J") (by decide +kernel)) (fun _ h9 => h9) rfl dX4_joinAt_62 ?_
      refine lv_iload hx hb dX4_joinAt_65 (lv_at hl 1 rfl) ?_
      refine lv_iconst (v := nI 1) hx hb dX4_joinAt_67 (by decide) ?_
      refine n_iadd hx hb dX4_joinAt_68 ?_
      refine n_lald (v := lN (nd1 (k + 1))) hx hb hK hP 1 1 rfl rfl (i := (k + 1)) (by omega) (by decide) rfl dX4_joinAt_69 ?_
      refine n_lastM hx hb hK hP hD hS 1 1 rfl rfl (i := k) (v := (nd1 (k + 1))) (by omega) (by decide) dX4_joinAt_70 (fun H locs hP hD hS => ?_)
      have hP : va_P g vwCl [(rm, .inr (4, [.int (nI cd), .ref a1, .ref a2, .ref a3, .ref a4, .ref a5, .ref a6, .ref a7, .ref a8, .ref a9, .int (nI tp), .int (nI ((lvs sp 1).length)), .ref b1, .int (nI bl), .ref b2, .ref b3, .int (nI jn), .int (nI sn), .ref b4, .ref b5, .ref b6, .ref b7, .ref b8, .int (nI wt), .int (nI wm), .int (nI wg), .long (lN wo), .int (nI wd), .ref b9])), (b1, .inl (cJ, 14000, .inr (.inl (fun j => lN ((upN nd1 k (nd1 (k + 1))) j))))), (a4, .inl (cI, 25, .inl sz)), (a5, .inl (cI, 25, .inl lf)), (a6, .inl (cI, 25, .inl rt))] H := hP
      have hD : va_D A [(rm, .inr (4, [.int (nI cd), .ref a1, .ref a2, .ref a3, .ref a4, .ref a5, .ref a6, .ref a7, .ref a8, .ref a9, .int (nI tp), .int (nI ((lvs sp 1).length)), .ref b1, .int (nI bl), .ref b2, .ref b3, .int (nI jn), .int (nI sn), .ref b4, .ref b5, .ref b6, .ref b7, .ref b8, .int (nI wt), .int (nI wm), .int (nI wg), .long (lN wo), .int (nI wd), .ref b9])), (b1, .inl (cJ, 14000, .inr (.inl (fun j => lN ((upN nd1 k (nd1 (k + 1))) j))))), (a4, .inl (cI, 25, .inl sz)), (a5, .inl (cI, 25, .inl lf)), (a6, .inl (cI, 25, .inl rt))] := hD
      refine lv_iinc (v := nI (k + 1)) (lv' := [(4, .int (nI (k + 1))), (0, .ref rm)]) hx hb dX4_joinAt_71 hl (k := 1) rfl (n_inc _ 1) (by decide) rfl (fun ls hl => ?_)
      refine lv_goto (tgt := 44) hx hb dX4_joinAt_74 (by decide) ?_
      exact ih (k + 1) (upN nd1 k (nd1 (k + 1))) (by omega) (by omega) (fun j q1 => by rw [upN_n _ _ (by omega)]; exact hd1 j q1) (by rw [upN_n _ _ (by omega)]; exact hd2) (fun j q1 q2 => by
      by_cases e9 : j = k
      · subst e9; rw [upN_s]; exact hd4 _ (by omega)
      · rw [upN_n _ _ e9]; exact hd3 j q1 (by omega)) (fun j q1 => by rw [upN_n _ _ (by omega)]; exact hd4 j (by omega)) _ _ hP hD hS ls (lv_sub hl [1, 0] rfl)

set_option maxHeartbeats 4000000 in
set_option maxRecDepth 100000 in
theorem c_X4_joinAt (l : Launch) (g : va_G) (cI cJ cZ : ClassId) (rm a1 a2 a3 a4 a5 a6 a7 a8 a9 b1 b2 b3 b4 b5 b6 b7 b8 b9 : Nat) (cd tp bl jn sn wt wm wg wo wd : Nat) (sz lf rt : Nat → Int32) (S L R : Nat → Nat) (rc : Nat → Bool) (sp : Nat → Bool) (rq nd : Nat → Nat) (x : Nat) (l1 l2 : List Nat) (hR : RuleOK S L R rc tp) (hT : TOK tp S L R sp rq) (hW : nW tp S L R rq nd (lvs sp 1)) (hlen : (lvs sp 1).length ≤ 14000) (hrl : rOK S L R rc sz lf rt) (hjo : joi sp rq x) (hsp : lvs sp 1 = l1 ++ 2 * x :: (2 * x + 1) :: l2) : kV l g (kty cI cJ cZ) yX4_joinAt wsX4_joinAt ({ frames := 1, cells := 0, slots := 0, locals := 24 }) [.ref rm, .int (nI (l1.length))] [(rm, .inr (4, [.int (nI cd), .ref a1, .ref a2, .ref a3, .ref a4, .ref a5, .ref a6, .ref a7, .ref a8, .ref a9, .int (nI tp), .int (nI ((lvs sp 1).length)), .ref b1, .int (nI bl), .ref b2, .ref b3, .int (nI jn), .int (nI sn), .ref b4, .ref b5, .ref b6, .ref b7, .ref b8, .int (nI wt), .int (nI wm), .int (nI wg), .long (lN wo), .int (nI wd), .ref b9])), (b1, .inl (cJ, 14000, .inr (.inl (fun j => lN (nd j))))), (a4, .inl (cI, 25, .inl sz)), (a5, .inl (cI, 25, .inl lf)), (a6, .inl (cI, 25, .inl rt))] (S := Nat → Nat) (fun u => nW tp S L R rq u (l1 ++ x :: l2)) (fun u => [(rm, .inr (4, [.int (nI cd), .ref a1, .ref a2, .ref a3, .ref a4, .ref a5, .ref a6, .ref a7, .ref a8, .ref a9, .int (nI tp), .int (nI ((lvs sp 1).length - 1)), .ref b1, .int (nI bl), .ref b2, .ref b3, .int (nI (jn + 1)), .int (nI sn), .ref b4, .ref b5, .ref b6, .ref b7, .ref b8, .int (nI wt), .int (nI wm), .int (nI wg), .long (lN wo), .int (nI wd), .ref b9])), (b1, .inl (cJ, 14000, .inr (.inl (fun j => lN (u j))))), (a4, .inl (cI, 25, .inl sz)), (a5, .inl (cI, 25, .inl lf)), (a6, .inl (cI, 25, .inl rt))]) 0 0 := by
  intro sz
  refine Met.ofW (cc := cX4_joinAt) (maxL := 5) (ret := none) (by decide) rfl ?_
  intro p e s m args below meth c s₁ B hml hv
  obtain ⟨rfl, hsz, hP, hk, hD0⟩ := hv
  subst hsz
  have hx := B.exec
  have hb := B.bytes
  have hr := B.returns
  have hts := atoms_spec (ws := wsX4_joinAt) B.pre
  have hown : s.vm.findClass RX4 = some m.cls := findClass_of_methodNamed B.named
  have hlocks := B.notSynchronized
  have hK := hk.1
  have hinX4 : ∀ w ∈ wsX40, w ∈ wsX4_joinAt := by decide +kernel
  obtain ⟨A, hAe⟩ : ∃ A, va_A [(rm, .inr (4, [.int (nI cd), .ref a1, .ref a2, .ref a3, .ref a4, .ref a5, .ref a6, .ref a7, .ref a8, .ref a9, .int (nI tp), .int (nI ((lvs sp 1).length)), .ref b1, .int (nI bl), .ref b2, .ref b3, .int (nI jn), .int (nI sn), .ref b4, .ref b5, .ref b6, .ref b7, .ref b8, .int (nI wt), .int (nI wm), .int (nI wg), .long (lN wo), .int (nI wd), .ref b9])), (b1, .inl (cJ, 14000, .inr (.inl (fun j => lN (nd j))))), (a4, .inl (cI, 25, .inl sz)), (a5, .inl (cI, 25, .inl lf)), (a6, .inl (cI, 25, .inl rt))] s.heap.size = A := ⟨_, rfl⟩
  have hD := hD0.self (sz := s.heap.size)
  rw [hAe] at hD
  have hA : ∀ q : Nat, s.heap.size ≤ q → A q := fun q h => by rw [← hAe]; exact Or.inr h
  have hS : va_S A s.heap s.heap [] := va_S.rf
  have hl := lv_entry ([.ref rm, .int (nI (l1.length))]) (n := 5) (Nat.le_of_ble_eq_true rfl)
  rw [lg_entry_eq]
  generalize (lg_sl ([.ref rm, .int (nI (l1.length))]) ++ List.replicate (5 - (lg_sl ([.ref rm, .int (nI (l1.length))])).length) Slot.unset).toArray = ls at hl ⊢
  have hl : lv_has ls 5 [(0, .ref rm), (1, .int (nI (l1.length)))] := hl
  have hll : (lvs sp 1).length = l1.length + (l2.length + 2) := by rw [hsp]; simp
  have hxe := (hT.1 x hjo.1).2.1
  have hx1 := ex_pos hxe
  have hrx : ¬ 0 < rq x := fun q9 => by have := (hT.2 x q9).2.1; rw [hjo.1] at this; exact absurd this (by decide)
  obtain ⟨pp, pp_1, pp_2, pp_3, pp_4, pp_5, pp_6, pp_7, pp_8, pp_9, pp_10⟩ := nW_rd (i := l1.length) hR hT hW hlen (by omega)
  obtain rfl : pp = 2 * x := by rw [hsp, List.getElem?_append_right (Nat.le_refl _), Nat.sub_self] at pp_1; simpa using pp_1.symm
  have hsu := sid_up hx1
  have hb1 := sid_b hR hT pp_2
  have hbx := sid_b hR hT hxe
  have hcx := cls_ok hR hT hxe
  have hax := adr_lt hR hT hxe
  have hae := adr_e (top := tp) (S := S) (L := L) (R := R) hx1
  have hwr : enc (adr tp S L R (2 * x)) 0 (cls tp L R x) (dep (2 * x) - 1) ((2 * x) % 2 ^ dep (2 * x) / 2) = wrd tp S L R rq x := by unfold wrd; rw [if_neg hrx, hae, hsu.1, hsu.2]
  have hde := dep_e hx1
  refine lv_aload_n hx hb dX4_joinAt_0 rfl (lv_at hl 0 rfl) ?_
  refine lv_iload_n hx hb dX4_joinAt_1 rfl (lv_at hl 1 rfl) ?_
  refine k_goR (W.runV (As := [.int (nI (l1.length))]) (rest := []) ⟨hx, hb, hml, hown, hts⟩ (c_X4_depth l g cI cJ cZ rm a1 a2 a3 a4 a5 a6 a7 a8 a9 b1 b2 b3 b4 b5 b6 b7 b8 b9 cd tp ((lvs sp 1).length) bl jn sn wt wm wg wo wd nd (l1.length) pp_4 pp_5) (cwV 1 hts gX4_joinAt_X4_depth rfl rfl rfl (by decide +kernel) ⟨Nat.le_of_ble_eq_true rfl, Nat.le_of_ble_eq_true rfl⟩) (k_preRV hk hP [0, 1] rfl (ci := 4) (q0 := 0) rfl rfl) rfl rfl hl.1 rfl (lv_room (Nat.le_of_ble_eq_true rfl)) dX4_joinAt_2 ⟨by first | exact Nat.zero_le _ | omega, by first | exact Nat.zero_le _ | omega⟩) ?_
  refine n_top _ (nI (dep (2 * x))) (congrArg nI pp_9) ?_
  refine lv_iconst (v := nI 1) hx hb dX4_joinAt_5 (by decide) ?_
  refine n_isub hx hb dX4_joinAt_6 (by omega) ?_
  refine lv_istore_n (lv' := [(2, .int (nI ((dep (2 * x)) - 1))), (0, .ref rm), (1, .int (nI (l1.length)))]) hx hb dX4_joinAt_7 rfl hl (by decide) rfl (fun ls hl => ?_)
  refine lv_aload_n hx hb dX4_joinAt_8 rfl (lv_at hl 1 rfl) ?_
  refine lv_iload_n hx hb dX4_joinAt_9 rfl (lv_at hl 2 rfl) ?_
  refine k_goR (W.runV (As := [.int (nI (l1.length))]) (rest := []) ⟨hx, hb, hml, hown, hts⟩ (c_X4_sides l g cI cJ cZ rm a1 a2 a3 a4 a5 a6 a7 a8 a9 b1 b2 b3 b4 b5 b6 b7 b8 b9 cd tp ((lvs sp 1).length) bl jn sn wt wm wg wo wd nd (l1.length) pp_4 pp_5) (cwV 1 hts gX4_joinAt_X4_sides rfl rfl rfl (by decide +kernel) ⟨Nat.le_of_ble_eq_true rfl, Nat.le_of_ble_eq_true rfl⟩) (k_preRV hk hP [0, 1] rfl (ci := 4) (q0 := 0) rfl rfl) rfl rfl hl.1 rfl (lv_room (Nat.le_of_ble_eq_true rfl)) dX4_joinAt_10 ⟨by first | exact Nat.zero_le _ | omega, by first | exact Nat.zero_le _ | omega⟩) ?_
  refine n_top _ (nI ((2 * x) % 2 ^ dep (2 * x))) (congrArg nI pp_10) ?_
  refine lv_iconst (v := nI 2) hx hb dX4_joinAt_13 (by decide) ?_
  refine n_idiv hx hb dX4_joinAt_14 (by decide) (by omega) (by decide) ?_
  refine lv_istore_n (lv' := [(3, .int (nI (((2 * x) % 2 ^ dep (2 * x)) / 2))), (2, .int (nI ((dep (2 * x)) - 1))), (0, .ref rm), (1, .int (nI (l1.length)))]) hx hb dX4_joinAt_15 rfl hl (by decide) rfl (fun ls hl => ?_)
  refine lv_aload_n hx hb dX4_joinAt_16 rfl (lv_at hl 2 rfl) ?_
  refine va_get (D := g) (ci := 4) (v := .ref b1) (C := RX4) (T := TX4) (N := 29) hx hb hts hinX4 hown hK hP 0 rfl rfl 12 (by decide) (hts (.fieldLink RX4 38 "BuddyRoofModel" "node" "[J") (by decide +kernel)) (fun _ h9 => h9) rfl dX4_joinAt_17 ?_
  refine lv_iload_n hx hb dX4_joinAt_20 rfl (lv_at hl 3 rfl) ?_
  refine lv_aload_n hx hb dX4_joinAt_21 rfl (lv_at hl 2 rfl) ?_
  refine lv_iload_n hx hb dX4_joinAt_22 rfl (lv_at hl 3 rfl) ?_
  refine k_goR (W.runV (As := [.int (nI (l1.length))]) (rest := [.int (nI (l1.length)), .ref b1]) ⟨hx, hb, hml, hown, hts⟩ (c_X4_address l g cI cJ cZ rm a1 a2 a3 a4 a5 a6 a7 a8 a9 b1 b2 b3 b4 b5 b6 b7 b8 b9 cd tp ((lvs sp 1).length) bl jn sn wt wm wg wo wd nd (l1.length) pp_4 pp_5) (cwV 1 hts gX4_joinAt_X4_address rfl rfl rfl (by decide +kernel) ⟨Nat.le_of_ble_eq_true rfl, Nat.le_of_ble_eq_true rfl⟩) (k_preRV hk hP [0, 1] rfl (ci := 4) (q0 := 0) rfl rfl) rfl rfl hl.1 rfl (lv_room (Nat.le_of_ble_eq_true rfl)) dX4_joinAt_23 ⟨by first | exact Nat.zero_le _ | omega, by first | exact Nat.zero_le _ | omega⟩) ?_
  refine n_top _ (nI (adr tp S L R (2 * x))) (congrArg nI pp_6) ?_
  refine lv_iconst (v := nI 0) hx hb dX4_joinAt_26 (by decide) ?_
  refine lv_aload_n hx hb dX4_joinAt_27 rfl (lv_at hl 2 rfl) ?_
  refine lv_iload_n hx hb dX4_joinAt_28 rfl (lv_at hl 1 rfl) ?_
  refine lv_iload_n hx hb dX4_joinAt_29 rfl (lv_at hl 0 rfl) ?_
  refine k_goR (W.runV (As := [.int (nI ((dep (2 * x)) - 1)), .int (nI (((2 * x) % 2 ^ dep (2 * x)) / 2))]) (rest := [.int (nI 0), .int (nI (adr tp S L R (2 * x))), .int (nI (l1.length)), .ref b1]) ⟨hx, hb, hml, hown, hts⟩ (c_X4_classAt l g cI cJ cZ rm a1 a2 a3 a4 a5 a6 a7 a8 a9 b1 b2 b3 b4 b5 b6 b7 b8 b9 cd tp ((lvs sp 1).length) bl jn sn wt wm wg wo wd sz lf rt S L R rc sp rq x (dep (2 * x) - 1) ((2 * x) % 2 ^ dep (2 * x) / 2) hR hT hrl hxe hsu.2.symm hsu.1.symm) (cwV 2 hts gX4_joinAt_X4_classAt rfl rfl rfl (by decide +kernel) ⟨Nat.le_of_ble_eq_true rfl, Nat.le_of_ble_eq_true rfl⟩) (k_preRV hk hP [0, 2, 3, 4] rfl (ci := 4) (q0 := 0) rfl rfl) rfl rfl hl.1 rfl (lv_room (Nat.le_of_ble_eq_true rfl)) dX4_joinAt_30 ⟨by first | exact Nat.zero_le _ | omega, by first | exact Nat.zero_le _ | omega⟩) ?_
  refine lv_iload_n hx hb dX4_joinAt_33 rfl (lv_at hl 1 rfl) ?_
  refine lv_iload_n hx hb dX4_joinAt_34 rfl (lv_at hl 0 rfl) ?_
  refine k_goRl (W.runS (As := [.int (nI (adr tp S L R (2 * x))), .int (nI 0), .int (nI (cls tp L R x)), .int (nI ((dep (2 * x)) - 1)), .int (nI (((2 * x) % 2 ^ dep (2 * x)) / 2))]) (rest := [.int (nI (l1.length)), .ref b1]) ⟨hx, hb, hml, hown, hts⟩ (c_X4_nodeOf l g cI cJ cZ  (adr tp S L R (2 * x)) 0 (cls tp L R x) (dep (2 * x) - 1) ((2 * x) % 2 ^ dep (2 * x) / 2) (by omega) (by decide) (by omega) (by omega) (by omega)) (va_cwS 5 hts gX4_joinAt_X4_nodeOf rfl rfl rfl (by decide +kernel) ⟨Nat.le_of_ble_eq_true rfl, Nat.le_of_ble_eq_true rfl⟩) (k_preRS hk hP [] rfl) rfl rfl hl.1 rfl (lv_room (Nat.le_of_ble_eq_true rfl)) dX4_joinAt_35 ⟨by first | exact Nat.zero_le _ | omega, by first | exact Nat.zero_le _ | omega⟩) ?_
  refine n_topl _ (lN (wrd tp S L R rq x)) (by rw [hwr]) ?_
  refine n_lastM hx hb hK hP hD hS 1 1 rfl rfl (i := (l1.length)) (v := (wrd tp S L R rq x)) (by omega) (by decide) dX4_joinAt_38 (fun H locs hP hD hS => ?_)
  have hP : va_P g vwCl [(rm, .inr (4, [.int (nI cd), .ref a1, .ref a2, .ref a3, .ref a4, .ref a5, .ref a6, .ref a7, .ref a8, .ref a9, .int (nI tp), .int (nI ((lvs sp 1).length)), .ref b1, .int (nI bl), .ref b2, .ref b3, .int (nI jn), .int (nI sn), .ref b4, .ref b5, .ref b6, .ref b7, .ref b8, .int (nI wt), .int (nI wm), .int (nI wg), .long (lN wo), .int (nI wd), .ref b9])), (b1, .inl (cJ, 14000, .inr (.inl (fun j => lN ((upN nd (l1.length) (wrd tp S L R rq x)) j))))), (a4, .inl (cI, 25, .inl sz)), (a5, .inl (cI, 25, .inl lf)), (a6, .inl (cI, 25, .inl rt))] H := hP
  have hD : va_D A [(rm, .inr (4, [.int (nI cd), .ref a1, .ref a2, .ref a3, .ref a4, .ref a5, .ref a6, .ref a7, .ref a8, .ref a9, .int (nI tp), .int (nI ((lvs sp 1).length)), .ref b1, .int (nI bl), .ref b2, .ref b3, .int (nI jn), .int (nI sn), .ref b4, .ref b5, .ref b6, .ref b7, .ref b8, .int (nI wt), .int (nI wm), .int (nI wg), .long (lN wo), .int (nI wd), .ref b9])), (b1, .inl (cJ, 14000, .inr (.inl (fun j => lN ((upN nd (l1.length) (wrd tp S L R rq x)) j))))), (a4, .inl (cI, 25, .inl sz)), (a5, .inl (cI, 25, .inl lf)), (a6, .inl (cI, 25, .inl rt))] := hD
  refine lv_iload_n hx hb dX4_joinAt_39 rfl (lv_at hl 3 rfl) ?_
  refine lv_iconst (v := nI 1) hx hb dX4_joinAt_40 (by decide) ?_
  refine n_iadd hx hb dX4_joinAt_41 ?_
  refine lv_istore (lv' := [(4, .int (nI ((l1.length) + 1))), (3, .int (nI (((2 * x) % 2 ^ dep (2 * x)) / 2))), (2, .int (nI ((dep (2 * x)) - 1))), (0, .ref rm), (1, .int (nI (l1.length)))]) hx hb dX4_joinAt_42 hl (by decide) rfl (fun ls hl => ?_)
  refine lp_X4_joinAt_44 l g cI cJ cZ rm a1 a2 a3 a4 a5 a6 a7 a8 a9 b1 b2 b3 b4 b5 b6 b7 b8 b9 cd tp bl jn sn wt wm wg wo wd sz lf rt S L R rc sp rq nd x l1 l2 hR hT hW hlen hrl hjo hsp  ⟨hx, hb, hr, hml, hown, hts, hlocks⟩ hk hA (fun nd1 hN H locs hP hD hS ls hl => ?_) _ (l1.length + 1) (upN nd l1.length (wrd tp S L R rq x)) (Nat.lt_succ_self _) (by omega) (fun j q1 => upN_n _ _ (by omega)) (upN_s _ _ _) (fun j q1 q2 => by omega) (fun j q1 => upN_n _ _ (by omega)) _ _ hP hD hS ls (lv_sub hl [3, 0] rfl)
  · skip
    refine lv_aload_n hx hb dX4_joinAt_77 rfl (lv_at hl 0 rfl) ?_
    refine lv_dup hx hb dX4_joinAt_78 rfl ?_
    refine va_get (D := g) (ci := 4) (v := .int (nI ((lvs sp 1).length))) (C := RX4) (T := TX4) (N := 29) hx hb hts hinX4 hown hK hP 0 rfl rfl 11 (by decide) (hts (.fieldLink RX4 96 "BuddyRoofModel" "many" "I") (by decide +kernel)) (fun _ h9 => h9) rfl dX4_joinAt_79 ?_
    refine lv_iconst (v := nI 1) hx hb dX4_joinAt_82 (by decide) ?_
    refine n_isub hx hb dX4_joinAt_83 (by omega) ?_
    refine va_put (D := g) (ci := 4) (v := .int (nI (((lvs sp 1).length) - 1))) (ty := .int) (C := RX4) (T := TX4) (N := 29) hx hb hts hinX4 tyX4 tyX4_ok nmX4 hown hK hP hD hS 0 rfl rfl 11 (by decide) (hts (.fieldLink RX4 96 "BuddyRoofModel" "many" "I") (by decide +kernel)) (fun _ h9 => h9) rfl (by decide +kernel) rfl rfl (Nat.le_of_ble_eq_true rfl) dX4_joinAt_84 (fun H locs hP hD hS => ?_)
    have hP : va_P g vwCl [(rm, .inr (4, [.int (nI cd), .ref a1, .ref a2, .ref a3, .ref a4, .ref a5, .ref a6, .ref a7, .ref a8, .ref a9, .int (nI tp), .int (nI (((lvs sp 1).length) - 1)), .ref b1, .int (nI bl), .ref b2, .ref b3, .int (nI jn), .int (nI sn), .ref b4, .ref b5, .ref b6, .ref b7, .ref b8, .int (nI wt), .int (nI wm), .int (nI wg), .long (lN wo), .int (nI wd), .ref b9])), (b1, .inl (cJ, 14000, .inr (.inl (fun j => lN (nd1 j))))), (a4, .inl (cI, 25, .inl sz)), (a5, .inl (cI, 25, .inl lf)), (a6, .inl (cI, 25, .inl rt))] H := hP
    have hD : va_D A [(rm, .inr (4, [.int (nI cd), .ref a1, .ref a2, .ref a3, .ref a4, .ref a5, .ref a6, .ref a7, .ref a8, .ref a9, .int (nI tp), .int (nI (((lvs sp 1).length) - 1)), .ref b1, .int (nI bl), .ref b2, .ref b3, .int (nI jn), .int (nI sn), .ref b4, .ref b5, .ref b6, .ref b7, .ref b8, .int (nI wt), .int (nI wm), .int (nI wg), .long (lN wo), .int (nI wd), .ref b9])), (b1, .inl (cJ, 14000, .inr (.inl (fun j => lN (nd1 j))))), (a4, .inl (cI, 25, .inl sz)), (a5, .inl (cI, 25, .inl lf)), (a6, .inl (cI, 25, .inl rt))] := hD
    refine lv_aload_n hx hb dX4_joinAt_87 rfl (lv_at hl 0 rfl) ?_
    refine lv_dup hx hb dX4_joinAt_88 rfl ?_
    refine va_get (D := g) (ci := 4) (v := .int (nI jn)) (C := RX4) (T := TX4) (N := 29) hx hb hts hinX4 hown hK hP 0 rfl rfl 16 (by decide) (hts (.fieldLink RX4 106 "BuddyRoofModel" "joins" "I") (by decide +kernel)) (fun _ h9 => h9) rfl dX4_joinAt_89 ?_
    refine lv_iconst (v := nI 1) hx hb dX4_joinAt_92 (by decide) ?_
    refine n_iadd hx hb dX4_joinAt_93 ?_
    refine va_put (D := g) (ci := 4) (v := .int (nI (jn + 1))) (ty := .int) (C := RX4) (T := TX4) (N := 29) hx hb hts hinX4 tyX4 tyX4_ok nmX4 hown hK hP hD hS 0 rfl rfl 16 (by decide) (hts (.fieldLink RX4 106 "BuddyRoofModel" "joins" "I") (by decide +kernel)) (fun _ h9 => h9) rfl (by decide +kernel) rfl rfl (Nat.le_of_ble_eq_true rfl) dX4_joinAt_94 (fun H locs hP hD hS => ?_)
    have hP : va_P g vwCl [(rm, .inr (4, [.int (nI cd), .ref a1, .ref a2, .ref a3, .ref a4, .ref a5, .ref a6, .ref a7, .ref a8, .ref a9, .int (nI tp), .int (nI (((lvs sp 1).length) - 1)), .ref b1, .int (nI bl), .ref b2, .ref b3, .int (nI (jn + 1)), .int (nI sn), .ref b4, .ref b5, .ref b6, .ref b7, .ref b8, .int (nI wt), .int (nI wm), .int (nI wg), .long (lN wo), .int (nI wd), .ref b9])), (b1, .inl (cJ, 14000, .inr (.inl (fun j => lN (nd1 j))))), (a4, .inl (cI, 25, .inl sz)), (a5, .inl (cI, 25, .inl lf)), (a6, .inl (cI, 25, .inl rt))] H := hP
    have hD : va_D A [(rm, .inr (4, [.int (nI cd), .ref a1, .ref a2, .ref a3, .ref a4, .ref a5, .ref a6, .ref a7, .ref a8, .ref a9, .int (nI tp), .int (nI (((lvs sp 1).length) - 1)), .ref b1, .int (nI bl), .ref b2, .ref b3, .int (nI (jn + 1)), .int (nI sn), .ref b4, .ref b5, .ref b6, .ref b7, .ref b8, .int (nI wt), .int (nI wm), .int (nI wg), .long (lN wo), .int (nI wd), .ref b9])), (b1, .inl (cJ, 14000, .inr (.inl (fun j => lN (nd1 j))))), (a4, .inl (cI, 25, .inl sz)), (a5, .inl (cI, 25, .inl lf)), (a6, .inl (cI, 25, .inl rt))] := hD
    have hP := hP.sub (ws' := [(rm, .inr (4, [.int (nI cd), .ref a1, .ref a2, .ref a3, .ref a4, .ref a5, .ref a6, .ref a7, .ref a8, .ref a9, .int (nI tp), .int (nI (((lvs sp 1).length) - 1)), .ref b1, .int (nI bl), .ref b2, .ref b3, .int (nI (jn + 1)), .int (nI sn), .ref b4, .ref b5, .ref b6, .ref b7, .ref b8, .int (nI wt), .int (nI wm), .int (nI wg), .long (lN wo), .int (nI wd), .ref b9])), (b1, .inl (cJ, 14000, .inr (.inl (fun j => lN (nd1 j))))), (a4, .inl (cI, 25, .inl sz)), (a5, .inl (cI, 25, .inl lf)), (a6, .inl (cI, 25, .inl rt))]) [0, 1, 2, 3, 4] rfl
    have hD := hD.sub (ws' := [(rm, .inr (4, [.int (nI cd), .ref a1, .ref a2, .ref a3, .ref a4, .ref a5, .ref a6, .ref a7, .ref a8, .ref a9, .int (nI tp), .int (nI (((lvs sp 1).length) - 1)), .ref b1, .int (nI bl), .ref b2, .ref b3, .int (nI (jn + 1)), .int (nI sn), .ref b4, .ref b5, .ref b6, .ref b7, .ref b8, .int (nI wt), .int (nI wm), .int (nI wg), .long (lN wo), .int (nI wd), .ref b9])), (b1, .inl (cJ, 14000, .inr (.inl (fun j => lN (nd1 j))))), (a4, .inl (cI, 25, .inl sz)), (a5, .inl (cI, 25, .inl lf)), (a6, .inl (cI, 25, .inl rt))]) [0, 1, 2, 3, 4] rfl rfl
    refine W.widen (k := 0) (n := 0) (by first | exact Nat.le_refl _ | omega) (by first | exact Nat.le_refl _ | omega) ?_
    exact k_retV (sz := 0) hx hb hr hlocks hAe hS hP hD nd1 (rfl) (hN) dX4_joinAt_97
