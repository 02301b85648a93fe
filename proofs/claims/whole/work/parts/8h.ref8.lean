set_option maxHeartbeats 4000000 in
set_option maxRecDepth 100000 in
theorem lp_X4_nodes_s_56 {p : Program} {e : Env} {s : State} {m : MethodId} {args : Array Value} {below : List Frame} {meth : Method} {c : Code} {Q : State → Prop} (l : Launch) (g : va_G) (cI cJ cZ : ClassId) (rm a1 a2 a3 a4 a5 a6 a7 a8 a9 b1 b2 b3 b4 b5 b6 b7 b8 b9 : Nat) (cd tp bl jn sn wt wm wg wo wd : Nat) (S L R : Nat → Nat) (rc : Nat → Bool) (sp : Nat → Bool) (rq nd : Nat → Nat) (i : Nat) (v2 : Int32) (htp : 0 < tp ∧ tp < 2 ^ 31) (hR : RuleOK S L R rc tp) (hT : TOK tp S L R sp rq) (hW : nW tp S L R rq nd (lvs sp 1)) (hlen : (lvs sp 1).length ≤ 14000) (hi : 1 ≤ i ∧ i ≤ 24) (hrc : rc i = true) (hv2 : v2 = nI 0 ∨ v2 = nI 1 ∨ v2 = nI 2)  (C0 : cM p s m args meth c cX4_nodes 6 (some .int) wsX4_nodes RX4) (hk : kK g (kty cI cJ cZ) s) {H : Heap} {locs : List Loc} (hP : va_P g vwCl [(rm, .inr (4, [.int (nI 0), .ref a1, .ref a2, .ref a3, .ref a4, .ref a5, .ref a6, .ref a7, .ref a8, .ref a9, .int (nI tp), .int (nI ((lvs sp 1).length)), .ref b1, .int (nI bl), .ref b2, .ref b3, .int (nI jn), .int (nI sn), .ref b4, .ref b5, .ref b6, .ref b7, .ref b8, .int (nI wt), .int (nI wm), .int (nI wg), .long (lN wo), .int (nI wd), .ref b9])), (b1, .inl (cJ, 14000, .inr (.inl (fun j => lN (nd j))))), (a7, .inl (cZ, 25, .inl (fun j => bI (rc j = true))))] H) (kk0 : ∀ (lo hg : Int32), (lo = nlo (adr tp S L R) (cls tp L R) rq i (lvs sp 1)) → (hg = nlo (adr tp S L R) (cls tp L R) rq i (lvs sp 1).reverse) → ∀ (ls : Array Slot), lv_has ls 6 [(0, .ref rm), (1, .int (nI i)), (2, .int v2), (3, .int lo), (4, .int hg)] → W p l e (headSpec wsX4_nodes ({ frames := 2, cells := 0, slots := 0, locals := 44 })).room s m args below meth c H locs 0 0 Q (F0 m 108 ls [])) :
    ∀ (K : Nat) (j : Nat) (lo hg : Int32), ((lvs sp 1).length - j) < K → (j ≤ (lvs sp 1).length) → (lo = nlo (adr tp S L R) (cls tp L R) rq i ((lvs sp 1).take j)) → (hg = nlo (adr tp S L R) (cls tp L R) rq i ((lvs sp 1).take j).reverse) → ∀ (ls : Array Slot), lv_has ls 6 [(0, .ref rm), (1, .int (nI i)), (2, .int v2), (3, .int lo), (4, .int hg), (5, .int (nI j))] → W p l e (headSpec wsX4_nodes ({ frames := 2, cells := 0, slots := 0, locals := 44 })).room s m args below meth c H locs 0 0 Q (F0 m 56 ls []) := by
  obtain ⟨hx, hb, hr, hml, hown, hts, hlocks⟩ := C0
  have hK := hk.1
  have hinX4 : ∀ w ∈ wsX40, w ∈ wsX4_nodes := by decide +kernel
  intro K
  induction K with
  | zero =>
    intro j lo hg h0
    exact absurd h0 (Nat.not_lt_zero _)
  | succ K ih =>
    intro j lo hg hmu hj hlo hhi ls hl
    refine lv_iload hx hb dX4_nodes_56 (lv_at hl 5 rfl) ?_
    refine lv_aload_n hx hb dX4_nodes_58 rfl (lv_at hl 0 rfl) ?_
    refine va_get (D := g) (ci := 4) (v := .int (nI ((lvs sp 1).length))) (C := RX4) (T := TX4) (N := 29) hx hb hts hinX4 hown hK hP 0 rfl rfl 11 (by decide) (hts (.fieldLink RX4 96 "BuddyRoofModel" "many" "I") (by decide +kernel)) (fun _ h9 => h9) rfl dX4_nodes_59 ?_
    refine n_icmp_ge (tgt := 108) hx hb dX4_nodes_62 (by decide) (by first | assumption | omega) (by first | assumption | omega) (fun c11 => ?_) (fun c11 => ?_)
    · skip
      exact kk0 lo hg (by rw [hlo, take_all (by omega)]) (by rw [hhi, take_all (by omega)]) ls (lv_sub hl [0, 1, 2, 3, 4] rfl)
    · skip
      obtain ⟨pp, pp_1, pp_2, pp_3, pp_4, pp_5, pp_6, pp_7, pp_8, pp_9, pp_10⟩ := nW_rd (i := j) hR hT hW hlen (by omega)
      have hck := cls_ok hR hT pp_2
      refine lv_aload_n hx hb dX4_nodes_65 rfl (lv_at hl 0 rfl) ?_
      refine lv_iload hx hb dX4_nodes_66 (lv_at hl 5 rfl) ?_
      refine k_goR (W.runV (As := [.int (nI j)]) (rest := []) ⟨hx, hb, hml, hown, hts⟩ (c_X4_isLive l g cI cJ cZ rm a1 a2 a3 a4 a5 a6 a7 a8 a9 b1 b2 b3 b4 b5 b6 b7 b8 b9 0 tp ((lvs sp 1).length) bl jn sn wt wm wg wo wd nd j pp_4 pp_5) (cwV 1 hts gX4_nodes_X4_isLive rfl rfl rfl (by decide +kernel) ⟨Nat.le_of_ble_eq_true rfl, Nat.le_of_ble_eq_true rfl⟩) (k_preRV hk hP [0, 1] rfl (ci := 4) (q0 := 0) rfl rfl) rfl rfl hl.1 rfl (lv_room (Nat.le_of_ble_eq_true rfl)) dX4_nodes_68 ⟨by first | exact Nat.zero_le _ | omega, by first | exact Nat.zero_le _ | omega⟩) ?_
      refine n_top _ (bI (0 < rq pp)) (bI_c pp_7) ?_
      refine k_ifne (tgt := 102) hx hb dX4_nodes_71 (by decide) (fun c12 => ?_) (fun c12 => ?_)
      · skip
        refine lv_iinc (v := nI (j + 1)) (lv' := [(5, .int (nI (j + 1))), (0, .ref rm), (1, .int (nI i)), (2, .int v2), (3, .int lo), (4, .int hg)]) hx hb dX4_nodes_102 hl (k := 5) rfl (n_inc _ 1) (by decide) rfl (fun ls hl => ?_)
        refine lv_goto (tgt := 56) hx hb dX4_nodes_105 (by decide) ?_
        exact ih (j + 1) lo hg (by omega) (by omega) (by rw [take_s pp_1, (nlo_skip (fun q9 => by have := q9.1; omega)).1]; exact hlo) (by rw [take_s pp_1, (nlo_skip (fun q9 => by have := q9.1; omega)).2]; exact hhi) ls (lv_sub hl [1, 2, 3, 4, 5, 0] rfl)
      · skip
        refine lv_aload_n hx hb dX4_nodes_74 rfl (lv_at hl 0 rfl) ?_
        refine lv_iload hx hb dX4_nodes_75 (lv_at hl 5 rfl) ?_
        refine k_goR (W.runV (As := [.int (nI j)]) (rest := []) ⟨hx, hb, hml, hown, hts⟩ (c_X4_classOf l g cI cJ cZ rm a1 a2 a3 a4 a5 a6 a7 a8 a9 b1 b2 b3 b4 b5 b6 b7 b8 b9 0 tp ((lvs sp 1).length) bl jn sn wt wm wg wo wd nd j pp_4 pp_5) (cwV 1 hts gX4_nodes_X4_classOf rfl rfl rfl (by decide +kernel) ⟨Nat.le_of_ble_eq_true rfl, Nat.le_of_ble_eq_true rfl⟩) (k_preRV hk hP [0, 1] rfl (ci := 4) (q0 := 0) rfl rfl) rfl rfl hl.1 rfl (lv_room (Nat.le_of_ble_eq_true rfl)) dX4_nodes_77 ⟨by first | exact Nat.zero_le _ | omega, by first | exact Nat.zero_le _ | omega⟩) ?_
        refine n_top _ (nI (cls tp L R pp)) (congrArg nI pp_8) ?_
        refine lv_iload_n hx hb dX4_nodes_80 rfl (lv_at hl 1 rfl) ?_
        refine n_icmp_eq (tgt := 87) hx hb dX4_nodes_81 (by decide) (by first | assumption | omega) (by first | assumption | omega) (fun c13 => ?_) (fun c13 => ?_)
        · skip
          refine lv_aload_n hx hb dX4_nodes_87 rfl (lv_at hl 0 rfl) ?_
          refine lv_iload hx hb dX4_nodes_88 (lv_at hl 5 rfl) ?_
          refine k_goR (W.runV (As := [.int (nI j)]) (rest := []) ⟨hx, hb, hml, hown, hts⟩ (c_X4_address l g cI cJ cZ rm a1 a2 a3 a4 a5 a6 a7 a8 a9 b1 b2 b3 b4 b5 b6 b7 b8 b9 0 tp ((lvs sp 1).length) bl jn sn wt wm wg wo wd nd j pp_4 pp_5) (cwV 1 hts gX4_nodes_X4_address rfl rfl rfl (by decide +kernel) ⟨Nat.le_of_ble_eq_true rfl, Nat.le_of_ble_eq_true rfl⟩) (k_preRV hk hP [0, 1] rfl (ci := 4) (q0 := 0) rfl rfl) rfl rfl hl.1 rfl (lv_room (Nat.le_of_ble_eq_true rfl)) dX4_nodes_90 ⟨by first | exact Nat.zero_le _ | omega, by first | exact Nat.zero_le _ | omega⟩) ?_
          refine n_top _ (nI (adr tp S L R pp)) (congrArg nI pp_6) ?_
          refine lv_istore (lv' := [(4, .int (nI (adr tp S L R pp))), (0, .ref rm), (1, .int (nI i)), (2, .int v2), (3, .int lo), (5, .int (nI j))]) hx hb dX4_nodes_93 hl (by decide) rfl (fun ls hl => ?_)
          refine lv_iload_n hx hb dX4_nodes_95 rfl (lv_at hl 4 rfl) ?_
          refine lv_if_ge (tgt := 102) hx hb dX4_nodes_96 (by decide) (fun c14 => ?_) (fun c14 => ?_)
          · skip
            refine lv_iinc (v := nI (j + 1)) (lv' := [(5, .int (nI (j + 1))), (4, .int (nI (adr tp S L R pp))), (0, .ref rm), (1, .int (nI i)), (2, .int v2), (3, .int lo)]) hx hb dX4_nodes_102 hl (k := 5) rfl (n_inc _ 1) (by decide) rfl (fun ls hl => ?_)
            refine lv_goto (tgt := 56) hx hb dX4_nodes_105 (by decide) ?_
            exact ih (j + 1) lo (nI (adr tp S L R pp)) (by omega) (by omega) (by rw [take_s pp_1, (nlo_lo (fun q9 hq9 => Nat.lt_trans (adr_lt hR hT (lvs_mem hR hT 1 ex_1 q9 (List.mem_of_mem_take hq9)).1) (by decide)) ⟨by omega, c13⟩).2 (by rw [← hlo]; exact Int32.not_lt.mpr c14)]; exact hlo) (by rw [take_s pp_1, (nlo_add ⟨by omega, c13⟩).1]) ls (lv_sub hl [2, 3, 4, 5, 1, 0] rfl)
          · skip
            refine lv_iload hx hb dX4_nodes_99 (lv_at hl 0 rfl) ?_
            refine lv_istore_n (lv' := [(3, .int (nI (adr tp S L R pp))), (4, .int (nI (adr tp S L R pp))), (0, .ref rm), (1, .int (nI i)), (2, .int v2), (5, .int (nI j))]) hx hb dX4_nodes_101 rfl hl (by decide) rfl (fun ls hl => ?_)
            refine lv_iinc (v := nI (j + 1)) (lv' := [(5, .int (nI (j + 1))), (3, .int (nI (adr tp S L R pp))), (4, .int (nI (adr tp S L R pp))), (0, .ref rm), (1, .int (nI i)), (2, .int v2)]) hx hb dX4_nodes_102 hl (k := 5) rfl (n_inc _ 1) (by decide) rfl (fun ls hl => ?_)
            refine lv_goto (tgt := 56) hx hb dX4_nodes_105 (by decide) ?_
            exact ih (j + 1) (nI (adr tp S L R pp)) (nI (adr tp S L R pp)) (by omega) (by omega) (by rw [take_s pp_1, (nlo_lo (fun q9 hq9 => Nat.lt_trans (adr_lt hR hT (lvs_mem hR hT 1 ex_1 q9 (List.mem_of_mem_take hq9)).1) (by decide)) ⟨by omega, c13⟩).1 (by rw [← hlo]; exact Int32.not_le.mp c14)]) (by rw [take_s pp_1, (nlo_add ⟨by omega, c13⟩).1]) ls (lv_sub hl [3, 4, 5, 1, 2, 0] rfl)
        · skip
          refine lv_goto (tgt := 102) hx hb dX4_nodes_84 (by decide) ?_
          refine lv_iinc (v := nI (j + 1)) (lv' := [(5, .int (nI (j + 1))), (0, .ref rm), (1, .int (nI i)), (2, .int v2), (3, .int lo), (4, .int hg)]) hx hb dX4_nodes_102 hl (k := 5) rfl (n_inc _ 1) (by decide) rfl (fun ls hl => ?_)
          refine lv_goto (tgt := 56) hx hb dX4_nodes_105 (by decide) ?_
          exact ih (j + 1) lo hg (by omega) (by omega) (by rw [take_s pp_1, (nlo_skip (fun q9 => c13 q9.2)).1]; exact hlo) (by rw [take_s pp_1, (nlo_skip (fun q9 => c13 q9.2)).2]; exact hhi) ls (lv_sub hl [1, 2, 3, 4, 5, 0] rfl)

set_option maxHeartbeats 4000000 in
set_option maxRecDepth 100000 in
theorem c_X4_nodes_s (l : Launch) (g : va_G) (cI cJ cZ : ClassId) (rm a1 a2 a3 a4 a5 a6 a7 a8 a9 b1 b2 b3 b4 b5 b6 b7 b8 b9 : Nat) (cd tp bl jn sn wt wm wg wo wd : Nat) (S L R : Nat → Nat) (rc : Nat → Bool) (sp : Nat → Bool) (rq nd : Nat → Nat) (i : Nat) (v2 : Int32) (htp : 0 < tp ∧ tp < 2 ^ 31) (hR : RuleOK S L R rc tp) (hT : TOK tp S L R sp rq) (hW : nW tp S L R rq nd (lvs sp 1)) (hlen : (lvs sp 1).length ≤ 14000) (hi : 1 ≤ i ∧ i ≤ 24) (hrc : rc i = true) (hv2 : v2 = nI 0 ∨ v2 = nI 1 ∨ v2 = nI 2) : kI l g (kty cI cJ cZ) yX4_nodes wsX4_nodes ({ frames := 2, cells := 0, slots := 0, locals := 44 }) [.ref rm, .int (nI i), .int v2] [(rm, .inr (4, [.int (nI cd), .ref a1, .ref a2, .ref a3, .ref a4, .ref a5, .ref a6, .ref a7, .ref a8, .ref a9, .int (nI tp), .int (nI ((lvs sp 1).length)), .ref b1, .int (nI bl), .ref b2, .ref b3, .int (nI jn), .int (nI sn), .ref b4, .ref b5, .ref b6, .ref b7, .ref b8, .int (nI wt), .int (nI wm), .int (nI wg), .long (lN wo), .int (nI wd), .ref b9])), (b1, .inl (cJ, 14000, .inr (.inl (fun j => lN (nd j))))), (a7, .inl (cZ, 25, .inl (fun j => bI (rc j = true))))] (S := Unit) (fun r _ => r = if v2 = nI 0 then nI (cF (cls tp L R) sp rq i) else if v2 = nI 1 then nlo (adr tp S L R) (cls tp L R) rq i (lvs sp 1) else nlo (adr tp S L R) (cls tp L R) rq i (lvs sp 1).reverse) (fun u => [(rm, .inr (4, [.int (nI 0), .ref a1, .ref a2, .ref a3, .ref a4, .ref a5, .ref a6, .ref a7, .ref a8, .ref a9, .int (nI tp), .int (nI ((lvs sp 1).length)), .ref b1, .int (nI bl), .ref b2, .ref b3, .int (nI jn), .int (nI sn), .ref b4, .ref b5, .ref b6, .ref b7, .ref b8, .int (nI wt), .int (nI wm), .int (nI wg), .long (lN wo), .int (nI wd), .ref b9])), (b1, .inl (cJ, 14000, .inr (.inl (fun j => lN (nd j))))), (a7, .inl (cZ, 25, .inl (fun j => bI (rc j = true))))]) 0 0 := by
  intro sz
  refine Met.ofW (cc := cX4_nodes) (maxL := 6) (ret := (some .int)) (by decide) rfl ?_
  intro p e s m args below meth c s₁ B hml hv
  obtain ⟨rfl, hsz, hP, hk, hD0⟩ := hv
  subst hsz
  have hx := B.exec
  have hb := B.bytes
  have hr := B.returns
  have hts := atoms_spec (ws := wsX4_nodes) B.pre
  have hown : s.vm.findClass RX4 = some m.cls := findClass_of_methodNamed B.named
  have hlocks := B.notSynchronized
  have hK := hk.1
  have hinX4 : ∀ w ∈ wsX40, w ∈ wsX4_nodes := by decide +kernel
  obtain ⟨A, hAe⟩ : ∃ A, va_A [(rm, .inr (4, [.int (nI cd), .ref a1, .ref a2, .ref a3, .ref a4, .ref a5, .ref a6, .ref a7, .ref a8, .ref a9, .int (nI tp), .int (nI ((lvs sp 1).length)), .ref b1, .int (nI bl), .ref b2, .ref b3, .int (nI jn), .int (nI sn), .ref b4, .ref b5, .ref b6, .ref b7, .ref b8, .int (nI wt), .int (nI wm), .int (nI wg), .long (lN wo), .int (nI wd), .ref b9])), (b1, .inl (cJ, 14000, .inr (.inl (fun j => lN (nd j))))), (a7, .inl (cZ, 25, .inl (fun j => bI (rc j = true))))] s.heap.size = A := ⟨_, rfl⟩
  have hD := hD0.self (sz := s.heap.size)
  rw [hAe] at hD
  have hA : ∀ q : Nat, s.heap.size ≤ q → A q := fun q h => by rw [← hAe]; exact Or.inr h
  have hS : va_S A s.heap s.heap [] := va_S.rf
  have hl := lv_entry ([.ref rm, .int (nI i), .int v2]) (n := 6) (Nat.le_of_ble_eq_true rfl)
  rw [lg_entry_eq]
  generalize (lg_sl ([.ref rm, .int (nI i), .int v2]) ++ List.replicate (6 - (lg_sl ([.ref rm, .int (nI i), .int v2])).length) Slot.unset).toArray = ls at hl ⊢
  have hl : lv_has ls 6 [(0, .ref rm), (1, .int (nI i)), (2, .int v2)] := hl
  refine lv_aload_n hx hb dX4_nodes_0 rfl (lv_at hl 0 rfl) ?_
  refine k_goI (wr := [(b1, .inl (cJ, 14000, .inr (.inl (fun j => lN (nd j))))), (a7, .inl (cZ, 25, .inl (fun j => bI (rc j = true))))]) (va_runV (As := []) (rest := []) ⟨hx, hb, hml, hown, hts⟩ (c_X4_isThere l g cI cJ cZ rm a1 a2 a3 a4 a5 a6 a7 a8 a9 b1 b2 b3 b4 b5 b6 b7 b8 b9 cd tp ((lvs sp 1).length) bl jn sn wt wm wg wo wd  htp _) (cwV 0 hts gX4_nodes_X4_isThere rfl rfl rfl (by decide +kernel) ⟨Nat.le_of_ble_eq_true rfl, Nat.le_of_ble_eq_true rfl⟩) (k_preV hk hP hD [0] rfl rfl (ci := 4) (q0 := 0) rfl rfl) rfl rfl hl.1 rfl (lv_room (Nat.le_of_ble_eq_true rfl)) dX4_nodes_1 ⟨by first | exact Nat.zero_le _ | omega, by first | exact Nat.zero_le _ | omega⟩) hP hD hS hA [0] [1, 2] rfl rfl rfl (by decide) (fun rv _ H locs hu hP hD hS => ?_)
  subst hu
  have hP : va_P g vwCl [(b1, .inl (cJ, 14000, .inr (.inl (fun j => lN (nd j))))), (a7, .inl (cZ, 25, .inl (fun j => bI (rc j = true)))), (rm, .inr (4, [.int (nI 0), .ref a1, .ref a2, .ref a3, .ref a4, .ref a5, .ref a6, .ref a7, .ref a8, .ref a9, .int (nI tp), .int (nI ((lvs sp 1).length)), .ref b1, .int (nI bl), .ref b2, .ref b3, .int (nI jn), .int (nI sn), .ref b4, .ref b5, .ref b6, .ref b7, .ref b8, .int (nI wt), .int (nI wm), .int (nI wg), .long (lN wo), .int (nI wd), .ref b9]))] H := hP
  have hD : va_D A [(b1, .inl (cJ, 14000, .inr (.inl (fun j => lN (nd j))))), (a7, .inl (cZ, 25, .inl (fun j => bI (rc j = true)))), (rm, .inr (4, [.int (nI 0), .ref a1, .ref a2, .ref a3, .ref a4, .ref a5, .ref a6, .ref a7, .ref a8, .ref a9, .int (nI tp), .int (nI ((lvs sp 1).length)), .ref b1, .int (nI bl), .ref b2, .ref b3, .int (nI jn), .int (nI sn), .ref b4, .ref b5, .ref b6, .ref b7, .ref b8, .int (nI wt), .int (nI wm), .int (nI wg), .long (lN wo), .int (nI wd), .ref b9]))] := hD
  refine n_if_ne (tgt := 9) hx hb dX4_nodes_4 (by decide) (by first | assumption | omega) (fun c1 => ?_) (fun c1 => ?_)
  · skip
    refine lv_iload_n hx hb dX4_nodes_9 rfl (lv_at hl 1 rfl) ?_
    refine lv_i2l hx hb dX4_nodes_10 (nI_l (by first | assumption | omega)) ?_
    refine lv_lconst (v := lN 1) hx hb dX4_nodes_11 (by decide) ?_
    refine lv_ldc2 hx hb (v := 24) hown (hts (.constantLong RX4 70 24) (by decide +kernel)) dX4_nodes_12 ?_
    refine n_topl _ (lN 24) (by decide) ?_
    refine k_goR (W.runS (As := [.long (lN i), .long (lN 1), .long (lN 24)]) (rest := []) ⟨hx, hb, hml, hown, hts⟩ (c_X4_in l g cI cJ cZ  (lN i) (lN 1) (lN 24) ) (va_cwS 3 hts gX4_nodes_X4_in rfl rfl rfl (by decide +kernel) ⟨Nat.le_of_ble_eq_true rfl, Nat.le_of_ble_eq_true rfl⟩) (k_preRS hk hP [] rfl) rfl rfl hl.1 rfl (lv_room (Nat.le_of_ble_eq_true rfl)) dX4_nodes_15 ⟨by first | exact Nat.zero_le _ | omega, by first | exact Nat.zero_le _ | omega⟩) ?_
    refine n_top _ (bI (1 ≤ i ∧ i ≤ 24)) (bI_c (in_n (by omega) (by decide) (by decide))) ?_
    refine k_ifeq (tgt := 42) hx hb dX4_nodes_18 (by decide) (fun c2 => ?_) (fun c2 => ?_)
    · exact (by exact absurd hi c2)
    · skip
      refine lv_aload_n hx hb dX4_nodes_21 rfl (lv_at hl 0 rfl) ?_
      refine va_get (D := g) (ci := 4) (v := .ref a7) (C := RX4) (T := TX4) (N := 29) hx hb hts hinX4 hown hK hP 2 rfl rfl 7 (by decide) (hts (.fieldLink RX4 28 "BuddyRoofModel" "reached" "[Z") (by decide +kernel)) (fun _ h9 => h9) rfl dX4_nodes_22 ?_
      refine lv_iload_n hx hb dX4_nodes_25 rfl (lv_at hl 1 rfl) ?_
      refine n_zald (v := bI (rc i = true)) hx hb hK hP 1 2 rfl rfl (i := i) (by omega) (by decide) rfl dX4_nodes_26 ?_
      refine k_ifeq (tgt := 42) hx hb dX4_nodes_27 (by decide) (fun c3 => ?_) (fun c3 => ?_)
      · exact (by exact absurd hrc c3)
      · skip
        refine lv_iload_n hx hb dX4_nodes_30 rfl (lv_at hl 2 rfl) ?_
        refine lv_i2l hx hb dX4_nodes_31 rfl ?_
        refine lv_lconst (v := lN 0) hx hb dX4_nodes_32 (by decide) ?_
        refine lv_ldc2 hx hb (v := 2) hown (hts (.constantLong RX4 76 2) (by decide +kernel)) dX4_nodes_33 ?_
        refine n_topl _ (lN 2) (by decide) ?_
        refine k_goR (W.runS (As := [.long ((v2).toInt64), .long (lN 0), .long (lN 2)]) (rest := []) ⟨hx, hb, hml, hown, hts⟩ (c_X4_in l g cI cJ cZ  (v2).toInt64 (lN 0) (lN 2) ) (va_cwS 3 hts gX4_nodes_X4_in rfl rfl rfl (by decide +kernel) ⟨Nat.le_of_ble_eq_true rfl, Nat.le_of_ble_eq_true rfl⟩) (k_preRS hk hP [] rfl) rfl rfl hl.1 rfl (lv_room (Nat.le_of_ble_eq_true rfl)) dX4_nodes_36 ⟨by first | exact Nat.zero_le _ | omega, by first | exact Nat.zero_le _ | omega⟩) ?_
        refine n_top _ (bI (nI 0 ≤ v2 ∧ v2 ≤ nI 2)) (bI_c (in_i (by decide) (by decide))) ?_
        refine k_ifne (tgt := 48) hx hb dX4_nodes_39 (by decide) (fun c4 => ?_) (fun c4 => ?_)
        · skip
          refine lv_iconst (v := (-1)) hx hb dX4_nodes_48 (by decide) ?_
          refine lv_istore_n (lv' := [(3, .int (-1)), (0, .ref rm), (1, .int (nI i)), (2, .int v2)]) hx hb dX4_nodes_49 rfl hl (by decide) rfl (fun ls hl => ?_)
          refine lv_iconst (v := (-1)) hx hb dX4_nodes_50 (by decide) ?_
          refine lv_istore (lv' := [(4, .int (-1)), (3, .int (-1)), (0, .ref rm), (1, .int (nI i)), (2, .int v2)]) hx hb dX4_nodes_51 hl (by decide) rfl (fun ls hl => ?_)
          refine lv_iconst (v := nI 0) hx hb dX4_nodes_53 (by decide) ?_
          refine lv_istore (lv' := [(5, .int (nI 0)), (4, .int (-1)), (3, .int (-1)), (0, .ref rm), (1, .int (nI i)), (2, .int v2)]) hx hb dX4_nodes_54 hl (by decide) rfl (fun ls hl => ?_)
          have hP := hP.sub (ws' := [(rm, .inr (4, [.int (nI 0), .ref a1, .ref a2, .ref a3, .ref a4, .ref a5, .ref a6, .ref a7, .ref a8, .ref a9, .int (nI tp), .int (nI ((lvs sp 1).length)), .ref b1, .int (nI bl), .ref b2, .ref b3, .int (nI jn), .int (nI sn), .ref b4, .ref b5, .ref b6, .ref b7, .ref b8, .int (nI wt), .int (nI wm), .int (nI wg), .long (lN wo), .int (nI wd), .ref b9])), (b1, .inl (cJ, 14000, .inr (.inl (fun j => lN (nd j))))), (a7, .inl (cZ, 25, .inl (fun j => bI (rc j = true))))]) [2, 0, 1] rfl
          have hD := hD.sub (ws' := [(rm, .inr (4, [.int (nI 0), .ref a1, .ref a2, .ref a3, .ref a4, .ref a5, .ref a6, .ref a7, .ref a8, .ref a9, .int (nI tp), .int (nI ((lvs sp 1).length)), .ref b1, .int (nI bl), .ref b2, .ref b3, .int (nI jn), .int (nI sn), .ref b4, .ref b5, .ref b6, .ref b7, .ref b8, .int (nI wt), .int (nI wm), .int (nI wg), .long (lN wo), .int (nI wd), .ref b9])), (b1, .inl (cJ, 14000, .inr (.inl (fun j => lN (nd j))))), (a7, .inl (cZ, 25, .inl (fun j => bI (rc j = true))))]) [2, 0, 1] rfl rfl
          refine lp_X4_nodes_s_56 l g cI cJ cZ rm a1 a2 a3 a4 a5 a6 a7 a8 a9 b1 b2 b3 b4 b5 b6 b7 b8 b9 cd tp bl jn sn wt wm wg wo wd S L R rc sp rq nd i v2 htp hR hT hW hlen hi hrc hv2  ⟨hx, hb, hr, hml, hown, hts, hlocks⟩ hk hP (fun lo hg hlo hhi ls hl => ?_) _ 0 (-1) (-1) (Nat.lt_succ_self _) (Nat.zero_le _) rfl rfl ls (lv_sub hl [3, 4, 5, 2, 1, 0] rfl)
          · skip
            refine lv_iload_n hx hb dX4_nodes_108 rfl (lv_at hl 2 rfl) ?_
            refine lv_if_ne (tgt := 120) hx hb dX4_nodes_109 (by decide) (fun c5 => ?_) (fun c5 => ?_)
            · skip
              refine lv_iload_n hx hb dX4_nodes_120 rfl (lv_at hl 2 rfl) ?_
              refine lv_iconst (v := nI 1) hx hb dX4_nodes_121 (by decide) ?_
              refine lv_icmp_ne (tgt := 129) hx hb dX4_nodes_122 (by decide) (fun c6 => ?_) (fun c6 => ?_)
              · skip
                refine lv_iload hx hb dX4_nodes_129 (lv_at hl 4 rfl) ?_
                have hP := hP.sub (ws' := [(rm, .inr (4, [.int (nI 0), .ref a1, .ref a2, .ref a3, .ref a4, .ref a5, .ref a6, .ref a7, .ref a8, .ref a9, .int (nI tp), .int (nI ((lvs sp 1).length)), .ref b1, .int (nI bl), .ref b2, .ref b3, .int (nI jn), .int (nI sn), .ref b4, .ref b5, .ref b6, .ref b7, .ref b8, .int (nI wt), .int (nI wm), .int (nI wg), .long (lN wo), .int (nI wd), .ref b9])), (b1, .inl (cJ, 14000, .inr (.inl (fun j => lN (nd j))))), (a7, .inl (cZ, 25, .inl (fun j => bI (rc j = true))))]) [0, 1, 2] rfl
                have hD := hD.sub (ws' := [(rm, .inr (4, [.int (nI 0), .ref a1, .ref a2, .ref a3, .ref a4, .ref a5, .ref a6, .ref a7, .ref a8, .ref a9, .int (nI tp), .int (nI ((lvs sp 1).length)), .ref b1, .int (nI bl), .ref b2, .ref b3, .int (nI jn), .int (nI sn), .ref b4, .ref b5, .ref b6, .ref b7, .ref b8, .int (nI wt), .int (nI wm), .int (nI wg), .long (lN wo), .int (nI wd), .ref b9])), (b1, .inl (cJ, 14000, .inr (.inl (fun j => lN (nd j))))), (a7, .inl (cZ, 25, .inl (fun j => bI (rc j = true))))]) [0, 1, 2] rfl rfl
                refine W.widen (k := 0) (n := 0) (by first | exact Nat.le_refl _ | omega) (by first | exact Nat.le_refl _ | omega) ?_
                exact k_retI (sz := 0) (v := hg) hx hb hr hlocks hAe hS hP hD () (rfl) (by rw [if_neg (by rw [nI_0]; exact c5), if_neg c6]; exact hhi) dX4_nodes_131
              · skip
                refine lv_iload_n hx hb dX4_nodes_125 rfl (lv_at hl 3 rfl) ?_
                refine lv_goto (tgt := 131) hx hb dX4_nodes_126 (by decide) ?_
                have hP := hP.sub (ws' := [(rm, .inr (4, [.int (nI 0), .ref a1, .ref a2, .ref a3, .ref a4, .ref a5, .ref a6, .ref a7, .ref a8, .ref a9, .int (nI tp), .int (nI ((lvs sp 1).length)), .ref b1, .int (nI bl), .ref b2, .ref b3, .int (nI jn), .int (nI sn), .ref b4, .ref b5, .ref b6, .ref b7, .ref b8, .int (nI wt), .int (nI wm), .int (nI wg), .long (lN wo), .int (nI wd), .ref b9])), (b1, .inl (cJ, 14000, .inr (.inl (fun j => lN (nd j))))), (a7, .inl (cZ, 25, .inl (fun j => bI (rc j = true))))]) [0, 1, 2] rfl
                have hD := hD.sub (ws' := [(rm, .inr (4, [.int (nI 0), .ref a1, .ref a2, .ref a3, .ref a4, .ref a5, .ref a6, .ref a7, .ref a8, .ref a9, .int (nI tp), .int (nI ((lvs sp 1).length)), .ref b1, .int (nI bl), .ref b2, .ref b3, .int (nI jn), .int (nI sn), .ref b4, .ref b5, .ref b6, .ref b7, .ref b8, .int (nI wt), .int (nI wm), .int (nI wg), .long (lN wo), .int (nI wd), .ref b9])), (b1, .inl (cJ, 14000, .inr (.inl (fun j => lN (nd j))))), (a7, .inl (cZ, 25, .inl (fun j => bI (rc j = true))))]) [0, 1, 2] rfl rfl
                refine W.widen (k := 0) (n := 0) (by first | exact Nat.le_refl _ | omega) (by first | exact Nat.le_refl _ | omega) ?_
                exact k_retI (sz := 0) (v := lo) hx hb hr hlocks hAe hS hP hD () (rfl) (by rw [if_neg (by rw [nI_0]; exact c5), if_pos c6]; exact hlo) dX4_nodes_131
            · skip
              refine lv_aload_n hx hb dX4_nodes_112 rfl (lv_at hl 0 rfl) ?_
              refine lv_iload_n hx hb dX4_nodes_113 rfl (lv_at hl 1 rfl) ?_
              refine k_goR (W.runV (As := [.int (nI i)]) (rest := []) ⟨hx, hb, hml, hown, hts⟩ (c_X4_freeOf l g cI cJ cZ rm a1 a2 a3 a4 a5 a6 a7 a8 a9 b1 b2 b3 b4 b5 b6 b7 b8 b9 0 tp bl jn sn wt wm wg wo wd S L R rc sp rq nd i hR hT hW hlen (by omega)) (cwV 1 hts gX4_nodes_X4_freeOf rfl rfl rfl (by decide +kernel) ⟨Nat.le_of_ble_eq_true rfl, Nat.le_of_ble_eq_true rfl⟩) (k_preRV hk hP [0, 1] rfl (ci := 4) (q0 := 0) rfl rfl) rfl rfl hl.1 rfl (lv_room (Nat.le_of_ble_eq_true rfl)) dX4_nodes_114 ⟨by first | exact Nat.zero_le _ | omega, by first | exact Nat.zero_le _ | omega⟩) ?_
              refine lv_goto (tgt := 131) hx hb dX4_nodes_117 (by decide) ?_
              have hP := hP.sub (ws' := [(rm, .inr (4, [.int (nI 0), .ref a1, .ref a2, .ref a3, .ref a4, .ref a5, .ref a6, .ref a7, .ref a8, .ref a9, .int (nI tp), .int (nI ((lvs sp 1).length)), .ref b1, .int (nI bl), .ref b2, .ref b3, .int (nI jn), .int (nI sn), .ref b4, .ref b5, .ref b6, .ref b7, .ref b8, .int (nI wt), .int (nI wm), .int (nI wg), .long (lN wo), .int (nI wd), .ref b9])), (b1, .inl (cJ, 14000, .inr (.inl (fun j => lN (nd j))))), (a7, .inl (cZ, 25, .inl (fun j => bI (rc j = true))))]) [0, 1, 2] rfl
              have hD := hD.sub (ws' := [(rm, .inr (4, [.int (nI 0), .ref a1, .ref a2, .ref a3, .ref a4, .ref a5, .ref a6, .ref a7, .ref a8, .ref a9, .int (nI tp), .int (nI ((lvs sp 1).length)), .ref b1, .int (nI bl), .ref b2, .ref b3, .int (nI jn), .int (nI sn), .ref b4, .ref b5, .ref b6, .ref b7, .ref b8, .int (nI wt), .int (nI wm), .int (nI wg), .long (lN wo), .int (nI wd), .ref b9])), (b1, .inl (cJ, 14000, .inr (.inl (fun j => lN (nd j))))), (a7, .inl (cZ, 25, .inl (fun j => bI (rc j = true))))]) [0, 1, 2] rfl rfl
              refine W.widen (k := 0) (n := 0) (by first | exact Nat.le_refl _ | omega) (by first | exact Nat.le_refl _ | omega) ?_
              exact k_retI (sz := 0) (v := nI (cF (cls tp L R) sp rq i)) hx hb hr hlocks hAe hS hP hD () (rfl) (by rw [if_pos (by rw [nI_0]; exact c5)]) dX4_nodes_131
        · exact (by rcases hv2 with q | q | q <;> exact absurd (by rw [q]; decide) c4)
  · exact (by exact absurd c1 (by decide))
set_option maxHeartbeats 4000000 in
set_option maxRecDepth 100000 in
theorem c_X4_nodes_e (l : Launch) (g : va_G) (cI cJ cZ : ClassId) (rm a1 a2 a3 a4 a5 a6 a7 a8 a9 b1 b2 b3 b4 b5 b6 b7 b8 b9 : Nat) (cd tp mn bl jn sn wt wm wg wo wd : Nat) (rc : Nat → Bool) (v v2 : Int32) (htp : 0 < tp ∧ tp < 2 ^ 31) (hbad : ∀ i, 1 ≤ i → i ≤ 24 → v = nI i → rc i = true → ¬ (nI 0 ≤ v2 ∧ v2 ≤ nI 2)) : kI l g (kty cI cJ cZ) yX4_nodes wsX4_nodes ({ frames := 1, cells := 0, slots := 0, locals := 25 }) [.ref rm, .int v, .int v2] [(rm, .inr (4, [.int (nI cd), .ref a1, .ref a2, .ref a3, .ref a4, .ref a5, .ref a6, .ref a7, .ref a8, .ref a9, .int (nI tp), .int (nI mn), .ref b1, .int (nI bl), .ref b2, .ref b3, .int (nI jn), .int (nI sn), .ref b4, .ref b5, .ref b6, .ref b7, .ref b8, .int (nI wt), .int (nI wm), .int (nI wg), .long (lN wo), .int (nI wd), .ref b9])), (a7, .inl (cZ, 25, .inl (fun j => bI (rc j = true))))] (S := Unit) (fun r _ => r = nI 0) (fun u => [(rm, .inr (4, [.int (nI 2), .ref a1, .ref a2, .ref a3, .ref a4, .ref a5, .ref a6, .ref a7, .ref a8, .ref a9, .int (nI tp), .int (nI mn), .ref b1, .int (nI bl), .ref b2, .ref b3, .int (nI jn), .int (nI sn), .ref b4, .ref b5, .ref b6, .ref b7, .ref b8, .int (nI wt), .int (nI wm), .int (nI wg), .long (lN wo), .int (nI wd), .ref b9])), (a7, .inl (cZ, 25, .inl (fun j => bI (rc j = true))))]) 0 0 := by
  intro sz
  refine Met.ofW (cc := cX4_nodes) (maxL := 6) (ret := (some .int)) (by decide) rfl ?_
  intro p e s m args below meth c s₁ B hml hv
  obtain ⟨rfl, hsz, hP, hk, hD0⟩ := hv
  subst hsz
  have hx := B.exec
  have hb := B.bytes
  have hr := B.returns
  have hts := atoms_spec (ws := wsX4_nodes) B.pre
  have hown : s.vm.findClass RX4 = some m.cls := findClass_of_methodNamed B.named
  have hlocks := B.notSynchronized
  have hK := hk.1
  have hinX4 : ∀ w ∈ wsX40, w ∈ wsX4_nodes := by decide +kernel
  obtain ⟨A, hAe⟩ : ∃ A, va_A [(rm, .inr (4, [.int (nI cd), .ref a1, .ref a2, .ref a3, .ref a4, .ref a5, .ref a6, .ref a7, .ref a8, .ref a9, .int (nI tp), .int (nI mn), .ref b1, .int (nI bl), .ref b2, .ref b3, .int (nI jn), .int (nI sn), .ref b4, .ref b5, .ref b6, .ref b7, .ref b8, .int (nI wt), .int (nI wm), .int (nI wg), .long (lN wo), .int (nI wd), .ref b9])), (a7, .inl (cZ, 25, .inl (fun j => bI (rc j = true))))] s.heap.size = A := ⟨_, rfl⟩
  have hD := hD0.self (sz := s.heap.size)
  rw [hAe] at hD
  have hA : ∀ q : Nat, s.heap.size ≤ q → A q := fun q h => by rw [← hAe]; exact Or.inr h
  have hS : va_S A s.heap s.heap [] := va_S.rf
  have hl := lv_entry ([.ref rm, .int v, .int v2]) (n := 6) (Nat.le_of_ble_eq_true rfl)
  rw [lg_entry_eq]
  generalize (lg_sl ([.ref rm, .int v, .int v2]) ++ List.replicate (6 - (lg_sl ([.ref rm, .int v, .int v2])).length) Slot.unset).toArray = ls at hl ⊢
  have hl : lv_has ls 6 [(0, .ref rm), (1, .int v), (2, .int v2)] := hl
  refine lv_aload_n hx hb dX4_nodes_0 rfl (lv_at hl 0 rfl) ?_
  refine k_goI (wr := [(a7, .inl (cZ, 25, .inl (fun j => bI (rc j = true))))]) (va_runV (As := []) (rest := []) ⟨hx, hb, hml, hown, hts⟩ (c_X4_isThere l g cI cJ cZ rm a1 a2 a3 a4 a5 a6 a7 a8 a9 b1 b2 b3 b4 b5 b6 b7 b8 b9 cd tp mn bl jn sn wt wm wg wo wd  htp _) (cwV 0 hts gX4_nodes_X4_isThere rfl rfl rfl (by decide +kernel) ⟨Nat.le_of_ble_eq_true rfl, Nat.le_of_ble_eq_true rfl⟩) (k_preV hk hP hD [0] rfl rfl (ci := 4) (q0 := 0) rfl rfl) rfl rfl hl.1 rfl (lv_room (Nat.le_of_ble_eq_true rfl)) dX4_nodes_1 ⟨by first | exact Nat.zero_le _ | omega, by first | exact Nat.zero_le _ | omega⟩) hP hD hS hA [0] [1] rfl rfl rfl (by decide) (fun rv _ H locs hu hP hD hS => ?_)
  subst hu
  have hP : va_P g vwCl [(a7, .inl (cZ, 25, .inl (fun j => bI (rc j = true)))), (rm, .inr (4, [.int (nI 0), .ref a1, .ref a2, .ref a3, .ref a4, .ref a5, .ref a6, .ref a7, .ref a8, .ref a9, .int (nI tp), .int (nI mn), .ref b1, .int (nI bl), .ref b2, .ref b3, .int (nI jn), .int (nI sn), .ref b4, .ref b5, .ref b6, .ref b7, .ref b8, .int (nI wt), .int (nI wm), .int (nI wg), .long (lN wo), .int (nI wd), .ref b9]))] H := hP
  have hD : va_D A [(a7, .inl (cZ, 25, .inl (fun j => bI (rc j = true)))), (rm, .inr (4, [.int (nI 0), .ref a1, .ref a2, .ref a3, .ref a4, .ref a5, .ref a6, .ref a7, .ref a8, .ref a9, .int (nI tp), .int (nI mn), .ref b1, .int (nI bl), .ref b2, .ref b3, .int (nI jn), .int (nI sn), .ref b4, .ref b5, .ref b6, .ref b7, .ref b8, .int (nI wt), .int (nI wm), .int (nI wg), .long (lN wo), .int (nI wd), .ref b9]))] := hD
  refine n_if_ne (tgt := 9) hx hb dX4_nodes_4 (by decide) (by first | assumption | omega) (fun c1 => ?_) (fun c1 => ?_)
  · skip
    refine lv_iload_n hx hb dX4_nodes_9 rfl (lv_at hl 1 rfl) ?_
    refine lv_i2l hx hb dX4_nodes_10 rfl ?_
    refine lv_lconst (v := lN 1) hx hb dX4_nodes_11 (by decide) ?_
    refine lv_ldc2 hx hb (v := 24) hown (hts (.constantLong RX4 70 24) (by decide +kernel)) dX4_nodes_12 ?_
    refine n_topl _ (lN 24) (by decide) ?_
    refine k_goR (W.runS (As := [.long ((v).toInt64), .long (lN 1), .long (lN 24)]) (rest := []) ⟨hx, hb, hml, hown, hts⟩ (c_X4_in l g cI cJ cZ  (v).toInt64 (lN 1) (lN 24) ) (va_cwS 3 hts gX4_nodes_X4_in rfl rfl rfl (by decide +kernel) ⟨Nat.le_of_ble_eq_true rfl, Nat.le_of_ble_eq_true rfl⟩) (k_preRS hk hP [] rfl) rfl rfl hl.1 rfl (lv_room (Nat.le_of_ble_eq_true rfl)) dX4_nodes_15 ⟨by first | exact Nat.zero_le _ | omega, by first | exact Nat.zero_le _ | omega⟩) ?_
    refine n_top _ (bI (nI 1 ≤ v ∧ v ≤ nI 24)) (bI_c (in_i (by decide) (by decide))) ?_
    refine k_ifeq (tgt := 42) hx hb dX4_nodes_18 (by decide) (fun c2 => ?_) (fun c2 => ?_)
    · skip
      refine lv_aload_n hx hb dX4_nodes_42 rfl (lv_at hl 0 rfl) ?_
      refine lv_iconst (v := nI 2) hx hb dX4_nodes_43 (by decide) ?_
      refine k_goI (wr := [(a7, .inl (cZ, 25, .inl (fun j => bI (rc j = true))))]) (va_runV (As := [.int (nI 2)]) (rest := []) ⟨hx, hb, hml, hown, hts⟩ (c_X4_raise l g cI cJ cZ rm a1 a2 a3 a4 a5 a6 a7 a8 a9 b1 b2 b3 b4 b5 b6 b7 b8 b9 0 tp mn bl jn sn wt wm wg wo wd 2  _) (cwV 1 hts gX4_nodes_X4_raise rfl rfl rfl (by decide +kernel) ⟨Nat.le_of_ble_eq_true rfl, Nat.le_of_ble_eq_true rfl⟩) (k_preV hk hP hD [1] rfl rfl (ci := 4) (q0 := 0) rfl rfl) rfl rfl hl.1 rfl (lv_room (Nat.le_of_ble_eq_true rfl)) dX4_nodes_44 ⟨by first | exact Nat.zero_le _ | omega, by first | exact Nat.zero_le _ | omega⟩) hP hD hS hA [1] [0] rfl rfl rfl (by decide) (fun rv _ H locs hu hP hD hS => ?_)
      subst hu
      have hP : va_P g vwCl [(a7, .inl (cZ, 25, .inl (fun j => bI (rc j = true)))), (rm, .inr (4, [.int (nI 2), .ref a1, .ref a2, .ref a3, .ref a4, .ref a5, .ref a6, .ref a7, .ref a8, .ref a9, .int (nI tp), .int (nI mn), .ref b1, .int (nI bl), .ref b2, .ref b3, .int (nI jn), .int (nI sn), .ref b4, .ref b5, .ref b6, .ref b7, .ref b8, .int (nI wt), .int (nI wm), .int (nI wg), .long (lN wo), .int (nI wd), .ref b9]))] H := hP
      have hD : va_D A [(a7, .inl (cZ, 25, .inl (fun j => bI (rc j = true)))), (rm, .inr (4, [.int (nI 2), .ref a1, .ref a2, .ref a3, .ref a4, .ref a5, .ref a6, .ref a7, .ref a8, .ref a9, .int (nI tp), .int (nI mn), .ref b1, .int (nI bl), .ref b2, .ref b3, .int (nI jn), .int (nI sn), .ref b4, .ref b5, .ref b6, .ref b7, .ref b8, .int (nI wt), .int (nI wm), .int (nI wg), .long (lN wo), .int (nI wd), .ref b9]))] := hD
      have hP := hP.sub (ws' := [(rm, .inr (4, [.int (nI 2), .ref a1, .ref a2, .ref a3, .ref a4, .ref a5, .ref a6, .ref a7, .ref a8, .ref a9, .int (nI tp), .int (nI mn), .ref b1, .int (nI bl), .ref b2, .ref b3, .int (nI jn), .int (nI sn), .ref b4, .ref b5, .ref b6, .ref b7, .ref b8, .int (nI wt), .int (nI wm), .int (nI wg), .long (lN wo), .int (nI wd), .ref b9])), (a7, .inl (cZ, 25, .inl (fun j => bI (rc j = true))))]) [1, 0] rfl
      have hD := hD.sub (ws' := [(rm, .inr (4, [.int (nI 2), .ref a1, .ref a2, .ref a3, .ref a4, .ref a5, .ref a6, .ref a7, .ref a8, .ref a9, .int (nI tp), .int (nI mn), .ref b1, .int (nI bl), .ref b2, .ref b3, .int (nI jn), .int (nI sn), .ref b4, .ref b5, .ref b6, .ref b7, .ref b8, .int (nI wt), .int (nI wm), .int (nI wg), .long (lN wo), .int (nI wd), .ref b9])), (a7, .inl (cZ, 25, .inl (fun j => bI (rc j = true))))]) [1, 0] rfl rfl
      refine W.widen (k := 0) (n := 0) (by first | exact Nat.le_refl _ | omega) (by first | exact Nat.le_refl _ | omega) ?_
      exact k_retI (sz := 0) (v := nI 0) hx hb hr hlocks hAe hS hP hD () (rfl) (rfl) dX4_nodes_47
    · skip
      obtain ⟨ii, i1, i2, i3, -⟩ := cls_of c2
      rw [i3] at hl
      refine lv_aload_n hx hb dX4_nodes_21 rfl (lv_at hl 0 rfl) ?_
      refine va_get (D := g) (ci := 4) (v := .ref a7) (C := RX4) (T := TX4) (N := 29) hx hb hts hinX4 hown hK hP 1 rfl rfl 7 (by decide) (hts (.fieldLink RX4 28 "BuddyRoofModel" "reached" "[Z") (by decide +kernel)) (fun _ h9 => h9) rfl dX4_nodes_22 ?_
      refine lv_iload_n hx hb dX4_nodes_25 rfl (lv_at hl 1 rfl) ?_
      refine n_zald (v := bI (rc ii = true)) hx hb hK hP 0 2 rfl rfl (i := ii) (by omega) (by decide) rfl dX4_nodes_26 ?_
      refine k_ifeq (tgt := 42) hx hb dX4_nodes_27 (by decide) (fun c3 => ?_) (fun c3 => ?_)
      · skip
        refine lv_aload_n hx hb dX4_nodes_42 rfl (lv_at hl 0 rfl) ?_
        refine lv_iconst (v := nI 2) hx hb dX4_nodes_43 (by decide) ?_
        refine k_goI (wr := [(a7, .inl (cZ, 25, .inl (fun j => bI (rc j = true))))]) (va_runV (As := [.int (nI 2)]) (rest := []) ⟨hx, hb, hml, hown, hts⟩ (c_X4_raise l g cI cJ cZ rm a1 a2 a3 a4 a5 a6 a7 a8 a9 b1 b2 b3 b4 b5 b6 b7 b8 b9 0 tp mn bl jn sn wt wm wg wo wd 2  _) (cwV 1 hts gX4_nodes_X4_raise rfl rfl rfl (by decide +kernel) ⟨Nat.le_of_ble_eq_true rfl, Nat.le_of_ble_eq_true rfl⟩) (k_preV hk hP hD [1] rfl rfl (ci := 4) (q0 := 0) rfl rfl) rfl rfl hl.1 rfl (lv_room (Nat.le_of_ble_eq_true rfl)) dX4_nodes_44 ⟨by first | exact Nat.zero_le _ | omega, by first | exact Nat.zero_le _ | omega⟩) hP hD hS hA [1] [0] rfl rfl rfl (by decide) (fun rv _ H locs hu hP hD hS => ?_)
        subst hu
        have hP : va_P g vwCl [(a7, .inl (cZ, 25, .inl (fun j => bI (rc j = true)))), (rm, .inr (4, [.int (nI 2), .ref a1, .ref a2, .ref a3, .ref a4, .ref a5, .ref a6, .ref a7, .ref a8, .ref a9, .int (nI tp), .int (nI mn), .ref b1, .int (nI bl), .ref b2, .ref b3, .int (nI jn), .int (nI sn), .ref b4, .ref b5, .ref b6, .ref b7, .ref b8, .int (nI wt), .int (nI wm), .int (nI wg), .long (lN wo), .int (nI wd), .ref b9]))] H := hP
        have hD : va_D A [(a7, .inl (cZ, 25, .inl (fun j => bI (rc j = true)))), (rm, .inr (4, [.int (nI 2), .ref a1, .ref a2, .ref a3, .ref a4, .ref a5, .ref a6, .ref a7, .ref a8, .ref a9, .int (nI tp), .int (nI mn), .ref b1, .int (nI bl), .ref b2, .ref b3, .int (nI jn), .int (nI sn), .ref b4, .ref b5, .ref b6, .ref b7, .ref b8, .int (nI wt), .int (nI wm), .int (nI wg), .long (lN wo), .int (nI wd), .ref b9]))] := hD
        have hP := hP.sub (ws' := [(rm, .inr (4, [.int (nI 2), .ref a1, .ref a2, .ref a3, .ref a4, .ref a5, .ref a6, .ref a7, .ref a8, .ref a9, .int (nI tp), .int (nI mn), .ref b1, .int (nI bl), .ref b2, .ref b3, .int (nI jn), .int (nI sn), .ref b4, .ref b5, .ref b6, .ref b7, .ref b8, .int (nI wt), .int (nI wm), .int (nI wg), .long (lN wo), .int (nI wd), .ref b9])), (a7, .inl (cZ, 25, .inl (fun j => bI (rc j = true))))]) [1, 0] rfl
        have hD := hD.sub (ws' := [(rm, .inr (4, [.int (nI 2), .ref a1, .ref a2, .ref a3, .ref a4, .ref a5, .ref a6, .ref a7, .ref a8, .ref a9, .int (nI tp), .int (nI mn), .ref b1, .int (nI bl), .ref b2, .ref b3, .int (nI jn), .int (nI sn), .ref b4, .ref b5, .ref b6, .ref b7, .ref b8, .int (nI wt), .int (nI wm), .int (nI wg), .long (lN wo), .int (nI wd), .ref b9])), (a7, .inl (cZ, 25, .inl (fun j => bI (rc j = true))))]) [1, 0] rfl rfl
        refine W.widen (k := 0) (n := 0) (by first | exact Nat.le_refl _ | omega) (by first | exact Nat.le_refl _ | omega) ?_
        exact k_retI (sz := 0) (v := nI 0) hx hb hr hlocks hAe hS hP hD () (rfl) (rfl) dX4_nodes_47
      · skip
        refine lv_iload_n hx hb dX4_nodes_30 rfl (lv_at hl 2 rfl) ?_
        refine lv_i2l hx hb dX4_nodes_31 rfl ?_
        refine lv_lconst (v := lN 0) hx hb dX4_nodes_32 (by decide) ?_
        refine lv_ldc2 hx hb (v := 2) hown (hts (.constantLong RX4 76 2) (by decide +kernel)) dX4_nodes_33 ?_
        refine n_topl _ (lN 2) (by decide) ?_
        refine k_goR (W.runS (As := [.long ((v2).toInt64), .long (lN 0), .long (lN 2)]) (rest := []) ⟨hx, hb, hml, hown, hts⟩ (c_X4_in l g cI cJ cZ  (v2).toInt64 (lN 0) (lN 2) ) (va_cwS 3 hts gX4_nodes_X4_in rfl rfl rfl (by decide +kernel) ⟨Nat.le_of_ble_eq_true rfl, Nat.le_of_ble_eq_true rfl⟩) (k_preRS hk hP [] rfl) rfl rfl hl.1 rfl (lv_room (Nat.le_of_ble_eq_true rfl)) dX4_nodes_36 ⟨by first | exact Nat.zero_le _ | omega, by first | exact Nat.zero_le _ | omega⟩) ?_
        refine n_top _ (bI (nI 0 ≤ v2 ∧ v2 ≤ nI 2)) (bI_c (in_i (by decide) (by decide))) ?_
        refine k_ifne (tgt := 48) hx hb dX4_nodes_39 (by decide) (fun c4 => ?_) (fun c4 => ?_)
        · exact (by exact absurd c4 (hbad ii i1 i2 i3 c3))
        · skip
          refine lv_aload_n hx hb dX4_nodes_42 rfl (lv_at hl 0 rfl) ?_
          refine lv_iconst (v := nI 2) hx hb dX4_nodes_43 (by decide) ?_
          refine k_goI (wr := [(a7, .inl (cZ, 25, .inl (fun j => bI (rc j = true))))]) (va_runV (As := [.int (nI 2)]) (rest := []) ⟨hx, hb, hml, hown, hts⟩ (c_X4_raise l g cI cJ cZ rm a1 a2 a3 a4 a5 a6 a7 a8 a9 b1 b2 b3 b4 b5 b6 b7 b8 b9 0 tp mn bl jn sn wt wm wg wo wd 2  _) (cwV 1 hts gX4_nodes_X4_raise rfl rfl rfl (by decide +kernel) ⟨Nat.le_of_ble_eq_true rfl, Nat.le_of_ble_eq_true rfl⟩) (k_preV hk hP hD [1] rfl rfl (ci := 4) (q0 := 0) rfl rfl) rfl rfl hl.1 rfl (lv_room (Nat.le_of_ble_eq_true rfl)) dX4_nodes_44 ⟨by first | exact Nat.zero_le _ | omega, by first | exact Nat.zero_le _ | omega⟩) hP hD hS hA [1] [0] rfl rfl rfl (by decide) (fun rv _ H locs hu hP hD hS => ?_)
          subst hu
          have hP : va_P g vwCl [(a7, .inl (cZ, 25, .inl (fun j => bI (rc j = true)))), (rm, .inr (4, [.int (nI 2), .ref a1, .ref a2, .ref a3, .ref a4, .ref a5, .ref a6, .ref a7, .ref a8, .ref a9, .int (nI tp), .int (nI mn), .ref b1, .int (nI bl), .ref b2, .ref b3, .int (nI jn), .int (nI sn), .ref b4, .ref b5, .ref b6, .ref b7, .ref b8, .int (nI wt), .int (nI wm), .int (nI wg), .long (lN wo), .int (nI wd), .ref b9]))] H := hP
          have hD : va_D A [(a7, .inl (cZ, 25, .inl (fun j => bI (rc j = true)))), (rm, .inr (4, [.int (nI 2), .ref a1, .ref a2, .ref a3, .ref a4, .ref a5, .ref a6, .ref a7, .ref a8, .ref a9, .int (nI tp), .int (nI mn), .ref b1, .int (nI bl), .ref b2, .ref b3, .int (nI jn), .int (nI sn), .ref b4, .ref b5, .ref b6, .ref b7, .ref b8, .int (nI wt), .int (nI wm), .int (nI wg), .long (lN wo), .int (nI wd), .ref b9]))] := hD
          have hP := hP.sub (ws' := [(rm, .inr (4, [.int (nI 2), .ref a1, .ref a2, .ref a3, .ref a4, .ref a5, .ref a6, .ref a7, .ref a8, .ref a9, .int (nI tp), .int (nI mn), .ref b1, .int (nI bl), .ref b2, .ref b3, .int (nI jn), .int (nI sn), .ref b4, .ref b5, .ref b6, .ref b7, .ref b8, .int (nI wt), .int (nI wm), .int (nI wg), .long (lN wo), .int (nI wd), .ref b9])), (a7, .inl (cZ, 25, .inl (fun j => bI (rc j = true))))]) [1, 0] rfl
          have hD := hD.sub (ws' := [(rm, .inr (4, [.int (nI 2), .ref a1, .ref a2, .ref a3, .ref a4, .ref a5, .ref a6, .ref a7, .ref a8, .ref a9, .int (nI tp), .int (nI mn), .ref b1, .int (nI bl), .ref b2, .ref b3, .int (nI jn), .int (nI sn), .ref b4, .ref b5, .ref b6, .ref b7, .ref b8, .int (nI wt), .int (nI wm), .int (nI wg), .long (lN wo), .int (nI wd), .ref b9])), (a7, .inl (cZ, 25, .inl (fun j => bI (rc j = true))))]) [1, 0] rfl rfl
          refine W.widen (k := 0) (n := 0) (by first | exact Nat.le_refl _ | omega) (by first | exact Nat.le_refl _ | omega) ?_
          exact k_retI (sz := 0) (v := nI 0) hx hb hr hlocks hAe hS hP hD () (rfl) (rfl) dX4_nodes_47
  · exact (by exact absurd c1 (by decide))
set_option maxHeartbeats 4000000 in
set_option maxRecDepth 100000 in
theorem c_X4_leaf_s (l : Launch) (g : va_G) (cI cJ cZ : ClassId) (rm a1 a2 a3 a4 a5 a6 a7 a8 a9 b1 b2 b3 b4 b5 b6 b7 b8 b9 : Nat) (cd tp bl jn sn wt wm wg wo wd : Nat) (sz lf rt : Nat → Int32) (S L R : Nat → Nat) (rc : Nat → Bool) (sp0 : Nat → Bool) (rq0 nd0 : Nat → Nat) (kp ba rv bf : Nat → Nat) (i y : Nat) (v2 : Int32) (htp : 0 < tp ∧ tp < 2 ^ 31) (hR : RuleOK S L R rc tp) (hT0 : TOK tp S L R sp0 rq0) (hW0 : nW tp S L R rq0 nd0 (lvs sp0 1)) (hlen0 : (lvs sp0 1).length ≤ 14000) (hrl : rOK S L R rc sz lf rt) (hkp : ∀ j, kp j < 2 ^ 31) (hbl : bl ≤ 256) (hB : bW (adr tp S L R) rq0 bl ba rv bf) (hiy : (lvs sp0 1)[i]? = some y) (hv2 : v2 = nI 0 ∨ v2 = nI 1 ∨ v2 = nI 2) : kI l g (kty cI cJ cZ) yX4_leaf wsX4_leaf ({ frames := 1, cells := 0, slots := 0, locals := 25 }) [.ref rm, .int (nI i), .int v2] [(rm, .inr (4, [.int (nI cd), .ref a1, .ref a2, .ref a3, .ref a4, .ref a5, .ref a6, .ref a7, .ref a8, .ref a9, .int (nI tp), .int (nI ((lvs sp0 1).length)), .ref b1, .int (nI bl), .ref b2, .ref b3, .int (nI jn), .int (nI sn), .ref b4, .ref b5, .ref b6, .ref b7, .ref b8, .int (nI wt), .int (nI wm), .int (nI wg), .long (lN wo), .int (nI wd), .ref b9])), (b1, .inl (cJ, 14000, .inr (.inl (fun j => lN (nd0 j))))), (a4, .inl (cI, 25, .inl sz)), (a5, .inl (cI, 25, .inl lf)), (a6, .inl (cI, 25, .inl rt)), (a9, .inl (cI, 25, .inl (fun j => nI (kp j)))), (b2, .inl (cI, 256, .inl (fun j => nI (ba j)))), (b3, .inl (cI, 256, .inl (fun j => nI (rv j))))] (S := Unit) (fun r _ => r = if v2 = nI 0 then nI (adr tp S L R y) else if v2 = nI 1 then nI (cls tp L R y) else nI (rq0 y)) (fun u => [(rm, .inr (4, [.int (nI 0), .ref a1, .ref a2, .ref a3, .ref a4, .ref a5, .ref a6, .ref a7, .ref a8, .ref a9, .int (nI tp), .int (nI ((lvs sp0 1).length)), .ref b1, .int (nI bl), .ref b2, .ref b3, .int (nI jn), .int (nI sn), .ref b4, .ref b5, .ref b6, .ref b7, .ref b8, .int (nI wt), .int (nI wm), .int (nI wg), .long (lN wo), .int (nI wd), .ref b9])), (b1, .inl (cJ, 14000, .inr (.inl (fun j => lN (nd0 j))))), (a4, .inl (cI, 25, .inl sz)), (a5, .inl (cI, 25, .inl lf)), (a6, .inl (cI, 25, .inl rt)), (a9, .inl (cI, 25, .inl (fun j => nI (kp j)))), (b2, .inl (cI, 256, .inl (fun j => nI (ba j)))), (b3, .inl (cI, 256, .inl (fun j => nI (rv j))))]) 0 0 := by
  intro sz
  refine Met.ofW (cc := cX4_leaf) (maxL := 3) (ret := (some .int)) (by decide) rfl ?_
  intro p e s m args below meth c s₁ B hml hv
  obtain ⟨rfl, hsz, hP, hk, hD0⟩ := hv
  subst hsz
  have hx := B.exec
  have hb := B.bytes
  have hr := B.returns
  have hts := atoms_spec (ws := wsX4_leaf) B.pre
  have hown : s.vm.findClass RX4 = some m.cls := findClass_of_methodNamed B.named
  have hlocks := B.notSynchronized
  have hK := hk.1
  have hinX4 : ∀ w ∈ wsX40, w ∈ wsX4_leaf := by decide +kernel
  obtain ⟨A, hAe⟩ : ∃ A, va_A [(rm, .inr (4, [.int (nI cd), .ref a1, .ref a2, .ref a3, .ref a4, .ref a5, .ref a6, .ref a7, .ref a8, .ref a9, .int (nI tp), .int (nI ((lvs sp0 1).length)), .ref b1, .int (nI bl), .ref b2, .ref b3, .int (nI jn), .int (nI sn), .ref b4, .ref b5, .ref b6, .ref b7, .ref b8, .int (nI wt), .int (nI wm), .int (nI wg), .long (lN wo), .int (nI wd), .ref b9])), (b1, .inl (cJ, 14000, .inr (.inl (fun j => lN (nd0 j))))), (a4, .inl (cI, 25, .inl sz)), (a5, .inl (cI, 25, .inl lf)), (a6, .inl (cI, 25, .inl rt)), (a9, .inl (cI, 25, .inl (fun j => nI (kp j)))), (b2, .inl (cI, 256, .inl (fun j => nI (ba j)))), (b3, .inl (cI, 256, .inl (fun j => nI (rv j))))] s.heap.size = A := ⟨_, rfl⟩
  have hD := hD0.self (sz := s.heap.size)
  rw [hAe] at hD
  have hA : ∀ q : Nat, s.heap.size ≤ q → A q := fun q h => by rw [← hAe]; exact Or.inr h
  have hS : va_S A s.heap s.heap [] := va_S.rf
  have hl := lv_entry ([.ref rm, .int (nI i), .int v2]) (n := 3) (Nat.le_of_ble_eq_true rfl)
  rw [lg_entry_eq]
  generalize (lg_sl ([.ref rm, .int (nI i), .int v2]) ++ List.replicate (3 - (lg_sl ([.ref rm, .int (nI i), .int v2])).length) Slot.unset).toArray = ls at hl ⊢
  have hl : lv_has ls 3 [(0, .ref rm), (1, .int (nI i)), (2, .int v2)] := hl
  have hil := at_lt hiy
  obtain ⟨pp, pp_1, pp_2, pp_3, pp_4, pp_5, pp_6, pp_7, pp_8, pp_9, pp_10⟩ := nW_rd (i := i) hR hT0 hW0 hlen0 hil
  obtain rfl : y = pp := by rw [hiy] at pp_1; exact Option.some.inj pp_1
  refine lv_aload_n hx hb dX4_leaf_0 rfl (lv_at hl 0 rfl) ?_
  refine k_goI (wr := [(b1, .inl (cJ, 14000, .inr (.inl (fun j => lN (nd0 j))))), (a4, .inl (cI, 25, .inl sz)), (a5, .inl (cI, 25, .inl lf)), (a6, .inl (cI, 25, .inl rt)), (a9, .inl (cI, 25, .inl (fun j => nI (kp j)))), (b2, .inl (cI, 256, .inl (fun j => nI (ba j)))), (b3, .inl (cI, 256, .inl (fun j => nI (rv j))))]) (va_runV (As := []) (rest := []) ⟨hx, hb, hml, hown, hts⟩ (c_X4_isThere l g cI cJ cZ rm a1 a2 a3 a4 a5 a6 a7 a8 a9 b1 b2 b3 b4 b5 b6 b7 b8 b9 cd tp ((lvs sp0 1).length) bl jn sn wt wm wg wo wd  htp _) (cwV 0 hts gX4_leaf_X4_isThere rfl rfl rfl (by decide +kernel) ⟨Nat.le_of_ble_eq_true rfl, Nat.le_of_ble_eq_true rfl⟩) (k_preV hk hP hD [0] rfl rfl (ci := 4) (q0 := 0) rfl rfl) rfl rfl hl.1 rfl (lv_room (Nat.le_of_ble_eq_true rfl)) dX4_leaf_1 ⟨by first | exact Nat.zero_le _ | omega, by first | exact Nat.zero_le _ | omega⟩) hP hD hS hA [0] [1, 2, 3, 4, 5, 6, 7] rfl rfl rfl (by decide) (fun rv _ H locs hu hP hD hS => ?_)
  subst hu
  have hP : va_P g vwCl [(b1, .inl (cJ, 14000, .inr (.inl (fun j => lN (nd0 j))))), (a4, .inl (cI, 25, .inl sz)), (a5, .inl (cI, 25, .inl lf)), (a6, .inl (cI, 25, .inl rt)), (a9, .inl (cI, 25, .inl (fun j => nI (kp j)))), (b2, .inl (cI, 256, .inl (fun j => nI (ba j)))), (b3, .inl (cI, 256, .inl (fun j => nI (rv j)))), (rm, .inr (4, [.int (nI 0), .ref a1, .ref a2, .ref a3, .ref a4, .ref a5, .ref a6, .ref a7, .ref a8, .ref a9, .int (nI tp), .int (nI ((lvs sp0 1).length)), .ref b1, .int (nI bl), .ref b2, .ref b3, .int (nI jn), .int (nI sn), .ref b4, .ref b5, .ref b6, .ref b7, .ref b8, .int (nI wt), .int (nI wm), .int (nI wg), .long (lN wo), .int (nI wd), .ref b9]))] H := hP
  have hD : va_D A [(b1, .inl (cJ, 14000, .inr (.inl (fun j => lN (nd0 j))))), (a4, .inl (cI, 25, .inl sz)), (a5, .inl (cI, 25, .inl lf)), (a6, .inl (cI, 25, .inl rt)), (a9, .inl (cI, 25, .inl (fun j => nI (kp j)))), (b2, .inl (cI, 256, .inl (fun j => nI (ba j)))), (b3, .inl (cI, 256, .inl (fun j => nI (rv j)))), (rm, .inr (4, [.int (nI 0), .ref a1, .ref a2, .ref a3, .ref a4, .ref a5, .ref a6, .ref a7, .ref a8, .ref a9, .int (nI tp), .int (nI ((lvs sp0 1).length)), .ref b1, .int (nI bl), .ref b2, .ref b3, .int (nI jn), .int (nI sn), .ref b4, .ref b5, .ref b6, .ref b7, .ref b8, .int (nI wt), .int (nI wm), .int (nI wg), .long (lN wo), .int (nI wd), .ref b9]))] := hD
  refine n_if_ne (tgt := 9) hx hb dX4_leaf_4 (by decide) (by first | assumption | omega) (fun c1 => ?_) (fun c1 => ?_)
  · skip
    refine lv_iload_n hx hb dX4_leaf_9 rfl (lv_at hl 1 rfl) ?_
    refine lv_i2l hx hb dX4_leaf_10 (nI_l (by omega)) ?_
    refine lv_lconst (v := lN 0) hx hb dX4_leaf_11 (by decide) ?_
    refine lv_aload_n hx hb dX4_leaf_12 rfl (lv_at hl 0 rfl) ?_
    refine va_get (D := g) (ci := 4) (v := .int (nI ((lvs sp0 1).length))) (C := RX4) (T := TX4) (N := 29) hx hb hts hinX4 hown hK hP 7 rfl rfl 11 (by decide) (hts (.fieldLink RX4 96 "BuddyRoofModel" "many" "I") (by decide +kernel)) (fun _ h9 => h9) rfl dX4_leaf_13 ?_
    refine lv_iconst (v := nI 1) hx hb dX4_leaf_16 (by decide) ?_
    refine n_isub hx hb dX4_leaf_17 (by omega) ?_
    refine lv_i2l hx hb dX4_leaf_18 (nI_l (by omega)) ?_
    refine k_goR (W.runS (As := [.long (lN i), .long (lN 0), .long (lN (((lvs sp0 1).length) - 1))]) (rest := []) ⟨hx, hb, hml, hown, hts⟩ (c_X4_in l g cI cJ cZ  (lN i) (lN 0) (lN ((lvs sp0 1).length - 1)) ) (va_cwS 3 hts gX4_leaf_X4_in rfl rfl rfl (by decide +kernel) ⟨Nat.le_of_ble_eq_true rfl, Nat.le_of_ble_eq_true rfl⟩) (k_preRS hk hP [] rfl) rfl rfl hl.1 rfl (lv_room (Nat.le_of_ble_eq_true rfl)) dX4_leaf_19 ⟨by first | exact Nat.zero_le _ | omega, by first | exact Nat.zero_le _ | omega⟩) ?_
    refine n_top _ (bI (0 ≤ i ∧ i ≤ (lvs sp0 1).length - 1)) (bI_c (in_n (by omega) (by decide) (by omega))) ?_
    refine k_ifeq (tgt := 37) hx hb dX4_leaf_22 (by decide) (fun c2 => ?_) (fun c2 => ?_)
    · exact (by exact absurd ⟨Nat.zero_le _, by omega⟩ c2)
    · skip
      refine lv_iload_n hx hb dX4_leaf_25 rfl (lv_at hl 2 rfl) ?_
      refine lv_i2l hx hb dX4_leaf_26 rfl ?_
      refine lv_lconst (v := lN 0) hx hb dX4_leaf_27 (by decide) ?_
      refine lv_ldc2 hx hb (v := 2) hown (hts (.constantLong RX4 76 2) (by decide +kernel)) dX4_leaf_28 ?_
      refine n_topl _ (lN 2) (by decide) ?_
      refine k_goR (W.runS (As := [.long ((v2).toInt64), .long (lN 0), .long (lN 2)]) (rest := []) ⟨hx, hb, hml, hown, hts⟩ (c_X4_in l g cI cJ cZ  (v2).toInt64 (lN 0) (lN 2) ) (va_cwS 3 hts gX4_leaf_X4_in rfl rfl rfl (by decide +kernel) ⟨Nat.le_of_ble_eq_true rfl, Nat.le_of_ble_eq_true rfl⟩) (k_preRS hk hP [] rfl) rfl rfl hl.1 rfl (lv_room (Nat.le_of_ble_eq_true rfl)) dX4_leaf_31 ⟨by first | exact Nat.zero_le _ | omega, by first | exact Nat.zero_le _ | omega⟩) ?_
      refine n_top _ (bI (nI 0 ≤ v2 ∧ v2 ≤ nI 2)) (bI_c (in_i (by decide) (by decide))) ?_
      refine k_ifne (tgt := 39) hx hb dX4_leaf_34 (by decide) (fun c3 => ?_) (fun c3 => ?_)
      · skip
        refine lv_iload_n hx hb dX4_leaf_39 rfl (lv_at hl 2 rfl) ?_
        refine lv_if_ne (tgt := 49) hx hb dX4_leaf_40 (by decide) (fun c4 => ?_) (fun c4 => ?_)
        · skip
          refine lv_iload_n hx hb dX4_leaf_49 rfl (lv_at hl 2 rfl) ?_
          refine lv_iconst (v := nI 1) hx hb dX4_leaf_50 (by decide) ?_
          refine lv_icmp_ne (tgt := 60) hx hb dX4_leaf_51 (by decide) (fun c5 => ?_) (fun c5 => ?_)
          · skip
            refine lv_aload_n hx hb dX4_leaf_60 rfl (lv_at hl 0 rfl) ?_
            refine lv_iload_n hx hb dX4_leaf_61 rfl (lv_at hl 1 rfl) ?_
            refine k_goR (W.runV (As := [.int (nI i)]) (rest := []) ⟨hx, hb, hml, hown, hts⟩ (c_X4_isLive l g cI cJ cZ rm a1 a2 a3 a4 a5 a6 a7 a8 a9 b1 b2 b3 b4 b5 b6 b7 b8 b9 0 tp ((lvs sp0 1).length) bl jn sn wt wm wg wo wd nd0 i pp_4 pp_5) (cwV 1 hts gX4_leaf_X4_isLive rfl rfl rfl (by decide +kernel) ⟨Nat.le_of_ble_eq_true rfl, Nat.le_of_ble_eq_true rfl⟩) (k_preRV hk hP [7, 0] rfl (ci := 4) (q0 := 0) rfl rfl) rfl rfl hl.1 rfl (lv_room (Nat.le_of_ble_eq_true rfl)) dX4_leaf_62 ⟨by first | exact Nat.zero_le _ | omega, by first | exact Nat.zero_le _ | omega⟩) ?_
            refine n_top _ (bI (0 < rq0 y)) (bI_c pp_7) ?_
            refine k_ifeq (tgt := 85) hx hb dX4_leaf_65 (by decide) (fun c6 => ?_) (fun c6 => ?_)
            · skip
              refine lv_iconst (v := nI 0) hx hb dX4_leaf_85 (by decide) ?_
              have hP := hP.sub (ws' := [(rm, .inr (4, [.int (nI 0), .ref a1, .ref a2, .ref a3, .ref a4, .ref a5, .ref a6, .ref a7, .ref a8, .ref a9, .int (nI tp), .int (nI ((lvs sp0 1).length)), .ref b1, .int (nI bl), .ref b2, .ref b3, .int (nI jn), .int (nI sn), .ref b4, .ref b5, .ref b6, .ref b7, .ref b8, .int (nI wt), .int (nI wm), .int (nI wg), .long (lN wo), .int (nI wd), .ref b9])), (b1, .inl (cJ, 14000, .inr (.inl (fun j => lN (nd0 j))))), (a4, .inl (cI, 25, .inl sz)), (a5, .inl (cI, 25, .inl lf)), (a6, .inl (cI, 25, .inl rt)), (a9, .inl (cI, 25, .inl (fun j => nI (kp j)))), (b2, .inl (cI, 256, .inl (fun j => nI (ba j)))), (b3, .inl (cI, 256, .inl (fun j => nI (rv j))))]) [7, 0, 1, 2, 3, 4, 5, 6] rfl
              have hD := hD.sub (ws' := [(rm, .inr (4, [.int (nI 0), .ref a1, .ref a2, .ref a3, .ref a4, .ref a5, .ref a6, .ref a7, .ref a8, .ref a9, .int (nI tp), .int (nI ((lvs sp0 1).length)), .ref b1, .int (nI bl), .ref b2, .ref b3, .int (nI jn), .int (nI sn), .ref b4, .ref b5, .ref b6, .ref b7, .ref b8, .int (nI wt), .int (nI wm), .int (nI wg), .long (lN wo), .int (nI wd), .ref b9])), (b1, .inl (cJ, 14000, .inr (.inl (fun j => lN (nd0 j))))), (a4, .inl (cI, 25, .inl sz)), (a5, .inl (cI, 25, .inl lf)), (a6, .inl (cI, 25, .inl rt)), (a9, .inl (cI, 25, .inl (fun j => nI (kp j)))), (b2, .inl (cI, 256, .inl (fun j => nI (ba j)))), (b3, .inl (cI, 256, .inl (fun j => nI (rv j))))]) [7, 0, 1, 2, 3, 4, 5, 6] rfl rfl
              refine W.widen (k := 0) (n := 0) (by first | exact Nat.le_refl _ | omega) (by first | exact Nat.le_refl _ | omega) ?_
              exact k_retI (sz := 0) (v := nI 0) hx hb hr hlocks hAe hS hP hD () (rfl) (by rw [if_neg (by rw [nI_0]; exact c4), if_neg c5, show rq0 y = 0 by omega]) dX4_leaf_86
            · skip
              have hry := c6
              obtain ⟨b0, hb0, hb2, hb3, hb4, hba, hbr⟩ := bW_y hR hT0 hB hry
              refine lv_aload_n hx hb dX4_leaf_68 rfl (lv_at hl 0 rfl) ?_
              refine va_get (D := g) (ci := 4) (v := .ref b3) (C := RX4) (T := TX4) (N := 29) hx hb hts hinX4 hown hK hP 7 rfl rfl 15 (by decide) (hts (.fieldLink RX4 45 "BuddyRoofModel" "request" "[I") (by decide +kernel)) (fun _ h9 => h9) rfl dX4_leaf_69 ?_
              refine lv_aload_n hx hb dX4_leaf_72 rfl (lv_at hl 0 rfl) ?_
              refine lv_aload_n hx hb dX4_leaf_73 rfl (lv_at hl 0 rfl) ?_
              refine lv_iload_n hx hb dX4_leaf_74 rfl (lv_at hl 1 rfl) ?_
              refine k_goR (W.runV (As := [.int (nI i)]) (rest := [.ref rm, .ref b3]) ⟨hx, hb, hml, hown, hts⟩ (c_X4_address l g cI cJ cZ rm a1 a2 a3 a4 a5 a6 a7 a8 a9 b1 b2 b3 b4 b5 b6 b7 b8 b9 0 tp ((lvs sp0 1).length) bl jn sn wt wm wg wo wd nd0 i pp_4 pp_5) (cwV 1 hts gX4_leaf_X4_address rfl rfl rfl (by decide +kernel) ⟨Nat.le_of_ble_eq_true rfl, Nat.le_of_ble_eq_true rfl⟩) (k_preRV hk hP [7, 0] rfl (ci := 4) (q0 := 0) rfl rfl) rfl rfl hl.1 rfl (lv_room (Nat.le_of_ble_eq_true rfl)) dX4_leaf_75 ⟨by first | exact Nat.zero_le _ | omega, by first | exact Nat.zero_le _ | omega⟩) ?_
              refine n_top _ (nI (adr tp S L R y)) (congrArg nI pp_6) ?_
              refine k_goR (W.runV (As := [.int (nI (adr tp S L R y))]) (rest := [.ref b3]) ⟨hx, hb, hml, hown, hts⟩ (c_X4_blockOf l g cI cJ cZ rm a1 a2 a3 a4 a5 a6 a7 a8 a9 b1 b2 b3 b4 b5 b6 b7 b8 b9 0 tp ((lvs sp0 1).length) bl jn sn wt wm wg wo wd ba (nI (adr tp S L R y)) b0 hbl hb0 hb3 hb4) (cwV 1 hts gX4_leaf_X4_blockOf rfl rfl rfl (by decide +kernel) ⟨Nat.le_of_ble_eq_true rfl, Nat.le_of_ble_eq_true rfl⟩) (k_preRV hk hP [7, 5] rfl (ci := 4) (q0 := 0) rfl rfl) rfl rfl hl.1 rfl (lv_room (Nat.le_of_ble_eq_true rfl)) dX4_leaf_78 ⟨by first | exact Nat.zero_le _ | omega, by first | exact Nat.zero_le _ | omega⟩) ?_
              refine n_ald (v := nI (rq0 y)) hx hb hK hP 6 0 rfl rfl (i := b0) (by omega) (by decide) (by rw [hbr]) dX4_leaf_81 ?_
              refine lv_goto (tgt := 86) hx hb dX4_leaf_82 (by decide) ?_
              have hP := hP.sub (ws' := [(rm, .inr (4, [.int (nI 0), .ref a1, .ref a2, .ref a3, .ref a4, .ref a5, .ref a6, .ref a7, .ref a8, .ref a9, .int (nI tp), .int (nI ((lvs sp0 1).length)), .ref b1, .int (nI bl), .ref b2, .ref b3, .int (nI jn), .int (nI sn), .ref b4, .ref b5, .ref b6, .ref b7, .ref b8, .int (nI wt), .int (nI wm), .int (nI wg), .long (lN wo), .int (nI wd), .ref b9])), (b1, .inl (cJ, 14000, .inr (.inl (fun j => lN (nd0 j))))), (a4, .inl (cI, 25, .inl sz)), (a5, .inl (cI, 25, .inl lf)), (a6, .inl (cI, 25, .inl rt)), (a9, .inl (cI, 25, .inl (fun j => nI (kp j)))), (b2, .inl (cI, 256, .inl (fun j => nI (ba j)))), (b3, .inl (cI, 256, .inl (fun j => nI (rv j))))]) [7, 0, 1, 2, 3, 4, 5, 6] rfl
              have hD := hD.sub (ws' := [(rm, .inr (4, [.int (nI 0), .ref a1, .ref a2, .ref a3, .ref a4, .ref a5, .ref a6, .ref a7, .ref a8, .ref a9, .int (nI tp), .int (nI ((lvs sp0 1).length)), .ref b1, .int (nI bl), .ref b2, .ref b3, .int (nI jn), .int (nI sn), .ref b4, .ref b5, .ref b6, .ref b7, .ref b8, .int (nI wt), .int (nI wm), .int (nI wg), .long (lN wo), .int (nI wd), .ref b9])), (b1, .inl (cJ, 14000, .inr (.inl (fun j => lN (nd0 j))))), (a4, .inl (cI, 25, .inl sz)), (a5, .inl (cI, 25, .inl lf)), (a6, .inl (cI, 25, .inl rt)), (a9, .inl (cI, 25, .inl (fun j => nI (kp j)))), (b2, .inl (cI, 256, .inl (fun j => nI (ba j)))), (b3, .inl (cI, 256, .inl (fun j => nI (rv j))))]) [7, 0, 1, 2, 3, 4, 5, 6] rfl rfl
              refine W.widen (k := 0) (n := 0) (by first | exact Nat.le_refl _ | omega) (by first | exact Nat.le_refl _ | omega) ?_
              exact k_retI (sz := 0) (v := nI (rq0 y)) hx hb hr hlocks hAe hS hP hD () (rfl) (by rw [if_neg (by rw [nI_0]; exact c4), if_neg c5]) dX4_leaf_86
          · skip
            refine lv_aload_n hx hb dX4_leaf_54 rfl (lv_at hl 0 rfl) ?_
            refine lv_iload_n hx hb dX4_leaf_55 rfl (lv_at hl 1 rfl) ?_
            refine k_goR (W.runV (As := [.int (nI i)]) (rest := []) ⟨hx, hb, hml, hown, hts⟩ (c_X4_classOf l g cI cJ cZ rm a1 a2 a3 a4 a5 a6 a7 a8 a9 b1 b2 b3 b4 b5 b6 b7 b8 b9 0 tp ((lvs sp0 1).length) bl jn sn wt wm wg wo wd nd0 i pp_4 pp_5) (cwV 1 hts gX4_leaf_X4_classOf rfl rfl rfl (by decide +kernel) ⟨Nat.le_of_ble_eq_true rfl, Nat.le_of_ble_eq_true rfl⟩) (k_preRV hk hP [7, 0] rfl (ci := 4) (q0 := 0) rfl rfl) rfl rfl hl.1 rfl (lv_room (Nat.le_of_ble_eq_true rfl)) dX4_leaf_56 ⟨by first | exact Nat.zero_le _ | omega, by first | exact Nat.zero_le _ | omega⟩) ?_
            refine n_top _ (nI (cls tp L R y)) (congrArg nI pp_8) ?_
            have hP := hP.sub (ws' := [(rm, .inr (4, [.int (nI 0), .ref a1, .ref a2, .ref a3, .ref a4, .ref a5, .ref a6, .ref a7, .ref a8, .ref a9, .int (nI tp), .int (nI ((lvs sp0 1).length)), .ref b1, .int (nI bl), .ref b2, .ref b3, .int (nI jn), .int (nI sn), .ref b4, .ref b5, .ref b6, .ref b7, .ref b8, .int (nI wt), .int (nI wm), .int (nI wg), .long (lN wo), .int (nI wd), .ref b9])), (b1, .inl (cJ, 14000, .inr (.inl (fun j => lN (nd0 j))))), (a4, .inl (cI, 25, .inl sz)), (a5, .inl (cI, 25, .inl lf)), (a6, .inl (cI, 25, .inl rt)), (a9, .inl (cI, 25, .inl (fun j => nI (kp j)))), (b2, .inl (cI, 256, .inl (fun j => nI (ba j)))), (b3, .inl (cI, 256, .inl (fun j => nI (rv j))))]) [7, 0, 1, 2, 3, 4, 5, 6] rfl
            have hD := hD.sub (ws' := [(rm, .inr (4, [.int (nI 0), .ref a1, .ref a2, .ref a3, .ref a4, .ref a5, .ref a6, .ref a7, .ref a8, .ref a9, .int (nI tp), .int (nI ((lvs sp0 1).length)), .ref b1, .int (nI bl), .ref b2, .ref b3, .int (nI jn), .int (nI sn), .ref b4, .ref b5, .ref b6, .ref b7, .ref b8, .int (nI wt), .int (nI wm), .int (nI wg), .long (lN wo), .int (nI wd), .ref b9])), (b1, .inl (cJ, 14000, .inr (.inl (fun j => lN (nd0 j))))), (a4, .inl (cI, 25, .inl sz)), (a5, .inl (cI, 25, .inl lf)), (a6, .inl (cI, 25, .inl rt)), (a9, .inl (cI, 25, .inl (fun j => nI (kp j)))), (b2, .inl (cI, 256, .inl (fun j => nI (ba j)))), (b3, .inl (cI, 256, .inl (fun j => nI (rv j))))]) [7, 0, 1, 2, 3, 4, 5, 6] rfl rfl
            refine W.widen (k := 0) (n := 0) (by first | exact Nat.le_refl _ | omega) (by first | exact Nat.le_refl _ | omega) ?_
            exact k_retI (sz := 0) (v := nI (cls tp L R y)) hx hb hr hlocks hAe hS hP hD () (rfl) (by rw [if_neg (by rw [nI_0]; exact c4), if_pos c5]) dX4_leaf_59
        · skip
          refine lv_aload_n hx hb dX4_leaf_43 rfl (lv_at hl 0 rfl) ?_
          refine lv_iload_n hx hb dX4_leaf_44 rfl (lv_at hl 1 rfl) ?_
          refine k_goR (W.runV (As := [.int (nI i)]) (rest := []) ⟨hx, hb, hml, hown, hts⟩ (c_X4_address l g cI cJ cZ rm a1 a2 a3 a4 a5 a6 a7 a8 a9 b1 b2 b3 b4 b5 b6 b7 b8 b9 0 tp ((lvs sp0 1).length) bl jn sn wt wm wg wo wd nd0 i pp_4 pp_5) (cwV 1 hts gX4_leaf_X4_address rfl rfl rfl (by decide +kernel) ⟨Nat.le_of_ble_eq_true rfl, Nat.le_of_ble_eq_true rfl⟩) (k_preRV hk hP [7, 0] rfl (ci := 4) (q0 := 0) rfl rfl) rfl rfl hl.1 rfl (lv_room (Nat.le_of_ble_eq_true rfl)) dX4_leaf_45 ⟨by first | exact Nat.zero_le _ | omega, by first | exact Nat.zero_le _ | omega⟩) ?_
          refine n_top _ (nI (adr tp S L R y)) (congrArg nI pp_6) ?_
          have hP := hP.sub (ws' := [(rm, .inr (4, [.int (nI 0), .ref a1, .ref a2, .ref a3, .ref a4, .ref a5, .ref a6, .ref a7, .ref a8, .ref a9, .int (nI tp), .int (nI ((lvs sp0 1).length)), .ref b1, .int (nI bl), .ref b2, .ref b3, .int (nI jn), .int (nI sn), .ref b4, .ref b5, .ref b6, .ref b7, .ref b8, .int (nI wt), .int (nI wm), .int (nI wg), .long (lN wo), .int (nI wd), .ref b9])), (b1, .inl (cJ, 14000, .inr (.inl (fun j => lN (nd0 j))))), (a4, .inl (cI, 25, .inl sz)), (a5, .inl (cI, 25, .inl lf)), (a6, .inl (cI, 25, .inl rt)), (a9, .inl (cI, 25, .inl (fun j => nI (kp j)))), (b2, .inl (cI, 256, .inl (fun j => nI (ba j)))), (b3, .inl (cI, 256, .inl (fun j => nI (rv j))))]) [7, 0, 1, 2, 3, 4, 5, 6] rfl
          have hD := hD.sub (ws' := [(rm, .inr (4, [.int (nI 0), .ref a1, .ref a2, .ref a3, .ref a4, .ref a5, .ref a6, .ref a7, .ref a8, .ref a9, .int (nI tp), .int (nI ((lvs sp0 1).length)), .ref b1, .int (nI bl), .ref b2, .ref b3, .int (nI jn), .int (nI sn), .ref b4, .ref b5, .ref b6, .ref b7, .ref b8, .int (nI wt), .int (nI wm), .int (nI wg), .long (lN wo), .int (nI wd), .ref b9])), (b1, .inl (cJ, 14000, .inr (.inl (fun j => lN (nd0 j))))), (a4, .inl (cI, 25, .inl sz)), (a5, .inl (cI, 25, .inl lf)), (a6, .inl (cI, 25, .inl rt)), (a9, .inl (cI, 25, .inl (fun j => nI (kp j)))), (b2, .inl (cI, 256, .inl (fun j => nI (ba j)))), (b3, .inl (cI, 256, .inl (fun j => nI (rv j))))]) [7, 0, 1, 2, 3, 4, 5, 6] rfl rfl
          refine W.widen (k := 0) (n := 0) (by first | exact Nat.le_refl _ | omega) (by first | exact Nat.le_refl _ | omega) ?_
          exact k_retI (sz := 0) (v := nI (adr tp S L R y)) hx hb hr hlocks hAe hS hP hD () (rfl) (by rw [if_pos (by rw [nI_0]; exact c4)]) dX4_leaf_48
      · exact (by rcases hv2 with q | q | q <;> exact absurd (by rw [q]; decide) c3)
  · exact (by exact absurd c1 (by decide))
set_option maxHeartbeats 4000000 in
set_option maxRecDepth 100000 in
theorem c_X4_leaf_e (l : Launch) (g : va_G) (cI cJ cZ : ClassId) (rm a1 a2 a3 a4 a5 a6 a7 a8 a9 b1 b2 b3 b4 b5 b6 b7 b8 b9 : Nat) (cd tp mn bl jn sn wt wm wg wo wd : Nat) (v v2 : Int32) (htp : 0 < tp ∧ tp < 2 ^ 31) (hmn : 1 ≤ mn ∧ mn ≤ 14000) (hbad : ¬ ((nI 0 ≤ v ∧ v ≤ nI (mn - 1)) ∧ (nI 0 ≤ v2 ∧ v2 ≤ nI 2))) : kI l g (kty cI cJ cZ) yX4_leaf wsX4_leaf ({ frames := 1, cells := 0, slots := 0, locals := 25 }) [.ref rm, .int v, .int v2] [(rm, .inr (4, [.int (nI cd), .ref a1, .ref a2, .ref a3, .ref a4, .ref a5, .ref a6, .ref a7, .ref a8, .ref a9, .int (nI tp), .int (nI mn), .ref b1, .int (nI bl), .ref b2, .ref b3, .int (nI jn), .int (nI sn), .ref b4, .ref b5, .ref b6, .ref b7, .ref b8, .int (nI wt), .int (nI wm), .int (nI wg), .long (lN wo), .int (nI wd), .ref b9]))] (S := Unit) (fun r _ => r = -1) (fun u => [(rm, .inr (4, [.int (nI 0), .ref a1, .ref a2, .ref a3, .ref a4, .ref a5, .ref a6, .ref a7, .ref a8, .ref a9, .int (nI tp), .int (nI mn), .ref b1, .int (nI bl), .ref b2, .ref b3, .int (nI jn), .int (nI sn), .ref b4, .ref b5, .ref b6, .ref b7, .ref b8, .int (nI wt), .int (nI wm), .int (nI wg), .long (lN wo), .int (nI wd), .ref b9]))]) 0 0 := by
  intro sz
  refine Met.ofW (cc := cX4_leaf) (maxL := 3) (ret := (some .int)) (by decide) rfl ?_
  intro p e s m args below meth c s₁ B hml hv
  obtain ⟨rfl, hsz, hP, hk, hD0⟩ := hv
  subst hsz
  have hx := B.exec
  have hb := B.bytes
  have hr := B.returns
  have hts := atoms_spec (ws := wsX4_leaf) B.pre
  have hown : s.vm.findClass RX4 = some m.cls := findClass_of_methodNamed B.named
  have hlocks := B.notSynchronized
  have hK := hk.1
  have hinX4 : ∀ w ∈ wsX40, w ∈ wsX4_leaf := by decide +kernel
  obtain ⟨A, hAe⟩ : ∃ A, va_A [(rm, .inr (4, [.int (nI cd), .ref a1, .ref a2, .ref a3, .ref a4, .ref a5, .ref a6, .ref a7, .ref a8, .ref a9, .int (nI tp), .int (nI mn), .ref b1, .int (nI bl), .ref b2, .ref b3, .int (nI jn), .int (nI sn), .ref b4, .ref b5, .ref b6, .ref b7, .ref b8, .int (nI wt), .int (nI wm), .int (nI wg), .long (lN wo), .int (nI wd), .ref b9]))] s.heap.size = A := ⟨_, rfl⟩
  have hD := hD0.self (sz := s.heap.size)
  rw [hAe] at hD
  have hA : ∀ q : Nat, s.heap.size ≤ q → A q := fun q h => by rw [← hAe]; exact Or.inr h
  have hS : va_S A s.heap s.heap [] := va_S.rf
  have hl := lv_entry ([.ref rm, .int v, .int v2]) (n := 3) (Nat.le_of_ble_eq_true rfl)
  rw [lg_entry_eq]
  generalize (lg_sl ([.ref rm, .int v, .int v2]) ++ List.replicate (3 - (lg_sl ([.ref rm, .int v, .int v2])).length) Slot.unset).toArray = ls at hl ⊢
  have hl : lv_has ls 3 [(0, .ref rm), (1, .int v), (2, .int v2)] := hl
  refine lv_aload_n hx hb dX4_leaf_0 rfl (lv_at hl 0 rfl) ?_
  refine k_goI (wr := []) (va_runV (As := []) (rest := []) ⟨hx, hb, hml, hown, hts⟩ (c_X4_isThere l g cI cJ cZ rm a1 a2 a3 a4 a5 a6 a7 a8 a9 b1 b2 b3 b4 b5 b6 b7 b8 b9 cd tp mn bl jn sn wt wm wg wo wd  htp _) (cwV 0 hts gX4_leaf_X4_isThere rfl rfl rfl (by decide +kernel) ⟨Nat.le_of_ble_eq_true rfl, Nat.le_of_ble_eq_true rfl⟩) (k_preV hk hP hD [0] rfl rfl (ci := 4) (q0 := 0) rfl rfl) rfl rfl hl.1 rfl (lv_room (Nat.le_of_ble_eq_true rfl)) dX4_leaf_1 ⟨by first | exact Nat.zero_le _ | omega, by first | exact Nat.zero_le _ | omega⟩) hP hD hS hA [0] [] rfl rfl rfl (by decide) (fun rv _ H locs hu hP hD hS => ?_)
  subst hu
  have hP : va_P g vwCl [(rm, .inr (4, [.int (nI 0), .ref a1, .ref a2, .ref a3, .ref a4, .ref a5, .ref a6, .ref a7, .ref a8, .ref a9, .int (nI tp), .int (nI mn), .ref b1, .int (nI bl), .ref b2, .ref b3, .int (nI jn), .int (nI sn), .ref b4, .ref b5, .ref b6, .ref b7, .ref b8, .int (nI wt), .int (nI wm), .int (nI wg), .long (lN wo), .int (nI wd), .ref b9]))] H := hP
  have hD : va_D A [(rm, .inr (4, [.int (nI 0), .ref a1, .ref a2, .ref a3, .ref a4, .ref a5, .ref a6, .ref a7, .ref a8, .ref a9, .int (nI tp), .int (nI mn), .ref b1, .int (nI bl), .ref b2, .ref b3, .int (nI jn), .int (nI sn), .ref b4, .ref b5, .ref b6, .ref b7, .ref b8, .int (nI wt), .int (nI wm), .int (nI wg), .long (lN wo), .int (nI wd), .ref b9]))] := hD
  refine n_if_ne (tgt := 9) hx hb dX4_leaf_4 (by decide) (by first | assumption | omega) (fun c1 => ?_) (fun c1 => ?_)
  · skip
    refine lv_iload_n hx hb dX4_leaf_9 rfl (lv_at hl 1 rfl) ?_
    refine lv_i2l hx hb dX4_leaf_10 rfl ?_
    refine lv_lconst (v := lN 0) hx hb dX4_leaf_11 (by decide) ?_
    refine lv_aload_n hx hb dX4_leaf_12 rfl (lv_at hl 0 rfl) ?_
    refine va_get (D := g) (ci := 4) (v := .int (nI mn)) (C := RX4) (T := TX4) (N := 29) hx hb hts hinX4 hown hK hP 0 rfl rfl 11 (by decide) (hts (.fieldLink RX4 96 "BuddyRoofModel" "many" "I") (by decide +kernel)) (fun _ h9 => h9) rfl dX4_leaf_13 ?_
    refine lv_iconst (v := nI 1) hx hb dX4_leaf_16 (by decide) ?_
    refine n_isub hx hb dX4_leaf_17 (by omega) ?_
    refine lv_i2l hx hb dX4_leaf_18 (nI_l (by omega)) ?_
    refine k_goR (W.runS (As := [.long ((v).toInt64), .long (lN 0), .long (lN (mn - 1))]) (rest := []) ⟨hx, hb, hml, hown, hts⟩ (c_X4_in l g cI cJ cZ  (v).toInt64 (lN 0) (lN (mn - 1)) ) (va_cwS 3 hts gX4_leaf_X4_in rfl rfl rfl (by decide +kernel) ⟨Nat.le_of_ble_eq_true rfl, Nat.le_of_ble_eq_true rfl⟩) (k_preRS hk hP [] rfl) rfl rfl hl.1 rfl (lv_room (Nat.le_of_ble_eq_true rfl)) dX4_leaf_19 ⟨by first | exact Nat.zero_le _ | omega, by first | exact Nat.zero_le _ | omega⟩) ?_
    refine n_top _ (bI (nI 0 ≤ v ∧ v ≤ nI (mn - 1))) (bI_c (in_i (by decide) (by omega))) ?_
    refine k_ifeq (tgt := 37) hx hb dX4_leaf_22 (by decide) (fun c2 => ?_) (fun c2 => ?_)
    · skip
      refine lv_iconst (v := (-1)) hx hb dX4_leaf_37 (by decide) ?_
      refine W.widen (k := 0) (n := 0) (by first | exact Nat.le_refl _ | omega) (by first | exact Nat.le_refl _ | omega) ?_
      exact k_retI (sz := 0) (v := -1) hx hb hr hlocks hAe hS hP hD () (rfl) (rfl) dX4_leaf_38
    · skip
      refine lv_iload_n hx hb dX4_leaf_25 rfl (lv_at hl 2 rfl) ?_
      refine lv_i2l hx hb dX4_leaf_26 rfl ?_
      refine lv_lconst (v := lN 0) hx hb dX4_leaf_27 (by decide) ?_
      refine lv_ldc2 hx hb (v := 2) hown (hts (.constantLong RX4 76 2) (by decide +kernel)) dX4_leaf_28 ?_
      refine n_topl _ (lN 2) (by decide) ?_
      refine k_goR (W.runS (As := [.long ((v2).toInt64), .long (lN 0), .long (lN 2)]) (rest := []) ⟨hx, hb, hml, hown, hts⟩ (c_X4_in l g cI cJ cZ  (v2).toInt64 (lN 0) (lN 2) ) (va_cwS 3 hts gX4_leaf_X4_in rfl rfl rfl (by decide +kernel) ⟨Nat.le_of_ble_eq_true rfl, Nat.le_of_ble_eq_true rfl⟩) (k_preRS hk hP [] rfl) rfl rfl hl.1 rfl (lv_room (Nat.le_of_ble_eq_true rfl)) dX4_leaf_31 ⟨by first | exact Nat.zero_le _ | omega, by first | exact Nat.zero_le _ | omega⟩) ?_
      refine n_top _ (bI (nI 0 ≤ v2 ∧ v2 ≤ nI 2)) (bI_c (in_i (by decide) (by decide))) ?_
      refine k_ifne (tgt := 39) hx hb dX4_leaf_34 (by decide) (fun c3 => ?_) (fun c3 => ?_)
      · exact (by exact absurd ⟨c2, c3⟩ hbad)
      · skip
        refine lv_iconst (v := (-1)) hx hb dX4_leaf_37 (by decide) ?_
        refine W.widen (k := 0) (n := 0) (by first | exact Nat.le_refl _ | omega) (by first | exact Nat.le_refl _ | omega) ?_
        exact k_retI (sz := 0) (v := -1) hx hb hr hlocks hAe hS hP hD () (rfl) (rfl) dX4_leaf_38
  · exact (by exact absurd c1 (by decide))
set_option maxHeartbeats 4000000 in
set_option maxRecDepth 100000 in
theorem c_X4_leftOf (l : Launch) (g : va_G) (cI cJ cZ : ClassId) (kd j : Nat) (hkd : kd ≤ 2) (hj : 1 ≤ j ∧ j ≤ 24) : kR l g (kty cI cJ cZ) yX4_leftOf wsX4_leftOf ({ frames := 0, cells := 0, slots := 0, locals := 0 }) [.int (nI kd), .int (nI j)] [] (nI (if kd + 1 < j then j - 1 else 0)) := by
  refine Met.ofW (cc := cX4_leftOf) (maxL := 2) (ret := (some .int)) (by decide) rfl ?_
  intro p e s m args below meth c s₁ B hml hv
  obtain ⟨rfl, hP, hk⟩ := hv
  have hx := B.exec
  have hb := B.bytes
  have hr := B.returns
  have hts := atoms_spec (ws := wsX4_leftOf) B.pre
  have hown : s.vm.findClass RX4 = some m.cls := findClass_of_methodNamed B.named
  have hlocks := B.notSynchronized
  have hK := hk.1
  have hl := lv_entry ([.int (nI kd), .int (nI j)]) (n := 2) (Nat.le_of_ble_eq_true rfl)
  rw [lg_entry_eq]
  generalize (lg_sl ([.int (nI kd), .int (nI j)]) ++ List.replicate (2 - (lg_sl ([.int (nI kd), .int (nI j)])).length) Slot.unset).toArray = ls at hl ⊢
  have hl : lv_has ls 2 [(0, .int (nI kd)), (1, .int (nI j))] := hl
  refine lv_iload_n hx hb dX4_leftOf_0 rfl (lv_at hl 0 rfl) ?_
  refine n_if_ne (tgt := 8) hx hb dX4_leftOf_1 (by decide) (by first | assumption | omega) (fun c1 => ?_) (fun c1 => ?_)
  · skip
    refine lv_iload_n hx hb dX4_leftOf_8 rfl (lv_at hl 0 rfl) ?_
    refine lv_iconst (v := nI 1) hx hb dX4_leftOf_9 (by decide) ?_
    refine n_icmp_ne (tgt := 26) hx hb dX4_leftOf_10 (by decide) (by first | assumption | omega) (by first | assumption | omega) (fun c2 => ?_) (fun c2 => ?_)
    · skip
      refine lv_iload_n hx hb dX4_leftOf_26 rfl (lv_at hl 1 rfl) ?_
      refine lv_iconst (v := nI 3) hx hb dX4_leftOf_27 (by decide) ?_
      refine n_icmp_le (tgt := 37) hx hb dX4_leftOf_28 (by decide) (by first | assumption | omega) (by first | assumption | omega) (fun c3 => ?_) (fun c3 => ?_)
      · skip
        refine lv_iconst (v := nI 0) hx hb dX4_leftOf_37 (by decide) ?_
        exact k_retR (v := nI 0) hx hb hr hlocks (by exact congrArg nI (by split <;> omega)) dX4_leftOf_38
      · skip
        refine lv_iload_n hx hb dX4_leftOf_31 rfl (lv_at hl 1 rfl) ?_
        refine lv_iconst (v := nI 1) hx hb dX4_leftOf_32 (by decide) ?_
        refine n_isub hx hb dX4_leftOf_33 (by first | assumption | omega) ?_
        refine lv_goto (tgt := 38) hx hb dX4_leftOf_34 (by decide) ?_
        exact k_retR (v := nI (j - 1)) hx hb hr hlocks (by exact congrArg nI (by split <;> omega)) dX4_leftOf_38
    · skip
      refine lv_iload_n hx hb dX4_leftOf_13 rfl (lv_at hl 1 rfl) ?_
      refine lv_iconst (v := nI 2) hx hb dX4_leftOf_14 (by decide) ?_
      refine n_icmp_le (tgt := 24) hx hb dX4_leftOf_15 (by decide) (by first | assumption | omega) (by first | assumption | omega) (fun c4 => ?_) (fun c4 => ?_)
      · skip
        refine lv_iconst (v := nI 0) hx hb dX4_leftOf_24 (by decide) ?_
        exact k_retR (v := nI 0) hx hb hr hlocks (by exact congrArg nI (by split <;> omega)) dX4_leftOf_25
      · skip
        refine lv_iload_n hx hb dX4_leftOf_18 rfl (lv_at hl 1 rfl) ?_
        refine lv_iconst (v := nI 1) hx hb dX4_leftOf_19 (by decide) ?_
        refine n_isub hx hb dX4_leftOf_20 (by first | assumption | omega) ?_
        refine lv_goto (tgt := 25) hx hb dX4_leftOf_21 (by decide) ?_
        exact k_retR (v := nI (j - 1)) hx hb hr hlocks (by exact congrArg nI (by split <;> omega)) dX4_leftOf_25
  · skip
    refine lv_iload_n hx hb dX4_leftOf_4 rfl (lv_at hl 1 rfl) ?_
    refine lv_iconst (v := nI 1) hx hb dX4_leftOf_5 (by decide) ?_
    refine n_isub hx hb dX4_leftOf_6 (by first | assumption | omega) ?_
    exact k_retR (v := nI (j - 1)) hx hb hr hlocks (by exact congrArg nI (by split <;> omega)) dX4_leftOf_7
set_option maxHeartbeats 4000000 in
set_option maxRecDepth 100000 in
theorem c_X4_rightOf (l : Launch) (g : va_G) (cI cJ cZ : ClassId) (kd j : Nat) (hkd : kd ≤ 2) (hj : 1 ≤ j ∧ j ≤ 24) : kR l g (kty cI cJ cZ) yX4_rightOf wsX4_rightOf ({ frames := 0, cells := 0, slots := 0, locals := 0 }) [.int (nI kd), .int (nI j)] [] (nI (if kd + 1 < j then fR kd j else 0)) := by
  refine Met.ofW (cc := cX4_rightOf) (maxL := 2) (ret := (some .int)) (by decide) rfl ?_
  intro p e s m args below meth c s₁ B hml hv
  obtain ⟨rfl, hP, hk⟩ := hv
  have hx := B.exec
  have hb := B.bytes
  have hr := B.returns
  have hts := atoms_spec (ws := wsX4_rightOf) B.pre
  have hown : s.vm.findClass RX4 = some m.cls := findClass_of_methodNamed B.named
  have hlocks := B.notSynchronized
  have hK := hk.1
  have hl := lv_entry ([.int (nI kd), .int (nI j)]) (n := 2) (Nat.le_of_ble_eq_true rfl)
  rw [lg_entry_eq]
  generalize (lg_sl ([.int (nI kd), .int (nI j)]) ++ List.replicate (2 - (lg_sl ([.int (nI kd), .int (nI j)])).length) Slot.unset).toArray = ls at hl ⊢
  have hl : lv_has ls 2 [(0, .int (nI kd)), (1, .int (nI j))] := hl
  refine lv_iload_n hx hb dX4_rightOf_0 rfl (lv_at hl 0 rfl) ?_
  refine n_if_ne (tgt := 8) hx hb dX4_rightOf_1 (by decide) (by first | assumption | omega) (fun c1 => ?_) (fun c1 => ?_)
  · skip
    refine lv_iload_n hx hb dX4_rightOf_8 rfl (lv_at hl 0 rfl) ?_
    refine lv_iconst (v := nI 1) hx hb dX4_rightOf_9 (by decide) ?_
    refine n_icmp_ne (tgt := 26) hx hb dX4_rightOf_10 (by decide) (by first | assumption | omega) (by first | assumption | omega) (fun c2 => ?_) (fun c2 => ?_)
    · skip
      refine lv_iload_n hx hb dX4_rightOf_26 rfl (lv_at hl 1 rfl) ?_
      refine lv_iconst (v := nI 4) hx hb dX4_rightOf_27 (by decide) ?_
      refine n_icmp_ge (tgt := 33) hx hb dX4_rightOf_28 (by decide) (by first | assumption | omega) (by first | assumption | omega) (fun c3 => ?_) (fun c3 => ?_)
      · skip
        refine lv_iload_n hx hb dX4_rightOf_33 rfl (lv_at hl 1 rfl) ?_
        refine lv_iconst (v := nI 4) hx hb dX4_rightOf_34 (by decide) ?_
        refine n_icmp_ne (tgt := 42) hx hb dX4_rightOf_35 (by decide) (by first | assumption | omega) (by first | assumption | omega) (fun c4 => ?_) (fun c4 => ?_)
        · skip
          refine lv_iload_n hx hb dX4_rightOf_42 rfl (lv_at hl 1 rfl) ?_
          refine lv_iconst (v := nI 2) hx hb dX4_rightOf_43 (by decide) ?_
          refine n_irem hx hb dX4_rightOf_44 (by first | assumption | omega) (by first | assumption | omega) (by first | assumption | omega) ?_
          refine lv_iconst (v := nI 1) hx hb dX4_rightOf_45 (by decide) ?_
          refine n_icmp_ne (tgt := 55) hx hb dX4_rightOf_46 (by decide) (by first | assumption | omega) (by first | assumption | omega) (fun c5 => ?_) (fun c5 => ?_)
          · skip
            refine lv_iload_n hx hb dX4_rightOf_55 rfl (lv_at hl 1 rfl) ?_
            refine lv_iconst (v := nI 4) hx hb dX4_rightOf_56 (by decide) ?_
            refine n_isub hx hb dX4_rightOf_57 (by first | assumption | omega) ?_
            exact k_retR (v := nI (j - 4)) hx hb hr hlocks (by unfold fR; exact congrArg nI (by split <;> (try split) <;> (try split) <;> (try split) <;> omega)) dX4_rightOf_58
          · skip
            refine lv_iload_n hx hb dX4_rightOf_49 rfl (lv_at hl 1 rfl) ?_
            refine lv_iconst (v := nI 3) hx hb dX4_rightOf_50 (by decide) ?_
            refine n_isub hx hb dX4_rightOf_51 (by first | assumption | omega) ?_
            refine lv_goto (tgt := 58) hx hb dX4_rightOf_52 (by decide) ?_
            exact k_retR (v := nI (j - 3)) hx hb hr hlocks (by unfold fR; exact congrArg nI (by split <;> (try split) <;> (try split) <;> (try split) <;> omega)) dX4_rightOf_58
        · skip
          refine lv_iconst (v := nI 1) hx hb dX4_rightOf_38 (by decide) ?_
          refine lv_goto (tgt := 58) hx hb dX4_rightOf_39 (by decide) ?_
          exact k_retR (v := nI 1) hx hb hr hlocks (by unfold fR; exact congrArg nI (by split <;> (try split) <;> (try split) <;> (try split) <;> omega)) dX4_rightOf_58
      · skip
        refine lv_iconst (v := nI 0) hx hb dX4_rightOf_31 (by decide) ?_
        exact k_retR (v := nI 0) hx hb hr hlocks (by unfold fR; exact congrArg nI (by split <;> (try split) <;> (try split) <;> (try split) <;> omega)) dX4_rightOf_32
    · skip
      refine lv_iload_n hx hb dX4_rightOf_13 rfl (lv_at hl 1 rfl) ?_
      refine lv_iconst (v := nI 2) hx hb dX4_rightOf_14 (by decide) ?_
      refine n_icmp_le (tgt := 24) hx hb dX4_rightOf_15 (by decide) (by first | assumption | omega) (by first | assumption | omega) (fun c6 => ?_) (fun c6 => ?_)
      · skip
        refine lv_iconst (v := nI 0) hx hb dX4_rightOf_24 (by decide) ?_
        exact k_retR (v := nI 0) hx hb hr hlocks (by unfold fR; exact congrArg nI (by split <;> (try split) <;> (try split) <;> (try split) <;> omega)) dX4_rightOf_25
      · skip
        refine lv_iload_n hx hb dX4_rightOf_18 rfl (lv_at hl 1 rfl) ?_
        refine lv_iconst (v := nI 2) hx hb dX4_rightOf_19 (by decide) ?_
        refine n_isub hx hb dX4_rightOf_20 (by first | assumption | omega) ?_
        refine lv_goto (tgt := 25) hx hb dX4_rightOf_21 (by decide) ?_
        exact k_retR (v := nI (j - 2)) hx hb hr hlocks (by unfold fR; exact congrArg nI (by split <;> (try split) <;> (try split) <;> (try split) <;> omega)) dX4_rightOf_25
  · skip
    refine lv_iload_n hx hb dX4_rightOf_4 rfl (lv_at hl 1 rfl) ?_
    refine lv_iconst (v := nI 1) hx hb dX4_rightOf_5 (by decide) ?_
    refine n_isub hx hb dX4_rightOf_6 (by first | assumption | omega) ?_
    exact k_retR (v := nI (j - 1)) hx hb hr hlocks (by unfold fR; exact congrArg nI (by split <;> (try split) <;> (try split) <;> (try split) <;> omega)) dX4_rightOf_7
set_option maxHeartbeats 4000000 in
set_option maxRecDepth 100000 in
theorem lp_X4_family_s_67 {p : Program} {e : Env} {s : State} {m : MethodId} {args : Array Value} {below : List Frame} {meth : Method} {c : Code} {Q : State → Prop} (l : Launch) (g : va_G) (cI cJ cZ : ClassId) (rm a1 a2 a3 a4 a5 a6 a7 a8 a9 b1 b2 b3 b4 b5 b6 b7 b8 b9 : Nat) (cd tp mn bl jn sn wt wm wg wo wd : Nat) (tz tl ty : Nat → Int32) (fs0 : Nat → Nat) (kd n a bn : Nat) (b : Int32) (hkd : kd ≤ 2) (hn : 1 ≤ n ∧ n ≤ 24) (ha : 4 ≤ a ∧ a ≤ 4194304) (hbn : kd = 1 → b = nI bn ∧ 4 ≤ bn ∧ bn ≤ 4194304) (hok : fOK kd a bn n = true)  (C0 : cM p s m args meth c cX4_family 7 none wsX4_family RX4) (hk : kK g (kty cI cJ cZ) s) {A : Nat → Prop} {H0 : Heap} (hA : ∀ q : Nat, H0.size ≤ q → A q) (kk0 : ∀ (fs : Nat → Nat), (∀ i, 1 ≤ i → i ≤ n → fs i = fz kd a bn i ∧ fz kd a bn i ≤ 4194304) → ∀ (H : Heap) (locs : List Loc), va_P g vwCl [(rm, .inr (4, [.int (nI 1), .ref a1, .ref a2, .ref a3, .ref a4, .ref a5, .ref a6, .ref a7, .ref a8, .ref a9, .int (nI tp), .int (nI mn), .ref b1, .int (nI bl), .ref b2, .ref b3, .int (nI jn), .int (nI sn), .ref b4, .ref b5, .ref b6, .ref b7, .ref b8, .int (nI wt), .int (nI wm), .int (nI wg), .long (lN wo), .int (nI wd), .ref b9])), (a1, .inl (cI, 25, .inl tz)), (a2, .inl (cI, 25, .inl tl)), (a3, .inl (cI, 25, .inl ty)), (b6, .inl (cJ, 25, .inr (.inl (fun j => lN (fs j)))))] H → va_D A [(rm, .inr (4, [.int (nI 1), .ref a1, .ref a2, .ref a3, .ref a4, .ref a5, .ref a6, .ref a7, .ref a8, .ref a9, .int (nI tp), .int (nI mn), .ref b1, .int (nI bl), .ref b2, .ref b3, .int (nI jn), .int (nI sn), .ref b4, .ref b5, .ref b6, .ref b7, .ref b8, .int (nI wt), .int (nI wm), .int (nI wg), .long (lN wo), .int (nI wd), .ref b9])), (a1, .inl (cI, 25, .inl tz)), (a2, .inl (cI, 25, .inl tl)), (a3, .inl (cI, 25, .inl ty)), (b6, .inl (cJ, 25, .inr (.inl (fun j => lN (fs j)))))] → va_S A H0 H locs → ∀ (ls : Array Slot), lv_has ls 7 [(0, .ref rm), (1, .int (nI kd)), (2, .int (nI n)), (3, .int (nI a)), (4, .int b)] → W p l e (headSpec wsX4_family ({ frames := 1, cells := 0, slots := 0, locals := 25 })).room s m args below meth c H locs 0 0 Q (F0 m 169 ls [])) (kk1 : ∀ (fs : Nat → Nat), (fOK kd a bn n = false) → ∀ (H : Heap) (locs : List Loc), va_P g vwCl [(rm, .inr (4, [.int (nI 1), .ref a1, .ref a2, .ref a3, .ref a4, .ref a5, .ref a6, .ref a7, .ref a8, .ref a9, .int (nI tp), .int (nI mn), .ref b1, .int (nI bl), .ref b2, .ref b3, .int (nI jn), .int (nI sn), .ref b4, .ref b5, .ref b6, .ref b7, .ref b8, .int (nI wt), .int (nI wm), .int (nI wg), .long (lN wo), .int (nI wd), .ref b9])), (a1, .inl (cI, 25, .inl tz)), (a2, .inl (cI, 25, .inl tl)), (a3, .inl (cI, 25, .inl ty)), (b6, .inl (cJ, 25, .inr (.inl (fun j => lN (fs j)))))] H → va_D A [(rm, .inr (4, [.int (nI 1), .ref a1, .ref a2, .ref a3, .ref a4, .ref a5, .ref a6, .ref a7, .ref a8, .ref a9, .int (nI tp), .int (nI mn), .ref b1, .int (nI bl), .ref b2, .ref b3, .int (nI jn), .int (nI sn), .ref b4, .ref b5, .ref b6, .ref b7, .ref b8, .int (nI wt), .int (nI wm), .int (nI wg), .long (lN wo), .int (nI wd), .ref b9])), (a1, .inl (cI, 25, .inl tz)), (a2, .inl (cI, 25, .inl tl)), (a3, .inl (cI, 25, .inl ty)), (b6, .inl (cJ, 25, .inr (.inl (fun j => lN (fs j)))))] → va_S A H0 H locs → ∀ (ls : Array Slot), lv_has ls 7 [(0, .ref rm)] → W p l e (headSpec wsX4_family ({ frames := 1, cells := 0, slots := 0, locals := 25 })).room s m args below meth c H locs 0 0 Q (F0 m 162 ls [])) :
    ∀ (K : Nat) (jv : Nat) (fs : Nat → Nat), (n + 1 - jv) < K → (1 ≤ jv ∧ jv ≤ n + 1) → (∀ i, 1 ≤ i → i < jv → fs i = fz kd a bn i ∧ fz kd a bn i ≤ 4194304) → ∀ (H : Heap) (locs : List Loc), va_P g vwCl [(rm, .inr (4, [.int (nI 1), .ref a1, .ref a2, .ref a3, .ref a4, .ref a5, .ref a6, .ref a7, .ref a8, .ref a9, .int (nI tp), .int (nI mn), .ref b1, .int (nI bl), .ref b2, .ref b3, .int (nI jn), .int (nI sn), .ref b4, .ref b5, .ref b6, .ref b7, .ref b8, .int (nI wt), .int (nI wm), .int (nI wg), .long (lN wo), .int (nI wd), .ref b9])), (a1, .inl (cI, 25, .inl tz)), (a2, .inl (cI, 25, .inl tl)), (a3, .inl (cI, 25, .inl ty)), (b6, .inl (cJ, 25, .inr (.inl (fun j => lN (fs j)))))] H → va_D A [(rm, .inr (4, [.int (nI 1), .ref a1, .ref a2, .ref a3, .ref a4, .ref a5, .ref a6, .ref a7, .ref a8, .ref a9, .int (nI tp), .int (nI mn), .ref b1, .int (nI bl), .ref b2, .ref b3, .int (nI jn), .int (nI sn), .ref b4, .ref b5, .ref b6, .ref b7, .ref b8, .int (nI wt), .int (nI wm), .int (nI wg), .long (lN wo), .int (nI wd), .ref b9])), (a1, .inl (cI, 25, .inl tz)), (a2, .inl (cI, 25, .inl tl)), (a3, .inl (cI, 25, .inl ty)), (b6, .inl (cJ, 25, .inr (.inl (fun j => lN (fs j)))))] → va_S A H0 H locs →∀ (ls : Array Slot), lv_has ls 7 [(0, .ref rm), (1, .int (nI kd)), (2, .int (nI n)), (3, .int (nI a)), (4, .int b), (5, .int (nI jv))] → W p l e (headSpec wsX4_family ({ frames := 1, cells := 0, slots := 0, locals := 25 })).room s m args below meth c H locs 0 0 Q (F0 m 67 ls []) := by
  obtain ⟨hx, hb, hr, hml, hown, hts, hlocks⟩ := C0
  have hK := hk.1
  have hinX4 : ∀ w ∈ wsX40, w ∈ wsX4_family := by decide +kernel
  intro K
  induction K with
  | zero =>
    intro jv fs h0
    exact absurd h0 (Nat.not_lt_zero _)
  | succ K ih =>
    intro jv fs hmu hj hT H locs hP hD hS ls hl
    refine lv_iload hx hb dX4_family_67 (lv_at hl 5 rfl) ?_
    refine lv_iload_n hx hb dX4_family_69 rfl (lv_at hl 2 rfl) ?_
    refine n_icmp_gt (tgt := 169) hx hb dX4_family_70 (by decide) (by first | assumption | omega) (by first | assumption | omega) (fun c35 => ?_) (fun c35 => ?_)
    · skip
      exact kk0 fs (fun i q1 q2 => hT i q1 (by omega)) _ _ hP hD hS ls (lv_sub hl [0, 1, 2, 3, 4] rfl)
    · skip
      refine lv_iload_n hx hb dX4_family_73 rfl (lv_at hl 1 rfl) ?_
      refine lv_iload hx hb dX4_family_74 (lv_at hl 5 rfl) ?_
      by_cases hcs : kd + 1 < jv
      · skip
        refine k_goR (W.runS (As := [.int (nI kd), .int (nI jv)]) (rest := []) ⟨hx, hb, hml, hown, hts⟩ (c_X4_leftOf l g cI cJ cZ  kd jv hkd (by omega)) (va_cwS 2 hts gX4_family_X4_leftOf rfl rfl rfl (by decide +kernel) ⟨Nat.le_of_ble_eq_true rfl, Nat.le_of_ble_eq_true rfl⟩) (k_preRS hk hP [] rfl) rfl rfl hl.1 rfl (lv_room (Nat.le_of_ble_eq_true rfl)) dX4_family_76 ⟨by first | exact Nat.zero_le _ | omega, by first | exact Nat.zero_le _ | omega⟩) ?_
        refine n_top _ (nI (jv - 1)) (by rw [if_pos hcs]) ?_
        refine lv_istore (lv' := [(6, .int (nI (jv - 1))), (0, .ref rm), (1, .int (nI kd)), (2, .int (nI n)), (3, .int (nI a)), (4, .int b), (5, .int (nI jv))]) hx hb dX4_family_79 hl (by decide) rfl (fun ls hl => ?_)
        refine lv_aload_n hx hb dX4_family_81 rfl (lv_at hl 1 rfl) ?_
        refine va_get (D := g) (ci := 4) (v := .ref b6) (C := RX4) (T := TX4) (N := 29) hx hb hts hinX4 hown hK hP 0 rfl rfl 20 (by decide) (hts (.fieldLink RX4 54 "BuddyRoofModel" "size" "[J") (by decide +kernel)) (fun _ h9 => h9) rfl dX4_family_82 ?_
        refine lv_iload hx hb dX4_family_85 (lv_at hl 6 rfl) ?_
        refine lv_iload hx hb dX4_family_87 (lv_at hl 0 rfl) ?_
        refine n_if_le (tgt := 114) hx hb dX4_family_89 (by decide) (by first | assumption | omega) (fun c36 => ?_) (fun c36 => ?_)
        · skip
          refine lv_iload_n hx hb dX4_family_114 rfl (lv_at hl 2 rfl) ?_
          refine lv_iconst (v := nI 1) hx hb dX4_family_115 (by decide) ?_
          refine n_icmp_ne (tgt := 131) hx hb dX4_family_116 (by decide) (by first | assumption | omega) (by first | assumption | omega) (fun c37 => ?_) (fun c37 => ?_)
          · skip
            refine lv_iload_n hx hb dX4_family_131 rfl (lv_at hl 2 rfl) ?_
            refine lv_iconst (v := nI 2) hx hb dX4_family_132 (by decide) ?_
            refine n_icmp_ne (tgt := 145) hx hb dX4_family_133 (by decide) (by first | assumption | omega) (by first | assumption | omega) (fun c38 => ?_) (fun c38 => ?_)
            · skip
              refine lv_iload_n hx hb dX4_family_145 rfl (lv_at hl 4 rfl) ?_
              refine lv_i2l hx hb dX4_family_146 (nI_l (by first | assumption | omega)) ?_
              refine n_topl _ (lN (fz kd a bn jv)) (by rw [fz_l (k := jv) (by omega)]; unfold fLf; first | (rw [if_pos (by omega), if_pos (by omega)]) | (rw [if_neg (by omega), show jv = 1 by omega, Nat.one_mul])) ?_
              refine n_lastM hx hb hK hP hD hS 4 1 rfl rfl (i := jv) (v := (fz kd a bn jv)) (by omega) (by decide) dX4_family_147 (fun H locs hP hD hS => ?_)
              have hP : va_P g vwCl [(rm, .inr (4, [.int (nI 1), .ref a1, .ref a2, .ref a3, .ref a4, .ref a5, .ref a6, .ref a7, .ref a8, .ref a9, .int (nI tp), .int (nI mn), .ref b1, .int (nI bl), .ref b2, .ref b3, .int (nI jn), .int (nI sn), .ref b4, .ref b5, .ref b6, .ref b7, .ref b8, .int (nI wt), .int (nI wm), .int (nI wg), .long (lN wo), .int (nI wd), .ref b9])), (a1, .inl (cI, 25, .inl tz)), (a2, .inl (cI, 25, .inl tl)), (a3, .inl (cI, 25, .inl ty)), (b6, .inl (cJ, 25, .inr (.inl (fun j => lN ((upN fs jv (fz kd a bn jv)) j)))))] H := hP
              have hD : va_D A [(rm, .inr (4, [.int (nI 1), .ref a1, .ref a2, .ref a3, .ref a4, .ref a5, .ref a6, .ref a7, .ref a8, .ref a9, .int (nI tp), .int (nI mn), .ref b1, .int (nI bl), .ref b2, .ref b3, .int (nI jn), .int (nI sn), .ref b4, .ref b5, .ref b6, .ref b7, .ref b8, .int (nI wt), .int (nI wm), .int (nI wg), .long (lN wo), .int (nI wd), .ref b9])), (a1, .inl (cI, 25, .inl tz)), (a2, .inl (cI, 25, .inl tl)), (a3, .inl (cI, 25, .inl ty)), (b6, .inl (cJ, 25, .inr (.inl (fun j => lN ((upN fs jv (fz kd a bn jv)) j)))))] := hD
              refine lv_aload_n hx hb dX4_family_148 rfl (lv_at hl 1 rfl) ?_
              refine va_get (D := g) (ci := 4) (v := .ref b6) (C := RX4) (T := TX4) (N := 29) hx hb hts hinX4 hown hK hP 0 rfl rfl 20 (by decide) (hts (.fieldLink RX4 54 "BuddyRoofModel" "size" "[J") (by decide +kernel)) (fun _ h9 => h9) rfl dX4_family_149 ?_
              refine lv_iload hx hb dX4_family_152 (lv_at hl 6 rfl) ?_
              refine n_lald (v := lN (fz kd a bn jv)) hx hb hK hP 4 1 rfl rfl (i := jv) (by omega) (by decide) (by rw [upN_s]) dX4_family_154 ?_
              refine lv_ldc2 hx hb (v := 4194304) hown (hts (.constantLong RX4 80 4194304) (by decide +kernel)) dX4_family_155 ?_
              refine n_topl _ (lN 4194304) (by decide) ?_
              refine W.lcmp hx hb dX4_family_158 ?_
              refine n_lc_le (tgt := 163) hx hb dX4_family_159 (by decide) (by have := fz_b hkd ha.2 (fun q => (hbn q).2.2) hj.1 (fun i q1 q2 => (hT i q1 q2).2); omega) (by decide) (fun c39 => ?_) (fun c39 => ?_)
              · skip
                refine lv_iinc (v := nI (jv + 1)) (lv' := [(5, .int (nI (jv + 1))), (6, .int (nI (jv - 1))), (0, .ref rm), (1, .int (nI kd)), (2, .int (nI n)), (3, .int (nI a)), (4, .int b)]) hx hb dX4_family_163 hl (k := 6) rfl (n_inc _ 1) (by decide) rfl (fun ls hl => ?_)
                refine lv_goto (tgt := 67) hx hb dX4_family_166 (by decide) ?_
                exact ih (jv + 1) (upN fs jv (fz kd a bn jv)) (by omega) (by omega) (fun i q1 q2 => by
      by_cases e9 : i = jv
      · subst e9; exact ⟨upN_s _ _ _, c39⟩
      · rw [upN_n _ _ e9]; exact hT i q1 (by omega)) _ _ hP hD hS ls (lv_sub hl [2, 3, 4, 5, 6, 0] rfl)
              · skip
                exact kk1 (upN fs jv (fz kd a bn jv)) (fOK_f hj.1 (by omega) c39) _ _ hP hD hS ls (lv_sub hl [1] rfl)
            · skip
              refine lv_iload hx hb dX4_family_136 (lv_at hl 6 rfl) ?_
              refine lv_i2l hx hb dX4_family_138 (nI_l (by first | assumption | omega)) ?_
              refine lv_iload_n hx hb dX4_family_139 rfl (lv_at hl 4 rfl) ?_
              refine lv_i2l hx hb dX4_family_140 (nI_l (by first | assumption | omega)) ?_
              refine lv_lmul hx hb dX4_family_141 ?_
              refine n_topl _ (lN (jv * a)) (lN_mul _ _) ?_
              refine n_topl _ (lN (fz kd a bn jv)) (by rw [fz_l (k := jv) (by omega)]; unfold fLf; rw [if_neg (by omega)]) ?_
              refine lv_goto (tgt := 147) hx hb dX4_family_142 (by decide) ?_
              refine n_lastM hx hb hK hP hD hS 4 1 rfl rfl (i := jv) (v := (fz kd a bn jv)) (by omega) (by decide) dX4_family_147 (fun H locs hP hD hS => ?_)
              have hP : va_P g vwCl [(rm, .inr (4, [.int (nI 1), .ref a1, .ref a2, .ref a3, .ref a4, .ref a5, .ref a6, .ref a7, .ref a8, .ref a9, .int (nI tp), .int (nI mn), .ref b1, .int (nI bl), .ref b2, .ref b3, .int (nI jn), .int (nI sn), .ref b4, .ref b5, .ref b6, .ref b7, .ref b8, .int (nI wt), .int (nI wm), .int (nI wg), .long (lN wo), .int (nI wd), .ref b9])), (a1, .inl (cI, 25, .inl tz)), (a2, .inl (cI, 25, .inl tl)), (a3, .inl (cI, 25, .inl ty)), (b6, .inl (cJ, 25, .inr (.inl (fun j => lN ((upN fs jv (fz kd a bn jv)) j)))))] H := hP
              have hD : va_D A [(rm, .inr (4, [.int (nI 1), .ref a1, .ref a2, .ref a3, .ref a4, .ref a5, .ref a6, .ref a7, .ref a8, .ref a9, .int (nI tp), .int (nI mn), .ref b1, .int (nI bl), .ref b2, .ref b3, .int (nI jn), .int (nI sn), .ref b4, .ref b5, .ref b6, .ref b7, .ref b8, .int (nI wt), .int (nI wm), .int (nI wg), .long (lN wo), .int (nI wd), .ref b9])), (a1, .inl (cI, 25, .inl tz)), (a2, .inl (cI, 25, .inl tl)), (a3, .inl (cI, 25, .inl ty)), (b6, .inl (cJ, 25, .inr (.inl (fun j => lN ((upN fs jv (fz kd a bn jv)) j)))))] := hD
              refine lv_aload_n hx hb dX4_family_148 rfl (lv_at hl 1 rfl) ?_
              refine va_get (D := g) (ci := 4) (v := .ref b6) (C := RX4) (T := TX4) (N := 29) hx hb hts hinX4 hown hK hP 0 rfl rfl 20 (by decide) (hts (.fieldLink RX4 54 "BuddyRoofModel" "size" "[J") (by decide +kernel)) (fun _ h9 => h9) rfl dX4_family_149 ?_
              refine lv_iload hx hb dX4_family_152 (lv_at hl 6 rfl) ?_
              refine n_lald (v := lN (fz kd a bn jv)) hx hb hK hP 4 1 rfl rfl (i := jv) (by omega) (by decide) (by rw [upN_s]) dX4_family_154 ?_
              refine lv_ldc2 hx hb (v := 4194304) hown (hts (.constantLong RX4 80 4194304) (by decide +kernel)) dX4_family_155 ?_
              refine n_topl _ (lN 4194304) (by decide) ?_
              refine W.lcmp hx hb dX4_family_158 ?_
              refine n_lc_le (tgt := 163) hx hb dX4_family_159 (by decide) (by have := fz_b hkd ha.2 (fun q => (hbn q).2.2) hj.1 (fun i q1 q2 => (hT i q1 q2).2); omega) (by decide) (fun c40 => ?_) (fun c40 => ?_)
              · skip
                refine lv_iinc (v := nI (jv + 1)) (lv' := [(5, .int (nI (jv + 1))), (6, .int (nI (jv - 1))), (0, .ref rm), (1, .int (nI kd)), (2, .int (nI n)), (3, .int (nI a)), (4, .int b)]) hx hb dX4_family_163 hl (k := 6) rfl (n_inc _ 1) (by decide) rfl (fun ls hl => ?_)
                refine lv_goto (tgt := 67) hx hb dX4_family_166 (by decide) ?_
                exact ih (jv + 1) (upN fs jv (fz kd a bn jv)) (by omega) (by omega) (fun i q1 q2 => by
      by_cases e9 : i = jv
      · subst e9; exact ⟨upN_s _ _ _, c40⟩
      · rw [upN_n _ _ e9]; exact hT i q1 (by omega)) _ _ hP hD hS ls (lv_sub hl [2, 3, 4, 5, 6, 0] rfl)
              · skip
                exact kk1 (upN fs jv (fz kd a bn jv)) (fOK_f hj.1 (by omega) c40) _ _ hP hD hS ls (lv_sub hl [1] rfl)
          · skip
            refine lv_iload hx hb dX4_family_119 (lv_at hl 6 rfl) ?_
            refine lv_iconst (v := nI 2) hx hb dX4_family_121 (by decide) ?_
            refine n_icmp_ne (tgt := 131) hx hb dX4_family_122 (by decide) (by first | assumption | omega) (by first | assumption | omega) (fun c41 => ?_) (fun c41 => ?_)
            · skip
              refine lv_iload_n hx hb dX4_family_131 rfl (lv_at hl 2 rfl) ?_
              refine lv_iconst (v := nI 2) hx hb dX4_family_132 (by decide) ?_
              refine n_icmp_ne (tgt := 145) hx hb dX4_family_133 (by decide) (by first | assumption | omega) (by first | assumption | omega) (fun c42 => ?_) (fun c42 => ?_)
              · skip
                refine lv_iload_n hx hb dX4_family_145 rfl (lv_at hl 4 rfl) ?_
                refine lv_i2l hx hb dX4_family_146 (nI_l (by first | assumption | omega)) ?_
                refine n_topl _ (lN (fz kd a bn jv)) (by rw [fz_l (k := jv) (by omega)]; unfold fLf; first | (rw [if_pos (by omega), if_pos (by omega)]) | (rw [if_neg (by omega), show jv = 1 by omega, Nat.one_mul])) ?_
                refine n_lastM hx hb hK hP hD hS 4 1 rfl rfl (i := jv) (v := (fz kd a bn jv)) (by omega) (by decide) dX4_family_147 (fun H locs hP hD hS => ?_)
                have hP : va_P g vwCl [(rm, .inr (4, [.int (nI 1), .ref a1, .ref a2, .ref a3, .ref a4, .ref a5, .ref a6, .ref a7, .ref a8, .ref a9, .int (nI tp), .int (nI mn), .ref b1, .int (nI bl), .ref b2, .ref b3, .int (nI jn), .int (nI sn), .ref b4, .ref b5, .ref b6, .ref b7, .ref b8, .int (nI wt), .int (nI wm), .int (nI wg), .long (lN wo), .int (nI wd), .ref b9])), (a1, .inl (cI, 25, .inl tz)), (a2, .inl (cI, 25, .inl tl)), (a3, .inl (cI, 25, .inl ty)), (b6, .inl (cJ, 25, .inr (.inl (fun j => lN ((upN fs jv (fz kd a bn jv)) j)))))] H := hP
                have hD : va_D A [(rm, .inr (4, [.int (nI 1), .ref a1, .ref a2, .ref a3, .ref a4, .ref a5, .ref a6, .ref a7, .ref a8, .ref a9, .int (nI tp), .int (nI mn), .ref b1, .int (nI bl), .ref b2, .ref b3, .int (nI jn), .int (nI sn), .ref b4, .ref b5, .ref b6, .ref b7, .ref b8, .int (nI wt), .int (nI wm), .int (nI wg), .long (lN wo), .int (nI wd), .ref b9])), (a1, .inl (cI, 25, .inl tz)), (a2, .inl (cI, 25, .inl tl)), (a3, .inl (cI, 25, .inl ty)), (b6, .inl (cJ, 25, .inr (.inl (fun j => lN ((upN fs jv (fz kd a bn jv)) j)))))] := hD
                refine lv_aload_n hx hb dX4_family_148 rfl (lv_at hl 1 rfl) ?_
                refine va_get (D := g) (ci := 4) (v := .ref b6) (C := RX4) (T := TX4) (N := 29) hx hb hts hinX4 hown hK hP 0 rfl rfl 20 (by decide) (hts (.fieldLink RX4 54 "BuddyRoofModel" "size" "[J") (by decide +kernel)) (fun _ h9 => h9) rfl dX4_family_149 ?_
                refine lv_iload hx hb dX4_family_152 (lv_at hl 6 rfl) ?_
                refine n_lald (v := lN (fz kd a bn jv)) hx hb hK hP 4 1 rfl rfl (i := jv) (by omega) (by decide) (by rw [upN_s]) dX4_family_154 ?_
                refine lv_ldc2 hx hb (v := 4194304) hown (hts (.constantLong RX4 80 4194304) (by decide +kernel)) dX4_family_155 ?_
                refine n_topl _ (lN 4194304) (by decide) ?_
                refine W.lcmp hx hb dX4_family_158 ?_
                refine n_lc_le (tgt := 163) hx hb dX4_family_159 (by decide) (by have := fz_b hkd ha.2 (fun q => (hbn q).2.2) hj.1 (fun i q1 q2 => (hT i q1 q2).2); omega) (by decide) (fun c43 => ?_) (fun c43 => ?_)
                · skip
                  refine lv_iinc (v := nI (jv + 1)) (lv' := [(5, .int (nI (jv + 1))), (6, .int (nI (jv - 1))), (0, .ref rm), (1, .int (nI kd)), (2, .int (nI n)), (3, .int (nI a)), (4, .int b)]) hx hb dX4_family_163 hl (k := 6) rfl (n_inc _ 1) (by decide) rfl (fun ls hl => ?_)
                  refine lv_goto (tgt := 67) hx hb dX4_family_166 (by decide) ?_
                  exact ih (jv + 1) (upN fs jv (fz kd a bn jv)) (by omega) (by omega) (fun i q1 q2 => by
      by_cases e9 : i = jv
      · subst e9; exact ⟨upN_s _ _ _, c43⟩
      · rw [upN_n _ _ e9]; exact hT i q1 (by omega)) _ _ hP hD hS ls (lv_sub hl [2, 3, 4, 5, 6, 0] rfl)
                · skip
                  exact kk1 (upN fs jv (fz kd a bn jv)) (fOK_f hj.1 (by omega) c43) _ _ hP hD hS ls (lv_sub hl [1] rfl)
              · skip
                refine lv_iload hx hb dX4_family_136 (lv_at hl 6 rfl) ?_
                refine lv_i2l hx hb dX4_family_138 (nI_l (by first | assumption | omega)) ?_
                refine lv_iload_n hx hb dX4_family_139 rfl (lv_at hl 4 rfl) ?_
                refine lv_i2l hx hb dX4_family_140 (nI_l (by first | assumption | omega)) ?_
                refine lv_lmul hx hb dX4_family_141 ?_
                refine n_topl _ (lN (jv * a)) (lN_mul _ _) ?_
                refine n_topl _ (lN (fz kd a bn jv)) (by rw [fz_l (k := jv) (by omega)]; unfold fLf; rw [if_neg (by omega)]) ?_
                refine lv_goto (tgt := 147) hx hb dX4_family_142 (by decide) ?_
                refine n_lastM hx hb hK hP hD hS 4 1 rfl rfl (i := jv) (v := (fz kd a bn jv)) (by omega) (by decide) dX4_family_147 (fun H locs hP hD hS => ?_)
                have hP : va_P g vwCl [(rm, .inr (4, [.int (nI 1), .ref a1, .ref a2, .ref a3, .ref a4, .ref a5, .ref a6, .ref a7, .ref a8, .ref a9, .int (nI tp), .int (nI mn), .ref b1, .int (nI bl), .ref b2, .ref b3, .int (nI jn), .int (nI sn), .ref b4, .ref b5, .ref b6, .ref b7, .ref b8, .int (nI wt), .int (nI wm), .int (nI wg), .long (lN wo), .int (nI wd), .ref b9])), (a1, .inl (cI, 25, .inl tz)), (a2, .inl (cI, 25, .inl tl)), (a3, .inl (cI, 25, .inl ty)), (b6, .inl (cJ, 25, .inr (.inl (fun j => lN ((upN fs jv (fz kd a bn jv)) j)))))] H := hP
                have hD : va_D A [(rm, .inr (4, [.int (nI 1), .ref a1, .ref a2, .ref a3, .ref a4, .ref a5, .ref a6, .ref a7, .ref a8, .ref a9, .int (nI tp), .int (nI mn), .ref b1, .int (nI bl), .ref b2, .ref b3, .int (nI jn), .int (nI sn), .ref b4, .ref b5, .ref b6, .ref b7, .ref b8, .int (nI wt), .int (nI wm), .int (nI wg), .long (lN wo), .int (nI wd), .ref b9])), (a1, .inl (cI, 25, .inl tz)), (a2, .inl (cI, 25, .inl tl)), (a3, .inl (cI, 25, .inl ty)), (b6, .inl (cJ, 25, .inr (.inl (fun j => lN ((upN fs jv (fz kd a bn jv)) j)))))] := hD
                refine lv_aload_n hx hb dX4_family_148 rfl (lv_at hl 1 rfl) ?_
                refine va_get (D := g) (ci := 4) (v := .ref b6) (C := RX4) (T := TX4) (N := 29) hx hb hts hinX4 hown hK hP 0 rfl rfl 20 (by decide) (hts (.fieldLink RX4 54 "BuddyRoofModel" "size" "[J") (by decide +kernel)) (fun _ h9 => h9) rfl dX4_family_149 ?_
                refine lv_iload hx hb dX4_family_152 (lv_at hl 6 rfl) ?_
                refine n_lald (v := lN (fz kd a bn jv)) hx hb hK hP 4 1 rfl rfl (i := jv) (by omega) (by decide) (by rw [upN_s]) dX4_family_154 ?_
                refine lv_ldc2 hx hb (v := 4194304) hown (hts (.constantLong RX4 80 4194304) (by decide +kernel)) dX4_family_155 ?_
                refine n_topl _ (lN 4194304) (by decide) ?_
                refine W.lcmp hx hb dX4_family_158 ?_
                refine n_lc_le (tgt := 163) hx hb dX4_family_159 (by decide) (by have := fz_b hkd ha.2 (fun q => (hbn q).2.2) hj.1 (fun i q1 q2 => (hT i q1 q2).2); omega) (by decide) (fun c44 => ?_) (fun c44 => ?_)
                · skip
                  refine lv_iinc (v := nI (jv + 1)) (lv' := [(5, .int (nI (jv + 1))), (6, .int (nI (jv - 1))), (0, .ref rm), (1, .int (nI kd)), (2, .int (nI n)), (3, .int (nI a)), (4, .int b)]) hx hb dX4_family_163 hl (k := 6) rfl (n_inc _ 1) (by decide) rfl (fun ls hl => ?_)
                  refine lv_goto (tgt := 67) hx hb dX4_family_166 (by decide) ?_
                  exact ih (jv + 1) (upN fs jv (fz kd a bn jv)) (by omega) (by omega) (fun i q1 q2 => by
      by_cases e9 : i = jv
      · subst e9; exact ⟨upN_s _ _ _, c44⟩
      · rw [upN_n _ _ e9]; exact hT i q1 (by omega)) _ _ hP hD hS ls (lv_sub hl [2, 3, 4, 5, 6, 0] rfl)
                · skip
                  exact kk1 (upN fs jv (fz kd a bn jv)) (fOK_f hj.1 (by omega) c44) _ _ hP hD hS ls (lv_sub hl [1] rfl)
            · skip
              refine lv_iload hx hb dX4_family_125 (lv_at hl 5 rfl) ?_
              refine lv_i2l hx hb dX4_family_127 rfl ?_
              refine n_topl _ (lN (fz kd a bn jv)) (by rw [(hbn (by omega)).1, fz_l (k := jv) (by omega)]; unfold fLf; rw [if_pos (by omega), if_neg (by omega)]; exact nI_l (by have := (hbn (by omega)).2.2; omega)) ?_
              refine lv_goto (tgt := 147) hx hb dX4_family_128 (by decide) ?_
              refine n_lastM hx hb hK hP hD hS 4 1 rfl rfl (i := jv) (v := (fz kd a bn jv)) (by omega) (by decide) dX4_family_147 (fun H locs hP hD hS => ?_)
              have hP : va_P g vwCl [(rm, .inr (4, [.int (nI 1), .ref a1, .ref a2, .ref a3, .ref a4, .ref a5, .ref a6, .ref a7, .ref a8, .ref a9, .int (nI tp), .int (nI mn), .ref b1, .int (nI bl), .ref b2, .ref b3, .int (nI jn), .int (nI sn), .ref b4, .ref b5, .ref b6, .ref b7, .ref b8, .int (nI wt), .int (nI wm), .int (nI wg), .long (lN wo), .int (nI wd), .ref b9])), (a1, .inl (cI, 25, .inl tz)), (a2, .inl (cI, 25, .inl tl)), (a3, .inl (cI, 25, .inl ty)), (b6, .inl (cJ, 25, .inr (.inl (fun j => lN ((upN fs jv (fz kd a bn jv)) j)))))] H := hP
              have hD : va_D A [(rm, .inr (4, [.int (nI 1), .ref a1, .ref a2, .ref a3, .ref a4, .ref a5, .ref a6, .ref a7, .ref a8, .ref a9, .int (nI tp), .int (nI mn), .ref b1, .int (nI bl), .ref b2, .ref b3, .int (nI jn), .int (nI sn), .ref b4, .ref b5, .ref b6, .ref b7, .ref b8, .int (nI wt), .int (nI wm), .int (nI wg), .long (lN wo), .int (nI wd), .ref b9])), (a1, .inl (cI, 25, .inl tz)), (a2, .inl (cI, 25, .inl tl)), (a3, .inl (cI, 25, .inl ty)), (b6, .inl (cJ, 25, .inr (.inl (fun j => lN ((upN fs jv (fz kd a bn jv)) j)))))] := hD
              refine lv_aload_n hx hb dX4_family_148 rfl (lv_at hl 1 rfl) ?_
              refine va_get (D := g) (ci := 4) (v := .ref b6) (C := RX4) (T := TX4) (N := 29) hx hb hts hinX4 hown hK hP 0 rfl rfl 20 (by decide) (hts (.fieldLink RX4 54 "BuddyRoofModel" "size" "[J") (by decide +kernel)) (fun _ h9 => h9) rfl dX4_family_149 ?_
              refine lv_iload hx hb dX4_family_152 (lv_at hl 6 rfl) ?_
              refine n_lald (v := lN (fz kd a bn jv)) hx hb hK hP 4 1 rfl rfl (i := jv) (by omega) (by decide) (by rw [upN_s]) dX4_family_154 ?_
              refine lv_ldc2 hx hb (v := 4194304) hown (hts (.constantLong RX4 80 4194304) (by decide +kernel)) dX4_family_155 ?_
              refine n_topl _ (lN 4194304) (by decide) ?_
              refine W.lcmp hx hb dX4_family_158 ?_
              refine n_lc_le (tgt := 163) hx hb dX4_family_159 (by decide) (by have := fz_b hkd ha.2 (fun q => (hbn q).2.2) hj.1 (fun i q1 q2 => (hT i q1 q2).2); omega) (by decide) (fun c45 => ?_) (fun c45 => ?_)
              · skip
                refine lv_iinc (v := nI (jv + 1)) (lv' := [(5, .int (nI (jv + 1))), (6, .int (nI (jv - 1))), (0, .ref rm), (1, .int (nI kd)), (2, .int (nI n)), (3, .int (nI a)), (4, .int b)]) hx hb dX4_family_163 hl (k := 6) rfl (n_inc _ 1) (by decide) rfl (fun ls hl => ?_)
                refine lv_goto (tgt := 67) hx hb dX4_family_166 (by decide) ?_
                exact ih (jv + 1) (upN fs jv (fz kd a bn jv)) (by omega) (by omega) (fun i q1 q2 => by
      by_cases e9 : i = jv
      · subst e9; exact ⟨upN_s _ _ _, c45⟩
      · rw [upN_n _ _ e9]; exact hT i q1 (by omega)) _ _ hP hD hS ls (lv_sub hl [2, 3, 4, 5, 6, 0] rfl)
              · skip
                exact kk1 (upN fs jv (fz kd a bn jv)) (fOK_f hj.1 (by omega) c45) _ _ hP hD hS ls (lv_sub hl [1] rfl)
        · skip
          refine lv_aload_n hx hb dX4_family_92 rfl (lv_at hl 1 rfl) ?_
          refine va_get (D := g) (ci := 4) (v := .ref b6) (C := RX4) (T := TX4) (N := 29) hx hb hts hinX4 hown hK hP 0 rfl rfl 20 (by decide) (hts (.fieldLink RX4 54 "BuddyRoofModel" "size" "[J") (by decide +kernel)) (fun _ h9 => h9) rfl dX4_family_93 ?_
          refine lv_iload hx hb dX4_family_96 (lv_at hl 0 rfl) ?_
          refine n_lald (v := lN (fz kd a bn (jv - 1))) hx hb hK hP 4 1 rfl rfl (i := (jv - 1)) (by omega) (by decide) (by rw [(hT _ (by omega) (by omega)).1]) dX4_family_98 ?_
          refine lv_aload_n hx hb dX4_family_99 rfl (lv_at hl 1 rfl) ?_
          refine va_get (D := g) (ci := 4) (v := .ref b6) (C := RX4) (T := TX4) (N := 29) hx hb hts hinX4 hown hK hP 0 rfl rfl 20 (by decide) (hts (.fieldLink RX4 54 "BuddyRoofModel" "size" "[J") (by decide +kernel)) (fun _ h9 => h9) rfl dX4_family_100 ?_
          refine lv_iload_n hx hb dX4_family_103 rfl (lv_at hl 2 rfl) ?_
          refine lv_iload hx hb dX4_family_104 (lv_at hl 6 rfl) ?_
          refine k_goR (W.runS (As := [.int (nI kd), .int (nI jv)]) (rest := [.ref b6, .long (lN (fz kd a bn (jv - 1))), .int (nI jv), .ref b6]) ⟨hx, hb, hml, hown, hts⟩ (c_X4_rightOf l g cI cJ cZ  kd jv hkd (by omega)) (va_cwS 2 hts gX4_family_X4_rightOf rfl rfl rfl (by decide +kernel) ⟨Nat.le_of_ble_eq_true rfl, Nat.le_of_ble_eq_true rfl⟩) (k_preRS hk hP [] rfl) rfl rfl hl.1 rfl (lv_room (Nat.le_of_ble_eq_true rfl)) dX4_family_106 ⟨by first | exact Nat.zero_le _ | omega, by first | exact Nat.zero_le _ | omega⟩) ?_
          refine n_top _ (nI (fR kd jv)) (by rw [if_pos hcs]) ?_
          refine n_lald (v := lN (fz kd a bn (fR kd jv))) hx hb hK hP 4 1 rfl rfl (i := (fR kd jv)) (by have := fR_b hkd hcs; omega) (by decide) (by rw [(hT _ (fR_b hkd hcs).1 (fR_b hkd hcs).2).1]) dX4_family_109 ?_
          refine lv_ladd hx hb dX4_family_110 ?_
          refine n_topl _ (lN ((fz kd a bn (jv - 1)) + (fz kd a bn (fR kd jv)))) (lN_add _ _) ?_
          refine n_topl _ (lN (fz kd a bn jv)) (by rw [fz_s (k := jv) hcs]) ?_
          refine lv_goto (tgt := 147) hx hb dX4_family_111 (by decide) ?_
          refine n_lastM hx hb hK hP hD hS 4 1 rfl rfl (i := jv) (v := (fz kd a bn jv)) (by omega) (by decide) dX4_family_147 (fun H locs hP hD hS => ?_)
          have hP : va_P g vwCl [(rm, .inr (4, [.int (nI 1), .ref a1, .ref a2, .ref a3, .ref a4, .ref a5, .ref a6, .ref a7, .ref a8, .ref a9, .int (nI tp), .int (nI mn), .ref b1, .int (nI bl), .ref b2, .ref b3, .int (nI jn), .int (nI sn), .ref b4, .ref b5, .ref b6, .ref b7, .ref b8, .int (nI wt), .int (nI wm), .int (nI wg), .long (lN wo), .int (nI wd), .ref b9])), (a1, .inl (cI, 25, .inl tz)), (a2, .inl (cI, 25, .inl tl)), (a3, .inl (cI, 25, .inl ty)), (b6, .inl (cJ, 25, .inr (.inl (fun j => lN ((upN fs jv (fz kd a bn jv)) j)))))] H := hP
          have hD : va_D A [(rm, .inr (4, [.int (nI 1), .ref a1, .ref a2, .ref a3, .ref a4, .ref a5, .ref a6, .ref a7, .ref a8, .ref a9, .int (nI tp), .int (nI mn), .ref b1, .int (nI bl), .ref b2, .ref b3, .int (nI jn), .int (nI sn), .ref b4, .ref b5, .ref b6, .ref b7, .ref b8, .int (nI wt), .int (nI wm), .int (nI wg), .long (lN wo), .int (nI wd), .ref b9])), (a1, .inl (cI, 25, .inl tz)), (a2, .inl (cI, 25, .inl tl)), (a3, .inl (cI, 25, .inl ty)), (b6, .inl (cJ, 25, .inr (.inl (fun j => lN ((upN fs jv (fz kd a bn jv)) j)))))] := hD
          refine lv_aload_n hx hb dX4_family_148 rfl (lv_at hl 1 rfl) ?_
          refine va_get (D := g) (ci := 4) (v := .ref b6) (C := RX4) (T := TX4) (N := 29) hx hb hts hinX4 hown hK hP 0 rfl rfl 20 (by decide) (hts (.fieldLink RX4 54 "BuddyRoofModel" "size" "[J") (by decide +kernel)) (fun _ h9 => h9) rfl dX4_family_149 ?_
          refine lv_iload hx hb dX4_family_152 (lv_at hl 6 rfl) ?_
          refine n_lald (v := lN (fz kd a bn jv)) hx hb hK hP 4 1 rfl rfl (i := jv) (by omega) (by decide) (by rw [upN_s]) dX4_family_154 ?_
          refine lv_ldc2 hx hb (v := 4194304) hown (hts (.constantLong RX4 80 4194304) (by decide +kernel)) dX4_family_155 ?_
          refine n_topl _ (lN 4194304) (by decide) ?_
          refine W.lcmp hx hb dX4_family_158 ?_
          refine n_lc_le (tgt := 163) hx hb dX4_family_159 (by decide) (by have := fz_b hkd ha.2 (fun q => (hbn q).2.2) hj.1 (fun i q1 q2 => (hT i q1 q2).2); omega) (by decide) (fun c46 => ?_) (fun c46 => ?_)
          · skip
            refine lv_iinc (v := nI (jv + 1)) (lv' := [(5, .int (nI (jv + 1))), (6, .int (nI (jv - 1))), (0, .ref rm), (1, .int (nI kd)), (2, .int (nI n)), (3, .int (nI a)), (4, .int b)]) hx hb dX4_family_163 hl (k := 6) rfl (n_inc _ 1) (by decide) rfl (fun ls hl => ?_)
            refine lv_goto (tgt := 67) hx hb dX4_family_166 (by decide) ?_
            exact ih (jv + 1) (upN fs jv (fz kd a bn jv)) (by omega) (by omega) (fun i q1 q2 => by
      by_cases e9 : i = jv
      · subst e9; exact ⟨upN_s _ _ _, c46⟩
      · rw [upN_n _ _ e9]; exact hT i q1 (by omega)) _ _ hP hD hS ls (lv_sub hl [2, 3, 4, 5, 6, 0] rfl)
          · skip
            exact kk1 (upN fs jv (fz kd a bn jv)) (fOK_f hj.1 (by omega) c46) _ _ hP hD hS ls (lv_sub hl [1] rfl)
      · skip
        refine k_goR (W.runS (As := [.int (nI kd), .int (nI jv)]) (rest := []) ⟨hx, hb, hml, hown, hts⟩ (c_X4_leftOf l g cI cJ cZ  kd jv hkd (by omega)) (va_cwS 2 hts gX4_family_X4_leftOf rfl rfl rfl (by decide +kernel) ⟨Nat.le_of_ble_eq_true rfl, Nat.le_of_ble_eq_true rfl⟩) (k_preRS hk hP [] rfl) rfl rfl hl.1 rfl (lv_room (Nat.le_of_ble_eq_true rfl)) dX4_family_76 ⟨by first | exact Nat.zero_le _ | omega, by first | exact Nat.zero_le _ | omega⟩) ?_
        refine n_top _ (nI 0) (by rw [if_neg hcs]) ?_
        refine lv_istore (lv' := [(6, .int (nI 0)), (0, .ref rm), (1, .int (nI kd)), (2, .int (nI n)), (3, .int (nI a)), (4, .int b), (5, .int (nI jv))]) hx hb dX4_family_79 hl (by decide) rfl (fun ls hl => ?_)
        refine lv_aload_n hx hb dX4_family_81 rfl (lv_at hl 1 rfl) ?_
        refine va_get (D := g) (ci := 4) (v := .ref b6) (C := RX4) (T := TX4) (N := 29) hx hb hts hinX4 hown hK hP 0 rfl rfl 20 (by decide) (hts (.fieldLink RX4 54 "BuddyRoofModel" "size" "[J") (by decide +kernel)) (fun _ h9 => h9) rfl dX4_family_82 ?_
        refine lv_iload hx hb dX4_family_85 (lv_at hl 6 rfl) ?_
        refine lv_iload hx hb dX4_family_87 (lv_at hl 0 rfl) ?_
        refine n_if_le (tgt := 114) hx hb dX4_family_89 (by decide) (by first | assumption | omega) (fun c47 => ?_) (fun c47 => ?_)
        · skip
          refine lv_iload_n hx hb dX4_family_114 rfl (lv_at hl 2 rfl) ?_
          refine lv_iconst (v := nI 1) hx hb dX4_family_115 (by decide) ?_
          refine n_icmp_ne (tgt := 131) hx hb dX4_family_116 (by decide) (by first | assumption | omega) (by first | assumption | omega) (fun c48 => ?_) (fun c48 => ?_)
          · skip
            refine lv_iload_n hx hb dX4_family_131 rfl (lv_at hl 2 rfl) ?_
            refine lv_iconst (v := nI 2) hx hb dX4_family_132 (by decide) ?_
            refine n_icmp_ne (tgt := 145) hx hb dX4_family_133 (by decide) (by first | assumption | omega) (by first | assumption | omega) (fun c49 => ?_) (fun c49 => ?_)
            · skip
              refine lv_iload_n hx hb dX4_family_145 rfl (lv_at hl 4 rfl) ?_
              refine lv_i2l hx hb dX4_family_146 (nI_l (by first | assumption | omega)) ?_
              refine n_topl _ (lN (fz kd a bn jv)) (by rw [fz_l (k := jv) (by omega)]; unfold fLf; first | (rw [if_pos (by omega), if_pos (by omega)]) | (rw [if_neg (by omega), show jv = 1 by omega, Nat.one_mul])) ?_
              refine n_lastM hx hb hK hP hD hS 4 1 rfl rfl (i := jv) (v := (fz kd a bn jv)) (by omega) (by decide) dX4_family_147 (fun H locs hP hD hS => ?_)
              have hP : va_P g vwCl [(rm, .inr (4, [.int (nI 1), .ref a1, .ref a2, .ref a3, .ref a4, .ref a5, .ref a6, .ref a7, .ref a8, .ref a9, .int (nI tp), .int (nI mn), .ref b1, .int (nI bl), .ref b2, .ref b3, .int (nI jn), .int (nI sn), .ref b4, .ref b5, .ref b6, .ref b7, .ref b8, .int (nI wt), .int (nI wm), .int (nI wg), .long (lN wo), .int (nI wd), .ref b9])), (a1, .inl (cI, 25, .inl tz)), (a2, .inl (cI, 25, .inl tl)), (a3, .inl (cI, 25, .inl ty)), (b6, .inl (cJ, 25, .inr (.inl (fun j => lN ((upN fs jv (fz kd a bn jv)) j)))))] H := hP
              have hD : va_D A [(rm, .inr (4, [.int (nI 1), .ref a1, .ref a2, .ref a3, .ref a4, .ref a5, .ref a6, .ref a7, .ref a8, .ref a9, .int (nI tp), .int (nI mn), .ref b1, .int (nI bl), .ref b2, .ref b3, .int (nI jn), .int (nI sn), .ref b4, .ref b5, .ref b6, .ref b7, .ref b8, .int (nI wt), .int (nI wm), .int (nI wg), .long (lN wo), .int (nI wd), .ref b9])), (a1, .inl (cI, 25, .inl tz)), (a2, .inl (cI, 25, .inl tl)), (a3, .inl (cI, 25, .inl ty)), (b6, .inl (cJ, 25, .inr (.inl (fun j => lN ((upN fs jv (fz kd a bn jv)) j)))))] := hD
              refine lv_aload_n hx hb dX4_family_148 rfl (lv_at hl 1 rfl) ?_
              refine va_get (D := g) (ci := 4) (v := .ref b6) (C := RX4) (T := TX4) (N := 29) hx hb hts hinX4 hown hK hP 0 rfl rfl 20 (by decide) (hts (.fieldLink RX4 54 "BuddyRoofModel" "size" "[J") (by decide +kernel)) (fun _ h9 => h9) rfl dX4_family_149 ?_
              refine lv_iload hx hb dX4_family_152 (lv_at hl 6 rfl) ?_
              refine n_lald (v := lN (fz kd a bn jv)) hx hb hK hP 4 1 rfl rfl (i := jv) (by omega) (by decide) (by rw [upN_s]) dX4_family_154 ?_
              refine lv_ldc2 hx hb (v := 4194304) hown (hts (.constantLong RX4 80 4194304) (by decide +kernel)) dX4_family_155 ?_
              refine n_topl _ (lN 4194304) (by decide) ?_
              refine W.lcmp hx hb dX4_family_158 ?_
              refine n_lc_le (tgt := 163) hx hb dX4_family_159 (by decide) (by have := fz_b hkd ha.2 (fun q => (hbn q).2.2) hj.1 (fun i q1 q2 => (hT i q1 q2).2); omega) (by decide) (fun c50 => ?_) (fun c50 => ?_)
              · skip
                refine lv_iinc (v := nI (jv + 1)) (lv' := [(5, .int (nI (jv + 1))), (6, .int (nI 0)), (0, .ref rm), (1, .int (nI kd)), (2, .int (nI n)), (3, .int (nI a)), (4, .int b)]) hx hb dX4_family_163 hl (k := 6) rfl (n_inc _ 1) (by decide) rfl (fun ls hl => ?_)
                refine lv_goto (tgt := 67) hx hb dX4_family_166 (by decide) ?_
                exact ih (jv + 1) (upN fs jv (fz kd a bn jv)) (by omega) (by omega) (fun i q1 q2 => by
      by_cases e9 : i = jv
      · subst e9; exact ⟨upN_s _ _ _, c50⟩
      · rw [upN_n _ _ e9]; exact hT i q1 (by omega)) _ _ hP hD hS ls (lv_sub hl [2, 3, 4, 5, 6, 0] rfl)
              · skip
                exact kk1 (upN fs jv (fz kd a bn jv)) (fOK_f hj.1 (by omega) c50) _ _ hP hD hS ls (lv_sub hl [1] rfl)
            · skip
              refine lv_iload hx hb dX4_family_136 (lv_at hl 6 rfl) ?_
              refine lv_i2l hx hb dX4_family_138 (nI_l (by first | assumption | omega)) ?_
              refine lv_iload_n hx hb dX4_family_139 rfl (lv_at hl 4 rfl) ?_
              refine lv_i2l hx hb dX4_family_140 (nI_l (by first | assumption | omega)) ?_
              refine lv_lmul hx hb dX4_family_141 ?_
              refine n_topl _ (lN (jv * a)) (lN_mul _ _) ?_
              refine n_topl _ (lN (fz kd a bn jv)) (by rw [fz_l (k := jv) (by omega)]; unfold fLf; rw [if_neg (by omega)]) ?_
              refine lv_goto (tgt := 147) hx hb dX4_family_142 (by decide) ?_
              refine n_lastM hx hb hK hP hD hS 4 1 rfl rfl (i := jv) (v := (fz kd a bn jv)) (by omega) (by decide) dX4_family_147 (fun H locs hP hD hS => ?_)
              have hP : va_P g vwCl [(rm, .inr (4, [.int (nI 1), .ref a1, .ref a2, .ref a3, .ref a4, .ref a5, .ref a6, .ref a7, .ref a8, .ref a9, .int (nI tp), .int (nI mn), .ref b1, .int (nI bl), .ref b2, .ref b3, .int (nI jn), .int (nI sn), .ref b4, .ref b5, .ref b6, .ref b7, .ref b8, .int (nI wt), .int (nI wm), .int (nI wg), .long (lN wo), .int (nI wd), .ref b9])), (a1, .inl (cI, 25, .inl tz)), (a2, .inl (cI, 25, .inl tl)), (a3, .inl (cI, 25, .inl ty)), (b6, .inl (cJ, 25, .inr (.inl (fun j => lN ((upN fs jv (fz kd a bn jv)) j)))))] H := hP
              have hD : va_D A [(rm, .inr (4, [.int (nI 1), .ref a1, .ref a2, .ref a3, .ref a4, .ref a5, .ref a6, .ref a7, .ref a8, .ref a9, .int (nI tp), .int (nI mn), .ref b1, .int (nI bl), .ref b2, .ref b3, .int (nI jn), .int (nI sn), .ref b4, .ref b5, .ref b6, .ref b7, .ref b8, .int (nI wt), .int (nI wm), .int (nI wg), .long (lN wo), .int (nI wd), .ref b9])), (a1, .inl (cI, 25, .inl tz)), (a2, .inl (cI, 25, .inl tl)), (a3, .inl (cI, 25, .inl ty)), (b6, .inl (cJ, 25, .inr (.inl (fun j => lN ((upN fs jv (fz kd a bn jv)) j)))))] := hD
              refine lv_aload_n hx hb dX4_family_148 rfl (lv_at hl 1 rfl) ?_
              refine va_get (D := g) (ci := 4) (v := .ref b6) (C := RX4) (T := TX4) (N := 29) hx hb hts hinX4 hown hK hP 0 rfl rfl 20 (by decide) (hts (.fieldLink RX4 54 "BuddyRoofModel" "size" "[J") (by decide +kernel)) (fun _ h9 => h9) rfl dX4_family_149 ?_
              refine lv_iload hx hb dX4_family_152 (lv_at hl 6 rfl) ?_
              refine n_lald (v := lN (fz kd a bn jv)) hx hb hK hP 4 1 rfl rfl (i := jv) (by omega) (by decide) (by rw [upN_s]) dX4_family_154 ?_
              refine lv_ldc2 hx hb (v := 4194304) hown (hts (.constantLong RX4 80 4194304) (by decide +kernel)) dX4_family_155 ?_
              refine n_topl _ (lN 4194304) (by decide) ?_
              refine W.lcmp hx hb dX4_family_158 ?_
              refine n_lc_le (tgt := 163) hx hb dX4_family_159 (by decide) (by have := fz_b hkd ha.2 (fun q => (hbn q).2.2) hj.1 (fun i q1 q2 => (hT i q1 q2).2); omega) (by decide) (fun c51 => ?_) (fun c51 => ?_)
              · skip
                refine lv_iinc (v := nI (jv + 1)) (lv' := [(5, .int (nI (jv + 1))), (6, .int (nI 0)), (0, .ref rm), (1, .int (nI kd)), (2, .int (nI n)), (3, .int (nI a)), (4, .int b)]) hx hb dX4_family_163 hl (k := 6) rfl (n_inc _ 1) (by decide) rfl (fun ls hl => ?_)
                refine lv_goto (tgt := 67) hx hb dX4_family_166 (by decide) ?_
                exact ih (jv + 1) (upN fs jv (fz kd a bn jv)) (by omega) (by omega) (fun i q1 q2 => by
      by_cases e9 : i = jv
      · subst e9; exact ⟨upN_s _ _ _, c51⟩
      · rw [upN_n _ _ e9]; exact hT i q1 (by omega)) _ _ hP hD hS ls (lv_sub hl [2, 3, 4, 5, 6, 0] rfl)
              · skip
                exact kk1 (upN fs jv (fz kd a bn jv)) (fOK_f hj.1 (by omega) c51) _ _ hP hD hS ls (lv_sub hl [1] rfl)
          · skip
            refine lv_iload hx hb dX4_family_119 (lv_at hl 6 rfl) ?_
            refine lv_iconst (v := nI 2) hx hb dX4_family_121 (by decide) ?_
            refine n_icmp_ne (tgt := 131) hx hb dX4_family_122 (by decide) (by first | assumption | omega) (by first | assumption | omega) (fun c52 => ?_) (fun c52 => ?_)
            · skip
              refine lv_iload_n hx hb dX4_family_131 rfl (lv_at hl 2 rfl) ?_
              refine lv_iconst (v := nI 2) hx hb dX4_family_132 (by decide) ?_
              refine n_icmp_ne (tgt := 145) hx hb dX4_family_133 (by decide) (by first | assumption | omega) (by first | assumption | omega) (fun c53 => ?_) (fun c53 => ?_)
              · skip
                refine lv_iload_n hx hb dX4_family_145 rfl (lv_at hl 4 rfl) ?_
                refine lv_i2l hx hb dX4_family_146 (nI_l (by first | assumption | omega)) ?_
                refine n_topl _ (lN (fz kd a bn jv)) (by rw [fz_l (k := jv) (by omega)]; unfold fLf; first | (rw [if_pos (by omega), if_pos (by omega)]) | (rw [if_neg (by omega), show jv = 1 by omega, Nat.one_mul])) ?_
                refine n_lastM hx hb hK hP hD hS 4 1 rfl rfl (i := jv) (v := (fz kd a bn jv)) (by omega) (by decide) dX4_family_147 (fun H locs hP hD hS => ?_)
                have hP : va_P g vwCl [(rm, .inr (4, [.int (nI 1), .ref a1, .ref a2, .ref a3, .ref a4, .ref a5, .ref a6, .ref a7, .ref a8, .ref a9, .int (nI tp), .int (nI mn), .ref b1, .int (nI bl), .ref b2, .ref b3, .int (nI jn), .int (nI sn), .ref b4, .ref b5, .ref b6, .ref b7, .ref b8, .int (nI wt), .int (nI wm), .int (nI wg), .long (lN wo), .int (nI wd), .ref b9])), (a1, .inl (cI, 25, .inl tz)), (a2, .inl (cI, 25, .inl tl)), (a3, .inl (cI, 25, .inl ty)), (b6, .inl (cJ, 25, .inr (.inl (fun j => lN ((upN fs jv (fz kd a bn jv)) j)))))] H := hP
                have hD : va_D A [(rm, .inr (4, [.int (nI 1), .ref a1, .ref a2, .ref a3, .ref a4, .ref a5, .ref a6, .ref a7, .ref a8, .ref a9, .int (nI tp), .int (nI mn), .ref b1, .int (nI bl), .ref b2, .ref b3, .int (nI jn), .int (nI sn), .ref b4, .ref b5, .ref b6, .ref b7, .ref b8, .int (nI wt), .int (nI wm), .int (nI wg), .long (lN wo), .int (nI wd), .ref b9])), (a1, .inl (cI, 25, .inl tz)), (a2, .inl (cI, 25, .inl tl)), (a3, .inl (cI, 25, .inl ty)), (b6, .inl (cJ, 25, .inr (.inl (fun j => lN ((upN fs jv (fz kd a bn jv)) j)))))] := hD
                refine lv_aload_n hx hb dX4_family_148 rfl (lv_at hl 1 rfl) ?_
                refine va_get (D := g) (ci := 4) (v := .ref b6) (C := RX4) (T := TX4) (N := 29) hx hb hts hinX4 hown hK hP 0 rfl rfl 20 (by decide) (hts (.fieldLink RX4 54 "BuddyRoofModel" "size" "[J") (by decide +kernel)) (fun _ h9 => h9) rfl dX4_family_149 ?_
                refine lv_iload hx hb dX4_family_152 (lv_at hl 6 rfl) ?_
                refine n_lald (v := lN (fz kd a bn jv)) hx hb hK hP 4 1 rfl rfl (i := jv) (by omega) (by decide) (by rw [upN_s]) dX4_family_154 ?_
                refine lv_ldc2 hx hb (v := 4194304) hown (hts (.constantLong RX4 80 4194304) (by decide +kernel)) dX4_family_155 ?_
                refine n_topl _ (lN 4194304) (by decide) ?_
                refine W.lcmp hx hb dX4_family_158 ?_
                refine n_lc_le (tgt := 163) hx hb dX4_family_159 (by decide) (by have := fz_b hkd ha.2 (fun q => (hbn q).2.2) hj.1 (fun i q1 q2 => (hT i q1 q2).2); omega) (by decide) (fun c54 => ?_) (fun c54 => ?_)
                · skip
                  refine lv_iinc (v := nI (jv + 1)) (lv' := [(5, .int (nI (jv + 1))), (6, .int (nI 0)), (0, .ref rm), (1, .int (nI kd)), (2, .int (nI n)), (3, .int (nI a)), (4, .int b)]) hx hb dX4_family_163 hl (k := 6) rfl (n_inc _ 1) (by decide) rfl (fun ls hl => ?_)
                  refine lv_goto (tgt := 67) hx hb dX4_family_166 (by decide) ?_
                  exact ih (jv + 1) (upN fs jv (fz kd a bn jv)) (by omega) (by omega) (fun i q1 q2 => by
      by_cases e9 : i = jv
      · subst e9; exact ⟨upN_s _ _ _, c54⟩
      · rw [upN_n _ _ e9]; exact hT i q1 (by omega)) _ _ hP hD hS ls (lv_sub hl [2, 3, 4, 5, 6, 0] rfl)
                · skip
                  exact kk1 (upN fs jv (fz kd a bn jv)) (fOK_f hj.1 (by omega) c54) _ _ hP hD hS ls (lv_sub hl [1] rfl)
              · skip
                refine lv_iload hx hb dX4_family_136 (lv_at hl 6 rfl) ?_
                refine lv_i2l hx hb dX4_family_138 (nI_l (by first | assumption | omega)) ?_
                refine lv_iload_n hx hb dX4_family_139 rfl (lv_at hl 4 rfl) ?_
                refine lv_i2l hx hb dX4_family_140 (nI_l (by first | assumption | omega)) ?_
                refine lv_lmul hx hb dX4_family_141 ?_
                refine n_topl _ (lN (jv * a)) (lN_mul _ _) ?_
                refine n_topl _ (lN (fz kd a bn jv)) (by rw [fz_l (k := jv) (by omega)]; unfold fLf; rw [if_neg (by omega)]) ?_
                refine lv_goto (tgt := 147) hx hb dX4_family_142 (by decide) ?_
                refine n_lastM hx hb hK hP hD hS 4 1 rfl rfl (i := jv) (v := (fz kd a bn jv)) (by omega) (by decide) dX4_family_147 (fun H locs hP hD hS => ?_)
                have hP : va_P g vwCl [(rm, .inr (4, [.int (nI 1), .ref a1, .ref a2, .ref a3, .ref a4, .ref a5, .ref a6, .ref a7, .ref a8, .ref a9, .int (nI tp), .int (nI mn), .ref b1, .int (nI bl), .ref b2, .ref b3, .int (nI jn), .int (nI sn), .ref b4, .ref b5, .ref b6, .ref b7, .ref b8, .int (nI wt), .int (nI wm), .int (nI wg), .long (lN wo), .int (nI wd), .ref b9])), (a1, .inl (cI, 25, .inl tz)), (a2, .inl (cI, 25, .inl tl)), (a3, .inl (cI, 25, .inl ty)), (b6, .inl (cJ, 25, .inr (.inl (fun j => lN ((upN fs jv (fz kd a bn jv)) j)))))] H := hP
                have hD : va_D A [(rm, .inr (4, [.int (nI 1), .ref a1, .ref a2, .ref a3, .ref a4, .ref a5, .ref a6, .ref a7, .ref a8, .ref a9, .int (nI tp), .int (nI mn), .ref b1, .int (nI bl), .ref b2, .ref b3, .int (nI jn), .int (nI sn), .ref b4, .ref b5, .ref b6, .ref b7, .ref b8, .int (nI wt), .int (nI wm), .int (nI wg), .long (lN wo), .int (nI wd), .ref b9])), (a1, .inl (cI, 25, .inl tz)), (a2, .inl (cI, 25, .inl tl)), (a3, .inl (cI, 25, .inl ty)), (b6, .inl (cJ, 25, .inr (.inl (fun j => lN ((upN fs jv (fz kd a bn jv)) j)))))] := hD
                refine lv_aload_n hx hb dX4_family_148 rfl (lv_at hl 1 rfl) ?_
                refine va_get (D := g) (ci := 4) (v := .ref b6) (C := RX4) (T := TX4) (N := 29) hx hb hts hinX4 hown hK hP 0 rfl rfl 20 (by decide) (hts (.fieldLink RX4 54 "BuddyRoofModel" "size" "[J") (by decide +kernel)) (fun _ h9 => h9) rfl dX4_family_149 ?_
                refine lv_iload hx hb dX4_family_152 (lv_at hl 6 rfl) ?_
                refine n_lald (v := lN (fz kd a bn jv)) hx hb hK hP 4 1 rfl rfl (i := jv) (by omega) (by decide) (by rw [upN_s]) dX4_family_154 ?_
                refine lv_ldc2 hx hb (v := 4194304) hown (hts (.constantLong RX4 80 4194304) (by decide +kernel)) dX4_family_155 ?_
                refine n_topl _ (lN 4194304) (by decide) ?_
                refine W.lcmp hx hb dX4_family_158 ?_
                refine n_lc_le (tgt := 163) hx hb dX4_family_159 (by decide) (by have := fz_b hkd ha.2 (fun q => (hbn q).2.2) hj.1 (fun i q1 q2 => (hT i q1 q2).2); omega) (by decide) (fun c55 => ?_) (fun c55 => ?_)
                · skip
                  refine lv_iinc (v := nI (jv + 1)) (lv' := [(5, .int (nI (jv + 1))), (6, .int (nI 0)), (0, .ref rm), (1, .int (nI kd)), (2, .int (nI n)), (3, .int (nI a)), (4, .int b)]) hx hb dX4_family_163 hl (k := 6) rfl (n_inc _ 1) (by decide) rfl (fun ls hl => ?_)
                  refine lv_goto (tgt := 67) hx hb dX4_family_166 (by decide) ?_
                  exact ih (jv + 1) (upN fs jv (fz kd a bn jv)) (by omega) (by omega) (fun i q1 q2 => by
      by_cases e9 : i = jv
      · subst e9; exact ⟨upN_s _ _ _, c55⟩
      · rw [upN_n _ _ e9]; exact hT i q1 (by omega)) _ _ hP hD hS ls (lv_sub hl [2, 3, 4, 5, 6, 0] rfl)
                · skip
                  exact kk1 (upN fs jv (fz kd a bn jv)) (fOK_f hj.1 (by omega) c55) _ _ hP hD hS ls (lv_sub hl [1] rfl)
            · skip
              refine lv_iload hx hb dX4_family_125 (lv_at hl 5 rfl) ?_
              refine lv_i2l hx hb dX4_family_127 rfl ?_
              refine n_topl _ (lN (fz kd a bn jv)) (by rw [(hbn (by omega)).1, fz_l (k := jv) (by omega)]; unfold fLf; rw [if_pos (by omega), if_neg (by omega)]; exact nI_l (by have := (hbn (by omega)).2.2; omega)) ?_
              refine lv_goto (tgt := 147) hx hb dX4_family_128 (by decide) ?_
              refine n_lastM hx hb hK hP hD hS 4 1 rfl rfl (i := jv) (v := (fz kd a bn jv)) (by omega) (by decide) dX4_family_147 (fun H locs hP hD hS => ?_)
              have hP : va_P g vwCl [(rm, .inr (4, [.int (nI 1), .ref a1, .ref a2, .ref a3, .ref a4, .ref a5, .ref a6, .ref a7, .ref a8, .ref a9, .int (nI tp), .int (nI mn), .ref b1, .int (nI bl), .ref b2, .ref b3, .int (nI jn), .int (nI sn), .ref b4, .ref b5, .ref b6, .ref b7, .ref b8, .int (nI wt), .int (nI wm), .int (nI wg), .long (lN wo), .int (nI wd), .ref b9])), (a1, .inl (cI, 25, .inl tz)), (a2, .inl (cI, 25, .inl tl)), (a3, .inl (cI, 25, .inl ty)), (b6, .inl (cJ, 25, .inr (.inl (fun j => lN ((upN fs jv (fz kd a bn jv)) j)))))] H := hP
              have hD : va_D A [(rm, .inr (4, [.int (nI 1), .ref a1, .ref a2, .ref a3, .ref a4, .ref a5, .ref a6, .ref a7, .ref a8, .ref a9, .int (nI tp), .int (nI mn), .ref b1, .int (nI bl), .ref b2, .ref b3, .int (nI jn), .int (nI sn), .ref b4, .ref b5, .ref b6, .ref b7, .ref b8, .int (nI wt), .int (nI wm), .int (nI wg), .long (lN wo), .int (nI wd), .ref b9])), (a1, .inl (cI, 25, .inl tz)), (a2, .inl (cI, 25, .inl tl)), (a3, .inl (cI, 25, .inl ty)), (b6, .inl (cJ, 25, .inr (.inl (fun j => lN ((upN fs jv (fz kd a bn jv)) j)))))] := hD
              refine lv_aload_n hx hb dX4_family_148 rfl (lv_at hl 1 rfl) ?_
              refine va_get (D := g) (ci := 4) (v := .ref b6) (C := RX4) (T := TX4) (N := 29) hx hb hts hinX4 hown hK hP 0 rfl rfl 20 (by decide) (hts (.fieldLink RX4 54 "BuddyRoofModel" "size" "[J") (by decide +kernel)) (fun _ h9 => h9) rfl dX4_family_149 ?_
              refine lv_iload hx hb dX4_family_152 (lv_at hl 6 rfl) ?_
              refine n_lald (v := lN (fz kd a bn jv)) hx hb hK hP 4 1 rfl rfl (i := jv) (by omega) (by decide) (by rw [upN_s]) dX4_family_154 ?_
              refine lv_ldc2 hx hb (v := 4194304) hown (hts (.constantLong RX4 80 4194304) (by decide +kernel)) dX4_family_155 ?_
              refine n_topl _ (lN 4194304) (by decide) ?_
              refine W.lcmp hx hb dX4_family_158 ?_
              refine n_lc_le (tgt := 163) hx hb dX4_family_159 (by decide) (by have := fz_b hkd ha.2 (fun q => (hbn q).2.2) hj.1 (fun i q1 q2 => (hT i q1 q2).2); omega) (by decide) (fun c56 => ?_) (fun c56 => ?_)
              · skip
                refine lv_iinc (v := nI (jv + 1)) (lv' := [(5, .int (nI (jv + 1))), (6, .int (nI 0)), (0, .ref rm), (1, .int (nI kd)), (2, .int (nI n)), (3, .int (nI a)), (4, .int b)]) hx hb dX4_family_163 hl (k := 6) rfl (n_inc _ 1) (by decide) rfl (fun ls hl => ?_)
                refine lv_goto (tgt := 67) hx hb dX4_family_166 (by decide) ?_
                exact ih (jv + 1) (upN fs jv (fz kd a bn jv)) (by omega) (by omega) (fun i q1 q2 => by
      by_cases e9 : i = jv
      · subst e9; exact ⟨upN_s _ _ _, c56⟩
      · rw [upN_n _ _ e9]; exact hT i q1 (by omega)) _ _ hP hD hS ls (lv_sub hl [2, 3, 4, 5, 6, 0] rfl)
              · skip
                exact kk1 (upN fs jv (fz kd a bn jv)) (fOK_f hj.1 (by omega) c56) _ _ hP hD hS ls (lv_sub hl [1] rfl)
        · exact (by exact absurd c47 (by decide))

set_option maxHeartbeats 4000000 in
set_option maxRecDepth 100000 in
theorem lp_X4_family_s_177 {p : Program} {e : Env} {s : State} {m : MethodId} {args : Array Value} {below : List Frame} {meth : Method} {c : Code} {Q : State → Prop} (l : Launch) (g : va_G) (cI cJ cZ : ClassId) (rm a1 a2 a3 a4 a5 a6 a7 a8 a9 b1 b2 b3 b4 b5 b6 b7 b8 b9 : Nat) (cd tp mn bl jn sn wt wm wg wo wd : Nat) (tz tl ty : Nat → Int32) (fs0 : Nat → Nat) (kd n a bn : Nat) (b : Int32) (hkd : kd ≤ 2) (hn : 1 ≤ n ∧ n ≤ 24) (ha : 4 ≤ a ∧ a ≤ 4194304) (hbn : kd = 1 → b = nI bn ∧ 4 ≤ bn ∧ bn ≤ 4194304) (hok : fOK kd a bn n = true) (fs : Nat → Nat) (hT : ∀ i, 1 ≤ i → i ≤ n → fs i = fz kd a bn i ∧ fz kd a bn i ≤ 4194304) (C0 : cM p s m args meth c cX4_family 7 none wsX4_family RX4) (hk : kK g (kty cI cJ cZ) s) {A : Nat → Prop} {H0 : Heap} (hA : ∀ q : Nat, H0.size ≤ q → A q) (kk0 :  ∀ (H : Heap) (locs : List Loc), va_P g vwCl [(rm, .inr (4, [.int (nI 0), .ref a1, .ref a2, .ref a3, .ref a4, .ref a5, .ref a6, .ref a7, .ref a8, .ref a9, .int (nI tp), .int (nI mn), .ref b1, .int (nI bl), .ref b2, .ref b3, .int (nI jn), .int (nI sn), .ref b4, .ref b5, .ref b6, .ref b7, .ref b8, .int (nI wt), .int (nI wm), .int (nI wg), .long (lN wo), .int (nI wd), .ref b9])), (a1, .inl (cI, 25, .inl (fmi tz (fmS kd a bn n tz) 25))), (a2, .inl (cI, 25, .inl (fmi tl (fmL kd n tl) 25))), (a3, .inl (cI, 25, .inl (fmi ty (fmR kd n ty) 25))), (b6, .inl (cJ, 25, .inr (.inl (fun j => lN (fs j)))))] H → va_D A [(rm, .inr (4, [.int (nI 0), .ref a1, .ref a2, .ref a3, .ref a4, .ref a5, .ref a6, .ref a7, .ref a8, .ref a9, .int (nI tp), .int (nI mn), .ref b1, .int (nI bl), .ref b2, .ref b3, .int (nI jn), .int (nI sn), .ref b4, .ref b5, .ref b6, .ref b7, .ref b8, .int (nI wt), .int (nI wm), .int (nI wg), .long (lN wo), .int (nI wd), .ref b9])), (a1, .inl (cI, 25, .inl (fmi tz (fmS kd a bn n tz) 25))), (a2, .inl (cI, 25, .inl (fmi tl (fmL kd n tl) 25))), (a3, .inl (cI, 25, .inl (fmi ty (fmR kd n ty) 25))), (b6, .inl (cJ, 25, .inr (.inl (fun j => lN (fs j)))))] → va_S A H0 H locs → ∀ (ls : Array Slot), lv_has ls 7 [(0, .ref rm)] → W p l e (headSpec wsX4_family ({ frames := 1, cells := 0, slots := 0, locals := 25 })).room s m args below meth c H locs 0 0 Q (F0 m 261 ls [])) :
    ∀ (K : Nat) (jv : Nat), (25 - jv) < K → (1 ≤ jv ∧ jv ≤ 25) → ∀ (H : Heap) (locs : List Loc), va_P g vwCl [(rm, .inr (4, [.int (nI 0), .ref a1, .ref a2, .ref a3, .ref a4, .ref a5, .ref a6, .ref a7, .ref a8, .ref a9, .int (nI tp), .int (nI mn), .ref b1, .int (nI bl), .ref b2, .ref b3, .int (nI jn), .int (nI sn), .ref b4, .ref b5, .ref b6, .ref b7, .ref b8, .int (nI wt), .int (nI wm), .int (nI wg), .long (lN wo), .int (nI wd), .ref b9])), (a1, .inl (cI, 25, .inl (fmi tz (fmS kd a bn n tz) jv))), (a2, .inl (cI, 25, .inl (fmi tl (fmL kd n tl) jv))), (a3, .inl (cI, 25, .inl (fmi ty (fmR kd n ty) jv))), (b6, .inl (cJ, 25, .inr (.inl (fun j => lN (fs j)))))] H → va_D A [(rm, .inr (4, [.int (nI 0), .ref a1, .ref a2, .ref a3, .ref a4, .ref a5, .ref a6, .ref a7, .ref a8, .ref a9, .int (nI tp), .int (nI mn), .ref b1, .int (nI bl), .ref b2, .ref b3, .int (nI jn), .int (nI sn), .ref b4, .ref b5, .ref b6, .ref b7, .ref b8, .int (nI wt), .int (nI wm), .int (nI wg), .long (lN wo), .int (nI wd), .ref b9])), (a1, .inl (cI, 25, .inl (fmi tz (fmS kd a bn n tz) jv))), (a2, .inl (cI, 25, .inl (fmi tl (fmL kd n tl) jv))), (a3, .inl (cI, 25, .inl (fmi ty (fmR kd n ty) jv))), (b6, .inl (cJ, 25, .inr (.inl (fun j => lN (fs j)))))] → va_S A H0 H locs →∀ (ls : Array Slot), lv_has ls 7 [(0, .ref rm), (1, .int (nI kd)), (2, .int (nI n)), (3, .int (nI a)), (4, .int b), (5, .int (nI jv))] → W p l e (headSpec wsX4_family ({ frames := 1, cells := 0, slots := 0, locals := 25 })).room s m args below meth c H locs 0 0 Q (F0 m 177 ls []) := by
  obtain ⟨hx, hb, hr, hml, hown, hts, hlocks⟩ := C0
  have hK := hk.1
  have hinX4 : ∀ w ∈ wsX40, w ∈ wsX4_family := by decide +kernel
  intro K
  induction K with
  | zero =>
    intro jv h0
    exact absurd h0 (Nat.not_lt_zero _)
  | succ K ih =>
    intro jv hmu hj H locs hP hD hS ls hl
    refine lv_iload hx hb dX4_family_177 (lv_at hl 5 rfl) ?_
    refine lv_bipush (v := nI 25) hx hb dX4_family_179 (by decide) ?_
    refine n_icmp_ge (tgt := 261) hx hb dX4_family_181 (by decide) (by first | assumption | omega) (by first | assumption | omega) (fun c57 => ?_) (fun c57 => ?_)
    · skip
      obtain rfl : jv = 25 := by omega
      exact kk0   _ _ hP hD hS ls (lv_sub hl [0] rfl)
    · skip
      refine lv_aload_n hx hb dX4_family_184 rfl (lv_at hl 0 rfl) ?_
      refine va_get (D := g) (ci := 4) (v := .ref a1) (C := RX4) (T := TX4) (N := 29) hx hb hts hinX4 hown hK hP 0 rfl rfl 1 (by decide) (hts (.fieldLink RX4 7 "BuddyRoofModel" "toldSize" "[I") (by decide +kernel)) (fun _ h9 => h9) rfl dX4_family_185 ?_
      refine lv_iload hx hb dX4_family_188 (lv_at hl 5 rfl) ?_
      refine lv_iload hx hb dX4_family_190 (lv_at hl 5 rfl) ?_
      refine lv_iload_n hx hb dX4_family_192 rfl (lv_at hl 2 rfl) ?_
      refine n_icmp_le (tgt := 200) hx hb dX4_family_193 (by decide) (by first | assumption | omega) (by first | assumption | omega) (fun c58 => ?_) (fun c58 => ?_)
      · skip
        refine lv_aload_n hx hb dX4_family_200 rfl (lv_at hl 0 rfl) ?_
        refine va_get (D := g) (ci := 4) (v := .ref b6) (C := RX4) (T := TX4) (N := 29) hx hb hts hinX4 hown hK hP 0 rfl rfl 20 (by decide) (hts (.fieldLink RX4 54 "BuddyRoofModel" "size" "[J") (by decide +kernel)) (fun _ h9 => h9) rfl dX4_family_201 ?_
        refine lv_iload hx hb dX4_family_204 (lv_at hl 5 rfl) ?_
        refine n_lald (v := lN (fz kd a bn jv)) hx hb hK hP 4 1 rfl rfl (i := jv) (by omega) (by decide) (by rw [(hT _ (by omega) (by omega)).1]) dX4_family_206 ?_
        refine lv_l2i hx hb dX4_family_207 (lN_i _) ?_
        refine n_astI hx hb hK hP hD hS 1 0 rfl rfl (i := jv) (v := (nI (fz kd a bn jv))) (by omega) (by decide) dX4_family_208 (fun H locs hP hD hS => ?_)
        have hP : va_P g vwCl [(rm, .inr (4, [.int (nI 0), .ref a1, .ref a2, .ref a3, .ref a4, .ref a5, .ref a6, .ref a7, .ref a8, .ref a9, .int (nI tp), .int (nI mn), .ref b1, .int (nI bl), .ref b2, .ref b3, .int (nI jn), .int (nI sn), .ref b4, .ref b5, .ref b6, .ref b7, .ref b8, .int (nI wt), .int (nI wm), .int (nI wg), .long (lN wo), .int (nI wd), .ref b9])), (a1, .inl (cI, 25, .inl (upd (fmi tz (fmS kd a bn n tz) jv) jv (nI (fz kd a bn jv))))), (a2, .inl (cI, 25, .inl (fmi tl (fmL kd n tl) jv))), (a3, .inl (cI, 25, .inl (fmi ty (fmR kd n ty) jv))), (b6, .inl (cJ, 25, .inr (.inl (fun j => lN (fs j)))))] H := hP
        have hD : va_D A [(rm, .inr (4, [.int (nI 0), .ref a1, .ref a2, .ref a3, .ref a4, .ref a5, .ref a6, .ref a7, .ref a8, .ref a9, .int (nI tp), .int (nI mn), .ref b1, .int (nI bl), .ref b2, .ref b3, .int (nI jn), .int (nI sn), .ref b4, .ref b5, .ref b6, .ref b7, .ref b8, .int (nI wt), .int (nI wm), .int (nI wg), .long (lN wo), .int (nI wd), .ref b9])), (a1, .inl (cI, 25, .inl (upd (fmi tz (fmS kd a bn n tz) jv) jv (nI (fz kd a bn jv))))), (a2, .inl (cI, 25, .inl (fmi tl (fmL kd n tl) jv))), (a3, .inl (cI, 25, .inl (fmi ty (fmR kd n ty) jv))), (b6, .inl (cJ, 25, .inr (.inl (fun j => lN (fs j)))))] := hD
        refine lv_aload_n hx hb dX4_family_209 rfl (lv_at hl 0 rfl) ?_
        refine va_get (D := g) (ci := 4) (v := .ref a2) (C := RX4) (T := TX4) (N := 29) hx hb hts hinX4 hown hK hP 0 rfl rfl 2 (by decide) (hts (.fieldLink RX4 13 "BuddyRoofModel" "toldLeft" "[I") (by decide +kernel)) (fun _ h9 => h9) rfl dX4_family_210 ?_
        refine lv_iload hx hb dX4_family_213 (lv_at hl 5 rfl) ?_
        refine lv_iload hx hb dX4_family_215 (lv_at hl 5 rfl) ?_
        refine lv_iload_n hx hb dX4_family_217 rfl (lv_at hl 2 rfl) ?_
        refine n_icmp_le (tgt := 225) hx hb dX4_family_218 (by decide) (by first | assumption | omega) (by first | assumption | omega) (fun c59 => ?_) (fun c59 => ?_)
        · skip
          refine lv_iload_n hx hb dX4_family_225 rfl (lv_at hl 1 rfl) ?_
          refine lv_iload hx hb dX4_family_226 (lv_at hl 5 rfl) ?_
          by_cases hcs : kd + 1 < jv
          · skip
            refine k_goR (W.runS (As := [.int (nI kd), .int (nI jv)]) (rest := [.int (nI jv), .ref a2]) ⟨hx, hb, hml, hown, hts⟩ (c_X4_leftOf l g cI cJ cZ  kd jv hkd (by omega)) (va_cwS 2 hts gX4_family_X4_leftOf rfl rfl rfl (by decide +kernel) ⟨Nat.le_of_ble_eq_true rfl, Nat.le_of_ble_eq_true rfl⟩) (k_preRS hk hP [] rfl) rfl rfl hl.1 rfl (lv_room (Nat.le_of_ble_eq_true rfl)) dX4_family_228 ⟨by first | exact Nat.zero_le _ | omega, by first | exact Nat.zero_le _ | omega⟩) ?_
            refine n_top _ (nI (jv - 1)) (by rw [if_pos hcs]) ?_
            refine n_astI hx hb hK hP hD hS 2 0 rfl rfl (i := jv) (v := (nI (jv - 1))) (by omega) (by decide) dX4_family_231 (fun H locs hP hD hS => ?_)
            have hP : va_P g vwCl [(rm, .inr (4, [.int (nI 0), .ref a1, .ref a2, .ref a3, .ref a4, .ref a5, .ref a6, .ref a7, .ref a8, .ref a9, .int (nI tp), .int (nI mn), .ref b1, .int (nI bl), .ref b2, .ref b3, .int (nI jn), .int (nI sn), .ref b4, .ref b5, .ref b6, .ref b7, .ref b8, .int (nI wt), .int (nI wm), .int (nI wg), .long (lN wo), .int (nI wd), .ref b9])), (a1, .inl (cI, 25, .inl (upd (fmi tz (fmS kd a bn n tz) jv) jv (nI (fz kd a bn jv))))), (a2, .inl (cI, 25, .inl (upd (fmi tl (fmL kd n tl) jv) jv (nI (jv - 1))))), (a3, .inl (cI, 25, .inl (fmi ty (fmR kd n ty) jv))), (b6, .inl (cJ, 25, .inr (.inl (fun j => lN (fs j)))))] H := hP
            have hD : va_D A [(rm, .inr (4, [.int (nI 0), .ref a1, .ref a2, .ref a3, .ref a4, .ref a5, .ref a6, .ref a7, .ref a8, .ref a9, .int (nI tp), .int (nI mn), .ref b1, .int (nI bl), .ref b2, .ref b3, .int (nI jn), .int (nI sn), .ref b4, .ref b5, .ref b6, .ref b7, .ref b8, .int (nI wt), .int (nI wm), .int (nI wg), .long (lN wo), .int (nI wd), .ref b9])), (a1, .inl (cI, 25, .inl (upd (fmi tz (fmS kd a bn n tz) jv) jv (nI (fz kd a bn jv))))), (a2, .inl (cI, 25, .inl (upd (fmi tl (fmL kd n tl) jv) jv (nI (jv - 1))))), (a3, .inl (cI, 25, .inl (fmi ty (fmR kd n ty) jv))), (b6, .inl (cJ, 25, .inr (.inl (fun j => lN (fs j)))))] := hD
            refine lv_aload_n hx hb dX4_family_232 rfl (lv_at hl 0 rfl) ?_
            refine va_get (D := g) (ci := 4) (v := .ref a3) (C := RX4) (T := TX4) (N := 29) hx hb hts hinX4 hown hK hP 0 rfl rfl 3 (by decide) (hts (.fieldLink RX4 16 "BuddyRoofModel" "toldRight" "[I") (by decide +kernel)) (fun _ h9 => h9) rfl dX4_family_233 ?_
            refine lv_iload hx hb dX4_family_236 (lv_at hl 5 rfl) ?_
            refine lv_iload hx hb dX4_family_238 (lv_at hl 5 rfl) ?_
            refine lv_iload_n hx hb dX4_family_240 rfl (lv_at hl 2 rfl) ?_
            refine n_icmp_le (tgt := 248) hx hb dX4_family_241 (by decide) (by first | assumption | omega) (by first | assumption | omega) (fun c60 => ?_) (fun c60 => ?_)
            · skip
              refine lv_iload_n hx hb dX4_family_248 rfl (lv_at hl 1 rfl) ?_
              refine lv_iload hx hb dX4_family_249 (lv_at hl 5 rfl) ?_
              refine k_goR (W.runS (As := [.int (nI kd), .int (nI jv)]) (rest := [.int (nI jv), .ref a3]) ⟨hx, hb, hml, hown, hts⟩ (c_X4_rightOf l g cI cJ cZ  kd jv hkd (by omega)) (va_cwS 2 hts gX4_family_X4_rightOf rfl rfl rfl (by decide +kernel) ⟨Nat.le_of_ble_eq_true rfl, Nat.le_of_ble_eq_true rfl⟩) (k_preRS hk hP [] rfl) rfl rfl hl.1 rfl (lv_room (Nat.le_of_ble_eq_true rfl)) dX4_family_251 ⟨by first | exact Nat.zero_le _ | omega, by first | exact Nat.zero_le _ | omega⟩) ?_
              refine n_top _ (nI (fR kd jv)) (by rw [if_pos hcs]) ?_
              refine n_astI hx hb hK hP hD hS 3 0 rfl rfl (i := jv) (v := (nI (fR kd jv))) (by omega) (by decide) dX4_family_254 (fun H locs hP hD hS => ?_)
              have hP : va_P g vwCl [(rm, .inr (4, [.int (nI 0), .ref a1, .ref a2, .ref a3, .ref a4, .ref a5, .ref a6, .ref a7, .ref a8, .ref a9, .int (nI tp), .int (nI mn), .ref b1, .int (nI bl), .ref b2, .ref b3, .int (nI jn), .int (nI sn), .ref b4, .ref b5, .ref b6, .ref b7, .ref b8, .int (nI wt), .int (nI wm), .int (nI wg), .long (lN wo), .int (nI wd), .ref b9])), (a1, .inl (cI, 25, .inl (upd (fmi tz (fmS kd a bn n tz) jv) jv (nI (fz kd a bn jv))))), (a2, .inl (cI, 25, .inl (upd (fmi tl (fmL kd n tl) jv) jv (nI (jv - 1))))), (a3, .inl (cI, 25, .inl (upd (fmi ty (fmR kd n ty) jv) jv (nI (fR kd jv))))), (b6, .inl (cJ, 25, .inr (.inl (fun j => lN (fs j)))))] H := hP
              have hD : va_D A [(rm, .inr (4, [.int (nI 0), .ref a1, .ref a2, .ref a3, .ref a4, .ref a5, .ref a6, .ref a7, .ref a8, .ref a9, .int (nI tp), .int (nI mn), .ref b1, .int (nI bl), .ref b2, .ref b3, .int (nI jn), .int (nI sn), .ref b4, .ref b5, .ref b6, .ref b7, .ref b8, .int (nI wt), .int (nI wm), .int (nI wg), .long (lN wo), .int (nI wd), .ref b9])), (a1, .inl (cI, 25, .inl (upd (fmi tz (fmS kd a bn n tz) jv) jv (nI (fz kd a bn jv))))), (a2, .inl (cI, 25, .inl (upd (fmi tl (fmL kd n tl) jv) jv (nI (jv - 1))))), (a3, .inl (cI, 25, .inl (upd (fmi ty (fmR kd n ty) jv) jv (nI (fR kd jv))))), (b6, .inl (cJ, 25, .inr (.inl (fun j => lN (fs j)))))] := hD
              refine lv_iinc (v := nI (jv + 1)) (lv' := [(5, .int (nI (jv + 1))), (0, .ref rm), (1, .int (nI kd)), (2, .int (nI n)), (3, .int (nI a)), (4, .int b)]) hx hb dX4_family_255 hl (k := 5) rfl (n_inc _ 1) (by decide) rfl (fun ls hl => ?_)
              refine lv_goto (tgt := 177) hx hb dX4_family_258 (by decide) ?_
              obtain ⟨f1, f2, f3⟩ := fm_s (sz := tz) (lf := tl) (rt := ty) (a := a) (b := bn) (kd := kd) (n := n) hj.1 (by omega) (by omega) hcs
              rw [fmi_s hj.1 f1, fmi_s hj.1 f2, fmi_s hj.1 f3] at hP hD
              exact ih (jv + 1) (by omega) (by omega) _ _ hP hD hS ls (lv_sub hl [1, 2, 3, 4, 5, 0] rfl)
            · exact (by exfalso; omega)
          · skip
            refine k_goR (W.runS (As := [.int (nI kd), .int (nI jv)]) (rest := [.int (nI jv), .ref a2]) ⟨hx, hb, hml, hown, hts⟩ (c_X4_leftOf l g cI cJ cZ  kd jv hkd (by omega)) (va_cwS 2 hts gX4_family_X4_leftOf rfl rfl rfl (by decide +kernel) ⟨Nat.le_of_ble_eq_true rfl, Nat.le_of_ble_eq_true rfl⟩) (k_preRS hk hP [] rfl) rfl rfl hl.1 rfl (lv_room (Nat.le_of_ble_eq_true rfl)) dX4_family_228 ⟨by first | exact Nat.zero_le _ | omega, by first | exact Nat.zero_le _ | omega⟩) ?_
            refine n_top _ (nI 0) (by rw [if_neg hcs]) ?_
            refine n_astI hx hb hK hP hD hS 2 0 rfl rfl (i := jv) (v := (nI 0)) (by omega) (by decide) dX4_family_231 (fun H locs hP hD hS => ?_)
            have hP : va_P g vwCl [(rm, .inr (4, [.int (nI 0), .ref a1, .ref a2, .ref a3, .ref a4, .ref a5, .ref a6, .ref a7, .ref a8, .ref a9, .int (nI tp), .int (nI mn), .ref b1, .int (nI bl), .ref b2, .ref b3, .int (nI jn), .int (nI sn), .ref b4, .ref b5, .ref b6, .ref b7, .ref b8, .int (nI wt), .int (nI wm), .int (nI wg), .long (lN wo), .int (nI wd), .ref b9])), (a1, .inl (cI, 25, .inl (upd (fmi tz (fmS kd a bn n tz) jv) jv (nI (fz kd a bn jv))))), (a2, .inl (cI, 25, .inl (upd (fmi tl (fmL kd n tl) jv) jv (nI 0)))), (a3, .inl (cI, 25, .inl (fmi ty (fmR kd n ty) jv))), (b6, .inl (cJ, 25, .inr (.inl (fun j => lN (fs j)))))] H := hP
            have hD : va_D A [(rm, .inr (4, [.int (nI 0), .ref a1, .ref a2, .ref a3, .ref a4, .ref a5, .ref a6, .ref a7, .ref a8, .ref a9, .int (nI tp), .int (nI mn), .ref b1, .int (nI bl), .ref b2, .ref b3, .int (nI jn), .int (nI sn), .ref b4, .ref b5, .ref b6, .ref b7, .ref b8, .int (nI wt), .int (nI wm), .int (nI wg), .long (lN wo), .int (nI wd), .ref b9])), (a1, .inl (cI, 25, .inl (upd (fmi tz (fmS kd a bn n tz) jv) jv (nI (fz kd a bn jv))))), (a2, .inl (cI, 25, .inl (upd (fmi tl (fmL kd n tl) jv) jv (nI 0)))), (a3, .inl (cI, 25, .inl (fmi ty (fmR kd n ty) jv))), (b6, .inl (cJ, 25, .inr (.inl (fun j => lN (fs j)))))] := hD
            refine lv_aload_n hx hb dX4_family_232 rfl (lv_at hl 0 rfl) ?_
            refine va_get (D := g) (ci := 4) (v := .ref a3) (C := RX4) (T := TX4) (N := 29) hx hb hts hinX4 hown hK hP 0 rfl rfl 3 (by decide) (hts (.fieldLink RX4 16 "BuddyRoofModel" "toldRight" "[I") (by decide +kernel)) (fun _ h9 => h9) rfl dX4_family_233 ?_
            refine lv_iload hx hb dX4_family_236 (lv_at hl 5 rfl) ?_
            refine lv_iload hx hb dX4_family_238 (lv_at hl 5 rfl) ?_
            refine lv_iload_n hx hb dX4_family_240 rfl (lv_at hl 2 rfl) ?_
            refine n_icmp_le (tgt := 248) hx hb dX4_family_241 (by decide) (by first | assumption | omega) (by first | assumption | omega) (fun c61 => ?_) (fun c61 => ?_)
            · skip
              refine lv_iload_n hx hb dX4_family_248 rfl (lv_at hl 1 rfl) ?_
              refine lv_iload hx hb dX4_family_249 (lv_at hl 5 rfl) ?_
              refine k_goR (W.runS (As := [.int (nI kd), .int (nI jv)]) (rest := [.int (nI jv), .ref a3]) ⟨hx, hb, hml, hown, hts⟩ (c_X4_rightOf l g cI cJ cZ  kd jv hkd (by omega)) (va_cwS 2 hts gX4_family_X4_rightOf rfl rfl rfl (by decide +kernel) ⟨Nat.le_of_ble_eq_true rfl, Nat.le_of_ble_eq_true rfl⟩) (k_preRS hk hP [] rfl) rfl rfl hl.1 rfl (lv_room (Nat.le_of_ble_eq_true rfl)) dX4_family_251 ⟨by first | exact Nat.zero_le _ | omega, by first | exact Nat.zero_le _ | omega⟩) ?_
              refine n_top _ (nI 0) (by rw [if_neg hcs]) ?_
              refine n_astI hx hb hK hP hD hS 3 0 rfl rfl (i := jv) (v := (nI 0)) (by omega) (by decide) dX4_family_254 (fun H locs hP hD hS => ?_)
              have hP : va_P g vwCl [(rm, .inr (4, [.int (nI 0), .ref a1, .ref a2, .ref a3, .ref a4, .ref a5, .ref a6, .ref a7, .ref a8, .ref a9, .int (nI tp), .int (nI mn), .ref b1, .int (nI bl), .ref b2, .ref b3, .int (nI jn), .int (nI sn), .ref b4, .ref b5, .ref b6, .ref b7, .ref b8, .int (nI wt), .int (nI wm), .int (nI wg), .long (lN wo), .int (nI wd), .ref b9])), (a1, .inl (cI, 25, .inl (upd (fmi tz (fmS kd a bn n tz) jv) jv (nI (fz kd a bn jv))))), (a2, .inl (cI, 25, .inl (upd (fmi tl (fmL kd n tl) jv) jv (nI 0)))), (a3, .inl (cI, 25, .inl (upd (fmi ty (fmR kd n ty) jv) jv (nI 0)))), (b6, .inl (cJ, 25, .inr (.inl (fun j => lN (fs j)))))] H := hP
              have hD : va_D A [(rm, .inr (4, [.int (nI 0), .ref a1, .ref a2, .ref a3, .ref a4, .ref a5, .ref a6, .ref a7, .ref a8, .ref a9, .int (nI tp), .int (nI mn), .ref b1, .int (nI bl), .ref b2, .ref b3, .int (nI jn), .int (nI sn), .ref b4, .ref b5, .ref b6, .ref b7, .ref b8, .int (nI wt), .int (nI wm), .int (nI wg), .long (lN wo), .int (nI wd), .ref b9])), (a1, .inl (cI, 25, .inl (upd (fmi tz (fmS kd a bn n tz) jv) jv (nI (fz kd a bn jv))))), (a2, .inl (cI, 25, .inl (upd (fmi tl (fmL kd n tl) jv) jv (nI 0)))), (a3, .inl (cI, 25, .inl (upd (fmi ty (fmR kd n ty) jv) jv (nI 0)))), (b6, .inl (cJ, 25, .inr (.inl (fun j => lN (fs j)))))] := hD
              refine lv_iinc (v := nI (jv + 1)) (lv' := [(5, .int (nI (jv + 1))), (0, .ref rm), (1, .int (nI kd)), (2, .int (nI n)), (3, .int (nI a)), (4, .int b)]) hx hb dX4_family_255 hl (k := 5) rfl (n_inc _ 1) (by decide) rfl (fun ls hl => ?_)
              refine lv_goto (tgt := 177) hx hb dX4_family_258 (by decide) ?_
              obtain ⟨f1, f2, f3⟩ := fm_l (sz := tz) (lf := tl) (rt := ty) (a := a) (b := bn) (kd := kd) (n := n) hj.1 (by omega) (by omega) (by omega)
              rw [fmi_s hj.1 f1, fmi_s hj.1 f2, fmi_s hj.1 f3] at hP hD
              exact ih (jv + 1) (by omega) (by omega) _ _ hP hD hS ls (lv_sub hl [1, 2, 3, 4, 5, 0] rfl)
            · exact (by exfalso; omega)
        · exact (by exfalso; omega)
      · skip
        refine lv_iconst (v := nI 0) hx hb dX4_family_196 (by decide) ?_
        refine lv_goto (tgt := 208) hx hb dX4_family_197 (by decide) ?_
        refine n_astI hx hb hK hP hD hS 1 0 rfl rfl (i := jv) (v := (nI 0)) (by omega) (by decide) dX4_family_208 (fun H locs hP hD hS => ?_)
        have hP : va_P g vwCl [(rm, .inr (4, [.int (nI 0), .ref a1, .ref a2, .ref a3, .ref a4, .ref a5, .ref a6, .ref a7, .ref a8, .ref a9, .int (nI tp), .int (nI mn), .ref b1, .int (nI bl), .ref b2, .ref b3, .int (nI jn), .int (nI sn), .ref b4, .ref b5, .ref b6, .ref b7, .ref b8, .int (nI wt), .int (nI wm), .int (nI wg), .long (lN wo), .int (nI wd), .ref b9])), (a1, .inl (cI, 25, .inl (upd (fmi tz (fmS kd a bn n tz) jv) jv (nI 0)))), (a2, .inl (cI, 25, .inl (fmi tl (fmL kd n tl) jv))), (a3, .inl (cI, 25, .inl (fmi ty (fmR kd n ty) jv))), (b6, .inl (cJ, 25, .inr (.inl (fun j => lN (fs j)))))] H := hP
        have hD : va_D A [(rm, .inr (4, [.int (nI 0), .ref a1, .ref a2, .ref a3, .ref a4, .ref a5, .ref a6, .ref a7, .ref a8, .ref a9, .int (nI tp), .int (nI mn), .ref b1, .int (nI bl), .ref b2, .ref b3, .int (nI jn), .int (nI sn), .ref b4, .ref b5, .ref b6, .ref b7, .ref b8, .int (nI wt), .int (nI wm), .int (nI wg), .long (lN wo), .int (nI wd), .ref b9])), (a1, .inl (cI, 25, .inl (upd (fmi tz (fmS kd a bn n tz) jv) jv (nI 0)))), (a2, .inl (cI, 25, .inl (fmi tl (fmL kd n tl) jv))), (a3, .inl (cI, 25, .inl (fmi ty (fmR kd n ty) jv))), (b6, .inl (cJ, 25, .inr (.inl (fun j => lN (fs j)))))] := hD
        refine lv_aload_n hx hb dX4_family_209 rfl (lv_at hl 0 rfl) ?_
        refine va_get (D := g) (ci := 4) (v := .ref a2) (C := RX4) (T := TX4) (N := 29) hx hb hts hinX4 hown hK hP 0 rfl rfl 2 (by decide) (hts (.fieldLink RX4 13 "BuddyRoofModel" "toldLeft" "[I") (by decide +kernel)) (fun _ h9 => h9) rfl dX4_family_210 ?_
        refine lv_iload hx hb dX4_family_213 (lv_at hl 5 rfl) ?_
        refine lv_iload hx hb dX4_family_215 (lv_at hl 5 rfl) ?_
        refine lv_iload_n hx hb dX4_family_217 rfl (lv_at hl 2 rfl) ?_
        refine n_icmp_le (tgt := 225) hx hb dX4_family_218 (by decide) (by first | assumption | omega) (by first | assumption | omega) (fun c62 => ?_) (fun c62 => ?_)
        · exact (by exfalso; omega)
        · skip
          refine lv_iconst (v := nI 0) hx hb dX4_family_221 (by decide) ?_
          refine lv_goto (tgt := 231) hx hb dX4_family_222 (by decide) ?_
          refine n_astI hx hb hK hP hD hS 2 0 rfl rfl (i := jv) (v := (nI 0)) (by omega) (by decide) dX4_family_231 (fun H locs hP hD hS => ?_)
          have hP : va_P g vwCl [(rm, .inr (4, [.int (nI 0), .ref a1, .ref a2, .ref a3, .ref a4, .ref a5, .ref a6, .ref a7, .ref a8, .ref a9, .int (nI tp), .int (nI mn), .ref b1, .int (nI bl), .ref b2, .ref b3, .int (nI jn), .int (nI sn), .ref b4, .ref b5, .ref b6, .ref b7, .ref b8, .int (nI wt), .int (nI wm), .int (nI wg), .long (lN wo), .int (nI wd), .ref b9])), (a1, .inl (cI, 25, .inl (upd (fmi tz (fmS kd a bn n tz) jv) jv (nI 0)))), (a2, .inl (cI, 25, .inl (upd (fmi tl (fmL kd n tl) jv) jv (nI 0)))), (a3, .inl (cI, 25, .inl (fmi ty (fmR kd n ty) jv))), (b6, .inl (cJ, 25, .inr (.inl (fun j => lN (fs j)))))] H := hP
          have hD : va_D A [(rm, .inr (4, [.int (nI 0), .ref a1, .ref a2, .ref a3, .ref a4, .ref a5, .ref a6, .ref a7, .ref a8, .ref a9, .int (nI tp), .int (nI mn), .ref b1, .int (nI bl), .ref b2, .ref b3, .int (nI jn), .int (nI sn), .ref b4, .ref b5, .ref b6, .ref b7, .ref b8, .int (nI wt), .int (nI wm), .int (nI wg), .long (lN wo), .int (nI wd), .ref b9])), (a1, .inl (cI, 25, .inl (upd (fmi tz (fmS kd a bn n tz) jv) jv (nI 0)))), (a2, .inl (cI, 25, .inl (upd (fmi tl (fmL kd n tl) jv) jv (nI 0)))), (a3, .inl (cI, 25, .inl (fmi ty (fmR kd n ty) jv))), (b6, .inl (cJ, 25, .inr (.inl (fun j => lN (fs j)))))] := hD
          refine lv_aload_n hx hb dX4_family_232 rfl (lv_at hl 0 rfl) ?_
          refine va_get (D := g) (ci := 4) (v := .ref a3) (C := RX4) (T := TX4) (N := 29) hx hb hts hinX4 hown hK hP 0 rfl rfl 3 (by decide) (hts (.fieldLink RX4 16 "BuddyRoofModel" "toldRight" "[I") (by decide +kernel)) (fun _ h9 => h9) rfl dX4_family_233 ?_
          refine lv_iload hx hb dX4_family_236 (lv_at hl 5 rfl) ?_
          refine lv_iload hx hb dX4_family_238 (lv_at hl 5 rfl) ?_
          refine lv_iload_n hx hb dX4_family_240 rfl (lv_at hl 2 rfl) ?_
          refine n_icmp_le (tgt := 248) hx hb dX4_family_241 (by decide) (by first | assumption | omega) (by first | assumption | omega) (fun c63 => ?_) (fun c63 => ?_)
          · exact (by exfalso; omega)
          · skip
            refine lv_iconst (v := nI 0) hx hb dX4_family_244 (by decide) ?_
            refine lv_goto (tgt := 254) hx hb dX4_family_245 (by decide) ?_
            refine n_astI hx hb hK hP hD hS 3 0 rfl rfl (i := jv) (v := (nI 0)) (by omega) (by decide) dX4_family_254 (fun H locs hP hD hS => ?_)
            have hP : va_P g vwCl [(rm, .inr (4, [.int (nI 0), .ref a1, .ref a2, .ref a3, .ref a4, .ref a5, .ref a6, .ref a7, .ref a8, .ref a9, .int (nI tp), .int (nI mn), .ref b1, .int (nI bl), .ref b2, .ref b3, .int (nI jn), .int (nI sn), .ref b4, .ref b5, .ref b6, .ref b7, .ref b8, .int (nI wt), .int (nI wm), .int (nI wg), .long (lN wo), .int (nI wd), .ref b9])), (a1, .inl (cI, 25, .inl (upd (fmi tz (fmS kd a bn n tz) jv) jv (nI 0)))), (a2, .inl (cI, 25, .inl (upd (fmi tl (fmL kd n tl) jv) jv (nI 0)))), (a3, .inl (cI, 25, .inl (upd (fmi ty (fmR kd n ty) jv) jv (nI 0)))), (b6, .inl (cJ, 25, .inr (.inl (fun j => lN (fs j)))))] H := hP
            have hD : va_D A [(rm, .inr (4, [.int (nI 0), .ref a1, .ref a2, .ref a3, .ref a4, .ref a5, .ref a6, .ref a7, .ref a8, .ref a9, .int (nI tp), .int (nI mn), .ref b1, .int (nI bl), .ref b2, .ref b3, .int (nI jn), .int (nI sn), .ref b4, .ref b5, .ref b6, .ref b7, .ref b8, .int (nI wt), .int (nI wm), .int (nI wg), .long (lN wo), .int (nI wd), .ref b9])), (a1, .inl (cI, 25, .inl (upd (fmi tz (fmS kd a bn n tz) jv) jv (nI 0)))), (a2, .inl (cI, 25, .inl (upd (fmi tl (fmL kd n tl) jv) jv (nI 0)))), (a3, .inl (cI, 25, .inl (upd (fmi ty (fmR kd n ty) jv) jv (nI 0)))), (b6, .inl (cJ, 25, .inr (.inl (fun j => lN (fs j)))))] := hD
            refine lv_iinc (v := nI (jv + 1)) (lv' := [(5, .int (nI (jv + 1))), (0, .ref rm), (1, .int (nI kd)), (2, .int (nI n)), (3, .int (nI a)), (4, .int b)]) hx hb dX4_family_255 hl (k := 5) rfl (n_inc _ 1) (by decide) rfl (fun ls hl => ?_)
            refine lv_goto (tgt := 177) hx hb dX4_family_258 (by decide) ?_
            obtain ⟨f1, f2, f3⟩ := fm_g (sz := tz) (lf := tl) (rt := ty) (a := a) (b := bn) (kd := kd) (n := n) hj.1 (by omega) (by omega)
            rw [fmi_s hj.1 f1, fmi_s hj.1 f2, fmi_s hj.1 f3] at hP hD
            exact ih (jv + 1) (by omega) (by omega) _ _ hP hD hS ls (lv_sub hl [1, 2, 3, 4, 5, 0] rfl)

set_option maxHeartbeats 4000000 in
set_option maxRecDepth 100000 in
theorem c_X4_family_s (l : Launch) (g : va_G) (cI cJ cZ : ClassId) (rm a1 a2 a3 a4 a5 a6 a7 a8 a9 b1 b2 b3 b4 b5 b6 b7 b8 b9 : Nat) (cd tp mn bl jn sn wt wm wg wo wd : Nat) (tz tl ty : Nat → Int32) (fs0 : Nat → Nat) (kd n a bn : Nat) (b : Int32) (hkd : kd ≤ 2) (hn : 1 ≤ n ∧ n ≤ 24) (ha : 4 ≤ a ∧ a ≤ 4194304) (hbn : kd = 1 → b = nI bn ∧ 4 ≤ bn ∧ bn ≤ 4194304) (hok : fOK kd a bn n = true) : kV l g (kty cI cJ cZ) yX4_family wsX4_family ({ frames := 1, cells := 0, slots := 0, locals := 25 }) [.ref rm, .int (nI kd), .int (nI n), .int (nI a), .int b] [(rm, .inr (4, [.int (nI cd), .ref a1, .ref a2, .ref a3, .ref a4, .ref a5, .ref a6, .ref a7, .ref a8, .ref a9, .int (nI tp), .int (nI mn), .ref b1, .int (nI bl), .ref b2, .ref b3, .int (nI jn), .int (nI sn), .ref b4, .ref b5, .ref b6, .ref b7, .ref b8, .int (nI wt), .int (nI wm), .int (nI wg), .long (lN wo), .int (nI wd), .ref b9])), (a1, .inl (cI, 25, .inl tz)), (a2, .inl (cI, 25, .inl tl)), (a3, .inl (cI, 25, .inl ty)), (b6, .inl (cJ, 25, .inr (.inl (fun j => lN (fs0 j)))))] (S := Nat → Nat) (fun _ => True) (fun u => [(rm, .inr (4, [.int (nI 0), .ref a1, .ref a2, .ref a3, .ref a4, .ref a5, .ref a6, .ref a7, .ref a8, .ref a9, .int (nI tp), .int (nI mn), .ref b1, .int (nI bl), .ref b2, .ref b3, .int (nI jn), .int (nI sn), .ref b4, .ref b5, .ref b6, .ref b7, .ref b8, .int (nI wt), .int (nI wm), .int (nI wg), .long (lN wo), .int (nI wd), .ref b9])), (a1, .inl (cI, 25, .inl (fmS kd a bn n tz))), (a2, .inl (cI, 25, .inl (fmL kd n tl))), (a3, .inl (cI, 25, .inl (fmR kd n ty))), (b6, .inl (cJ, 25, .inr (.inl (fun j => lN (u j)))))]) 0 0 := by
  intro sz
  refine Met.ofW (cc := cX4_family) (maxL := 7) (ret := none) (by decide) rfl ?_
  intro p e s m args below meth c s₁ B hml hv
  obtain ⟨rfl, hsz, hP, hk, hD0⟩ := hv
  subst hsz
  have hx := B.exec
  have hb := B.bytes
  have hr := B.returns
  have hts := atoms_spec (ws := wsX4_family) B.pre
  have hown : s.vm.findClass RX4 = some m.cls := findClass_of_methodNamed B.named
  have hlocks := B.notSynchronized
  have hK := hk.1
  have hinX4 : ∀ w ∈ wsX40, w ∈ wsX4_family := by decide +kernel
  obtain ⟨A, hAe⟩ : ∃ A, va_A [(rm, .inr (4, [.int (nI cd), .ref a1, .ref a2, .ref a3, .ref a4, .ref a5, .ref a6, .ref a7, .ref a8, .ref a9, .int (nI tp), .int (nI mn), .ref b1, .int (nI bl), .ref b2, .ref b3, .int (nI jn), .int (nI sn), .ref b4, .ref b5, .ref b6, .ref b7, .ref b8, .int (nI wt), .int (nI wm), .int (nI wg), .long (lN wo), .int (nI wd), .ref b9])), (a1, .inl (cI, 25, .inl tz)), (a2, .inl (cI, 25, .inl tl)), (a3, .inl (cI, 25, .inl ty)), (b6, .inl (cJ, 25, .inr (.inl (fun j => lN (fs0 j)))))] s.heap.size = A := ⟨_, rfl⟩
  have hD := hD0.self (sz := s.heap.size)
  rw [hAe] at hD
  have hA : ∀ q : Nat, s.heap.size ≤ q → A q := fun q h => by rw [← hAe]; exact Or.inr h
  have hS : va_S A s.heap s.heap [] := va_S.rf
  have hl := lv_entry ([.ref rm, .int (nI kd), .int (nI n), .int (nI a), .int b]) (n := 7) (Nat.le_of_ble_eq_true rfl)
  rw [lg_entry_eq]
  generalize (lg_sl ([.ref rm, .int (nI kd), .int (nI n), .int (nI a), .int b]) ++ List.replicate (7 - (lg_sl ([.ref rm, .int (nI kd), .int (nI n), .int (nI a), .int b])).length) Slot.unset).toArray = ls at hl ⊢
  have hl : lv_has ls 7 [(0, .ref rm), (1, .int (nI kd)), (2, .int (nI n)), (3, .int (nI a)), (4, .int b)] := hl
  refine lv_aload_n hx hb dX4_family_0 rfl (lv_at hl 0 rfl) ?_
  refine lv_iconst (v := nI 1) hx hb dX4_family_1 (by decide) ?_
  refine va_put (D := g) (ci := 4) (v := .int (nI 1)) (ty := .int) (C := RX4) (T := TX4) (N := 29) hx hb hts hinX4 tyX4 tyX4_ok nmX4 hown hK hP hD hS 0 rfl rfl 0 (by decide) (hts (.fieldLink RX4 66 "BuddyRoofModel" "code" "I") (by decide +kernel)) (fun _ h9 => h9) rfl (by decide +kernel) rfl rfl (Nat.le_of_ble_eq_true rfl) dX4_family_2 (fun H locs hP hD hS => ?_)
  have hP : va_P g vwCl [(rm, .inr (4, [.int (nI 1), .ref a1, .ref a2, .ref a3, .ref a4, .ref a5, .ref a6, .ref a7, .ref a8, .ref a9, .int (nI tp), .int (nI mn), .ref b1, .int (nI bl), .ref b2, .ref b3, .int (nI jn), .int (nI sn), .ref b4, .ref b5, .ref b6, .ref b7, .ref b8, .int (nI wt), .int (nI wm), .int (nI wg), .long (lN wo), .int (nI wd), .ref b9])), (a1, .inl (cI, 25, .inl tz)), (a2, .inl (cI, 25, .inl tl)), (a3, .inl (cI, 25, .inl ty)), (b6, .inl (cJ, 25, .inr (.inl (fun j => lN (fs0 j)))))] H := hP
  have hD : va_D A [(rm, .inr (4, [.int (nI 1), .ref a1, .ref a2, .ref a3, .ref a4, .ref a5, .ref a6, .ref a7, .ref a8, .ref a9, .int (nI tp), .int (nI mn), .ref b1, .int (nI bl), .ref b2, .ref b3, .int (nI jn), .int (nI sn), .ref b4, .ref b5, .ref b6, .ref b7, .ref b8, .int (nI wt), .int (nI wm), .int (nI wg), .long (lN wo), .int (nI wd), .ref b9])), (a1, .inl (cI, 25, .inl tz)), (a2, .inl (cI, 25, .inl tl)), (a3, .inl (cI, 25, .inl ty)), (b6, .inl (cJ, 25, .inr (.inl (fun j => lN (fs0 j)))))] := hD
  refine lv_iload_n hx hb dX4_family_5 rfl (lv_at hl 1 rfl) ?_
  refine lv_i2l hx hb dX4_family_6 (nI_l (by first | assumption | omega)) ?_
  refine lv_lconst (v := lN 0) hx hb dX4_family_7 (by decide) ?_
  refine lv_ldc2 hx hb (v := 2) hown (hts (.constantLong RX4 76 2) (by decide +kernel)) dX4_family_8 ?_
  refine n_topl _ (lN 2) (by decide) ?_
  refine k_goR (W.runS (As := [.long (lN kd), .long (lN 0), .long (lN 2)]) (rest := []) ⟨hx, hb, hml, hown, hts⟩ (c_X4_in l g cI cJ cZ  (lN kd) (lN 0) (lN 2) ) (va_cwS 3 hts gX4_family_X4_in rfl rfl rfl (by decide +kernel) ⟨Nat.le_of_ble_eq_true rfl, Nat.le_of_ble_eq_true rfl⟩) (k_preRS hk hP [] rfl) rfl rfl hl.1 rfl (lv_room (Nat.le_of_ble_eq_true rfl)) dX4_family_11 ⟨by first | exact Nat.zero_le _ | omega, by first | exact Nat.zero_le _ | omega⟩) ?_
  refine n_top _ (bI (0 ≤ kd ∧ kd ≤ 2)) (bI_c (in_n (by omega) (by decide) (by decide))) ?_
  refine k_ifeq (tgt := 63) hx hb dX4_family_14 (by decide) (fun c1 => ?_) (fun c1 => ?_)
  · exact (by exact absurd ⟨Nat.zero_le _, hkd⟩ c1)
  · skip
    refine lv_iload_n hx hb dX4_family_17 rfl (lv_at hl 2 rfl) ?_
    refine lv_i2l hx hb dX4_family_18 (nI_l (by first | assumption | omega)) ?_
    refine lv_lconst (v := lN 1) hx hb dX4_family_19 (by decide) ?_
    refine lv_ldc2 hx hb (v := 24) hown (hts (.constantLong RX4 70 24) (by decide +kernel)) dX4_family_20 ?_
    refine n_topl _ (lN 24) (by decide) ?_
    refine k_goR (W.runS (As := [.long (lN n), .long (lN 1), .long (lN 24)]) (rest := []) ⟨hx, hb, hml, hown, hts⟩ (c_X4_in l g cI cJ cZ  (lN n) (lN 1) (lN 24) ) (va_cwS 3 hts gX4_family_X4_in rfl rfl rfl (by decide +kernel) ⟨Nat.le_of_ble_eq_true rfl, Nat.le_of_ble_eq_true rfl⟩) (k_preRS hk hP [] rfl) rfl rfl hl.1 rfl (lv_room (Nat.le_of_ble_eq_true rfl)) dX4_family_23 ⟨by first | exact Nat.zero_le _ | omega, by first | exact Nat.zero_le _ | omega⟩) ?_
    refine n_top _ (bI (1 ≤ n ∧ n ≤ 24)) (bI_c (in_n (by omega) (by decide) (by decide))) ?_
    refine k_ifeq (tgt := 63) hx hb dX4_family_26 (by decide) (fun c2 => ?_) (fun c2 => ?_)
    · exact (by exact absurd hn c2)
    · skip
      refine lv_iload_n hx hb dX4_family_29 rfl (lv_at hl 3 rfl) ?_
      refine lv_i2l hx hb dX4_family_30 (nI_l (by first | assumption | omega)) ?_
      refine lv_ldc2 hx hb (v := 4) hown (hts (.constantLong RX4 78 4) (by decide +kernel)) dX4_family_31 ?_
      refine n_topl _ (lN 4) (by decide) ?_
      refine lv_ldc2 hx hb (v := 4194304) hown (hts (.constantLong RX4 80 4194304) (by decide +kernel)) dX4_family_34 ?_
      refine n_topl _ (lN 4194304) (by decide) ?_
      refine k_goR (W.runS (As := [.long (lN a), .long (lN 4), .long (lN 4194304)]) (rest := []) ⟨hx, hb, hml, hown, hts⟩ (c_X4_in l g cI cJ cZ  (lN a) (lN 4) (lN 4194304) ) (va_cwS 3 hts gX4_family_X4_in rfl rfl rfl (by decide +kernel) ⟨Nat.le_of_ble_eq_true rfl, Nat.le_of_ble_eq_true rfl⟩) (k_preRS hk hP [] rfl) rfl rfl hl.1 rfl (lv_room (Nat.le_of_ble_eq_true rfl)) dX4_family_37 ⟨by first | exact Nat.zero_le _ | omega, by first | exact Nat.zero_le _ | omega⟩) ?_
      refine n_top _ (bI (4 ≤ a ∧ a ≤ 4194304)) (bI_c (in_n (by omega) (by decide) (by decide))) ?_
      refine k_ifeq (tgt := 63) hx hb dX4_family_40 (by decide) (fun c3 => ?_) (fun c3 => ?_)
      · exact (by exact absurd ha c3)
      · skip
        refine lv_iload_n hx hb dX4_family_43 rfl (lv_at hl 1 rfl) ?_
        refine lv_iconst (v := nI 1) hx hb dX4_family_44 (by decide) ?_
        refine n_icmp_ne (tgt := 64) hx hb dX4_family_45 (by decide) (by first | assumption | omega) (by first | assumption | omega) (fun c4 => ?_) (fun c4 => ?_)
        · skip
          refine lv_iconst (v := nI 1) hx hb dX4_family_64 (by decide) ?_
          refine lv_istore (lv' := [(5, .int (nI 1)), (0, .ref rm), (1, .int (nI kd)), (2, .int (nI n)), (3, .int (nI a)), (4, .int b)]) hx hb dX4_family_65 hl (by decide) rfl (fun ls hl => ?_)
          refine lp_X4_family_s_67 l g cI cJ cZ rm a1 a2 a3 a4 a5 a6 a7 a8 a9 b1 b2 b3 b4 b5 b6 b7 b8 b9 cd tp mn bl jn sn wt wm wg wo wd tz tl ty fs0 kd n a bn b hkd hn ha hbn hok  ⟨hx, hb, hr, hml, hown, hts, hlocks⟩ hk hA (fun fs hT H locs hP hD hS ls hl => ?_) (fun fs hF H locs hP hD hS ls hl => ?_) _ 1 fs0 (Nat.lt_succ_self _) (by omega) (fun i q1 q2 => by omega) _ _ hP hD hS ls (lv_sub hl [1, 2, 3, 4, 5, 0] rfl)
          · skip
            refine lv_aload_n hx hb dX4_family_169 rfl (lv_at hl 0 rfl) ?_
            refine lv_iconst (v := nI 0) hx hb dX4_family_170 (by decide) ?_
            refine va_put (D := g) (ci := 4) (v := .int (nI 0)) (ty := .int) (C := RX4) (T := TX4) (N := 29) hx hb hts hinX4 tyX4 tyX4_ok nmX4 hown hK hP hD hS 0 rfl rfl 0 (by decide) (hts (.fieldLink RX4 66 "BuddyRoofModel" "code" "I") (by decide +kernel)) (fun _ h9 => h9) rfl (by decide +kernel) rfl rfl (Nat.le_of_ble_eq_true rfl) dX4_family_171 (fun H locs hP hD hS => ?_)
            have hP : va_P g vwCl [(rm, .inr (4, [.int (nI 0), .ref a1, .ref a2, .ref a3, .ref a4, .ref a5, .ref a6, .ref a7, .ref a8, .ref a9, .int (nI tp), .int (nI mn), .ref b1, .int (nI bl), .ref b2, .ref b3, .int (nI jn), .int (nI sn), .ref b4, .ref b5, .ref b6, .ref b7, .ref b8, .int (nI wt), .int (nI wm), .int (nI wg), .long (lN wo), .int (nI wd), .ref b9])), (a1, .inl (cI, 25, .inl tz)), (a2, .inl (cI, 25, .inl tl)), (a3, .inl (cI, 25, .inl ty)), (b6, .inl (cJ, 25, .inr (.inl (fun j => lN (fs j)))))] H := hP
            have hD : va_D A [(rm, .inr (4, [.int (nI 0), .ref a1, .ref a2, .ref a3, .ref a4, .ref a5, .ref a6, .ref a7, .ref a8, .ref a9, .int (nI tp), .int (nI mn), .ref b1, .int (nI bl), .ref b2, .ref b3, .int (nI jn), .int (nI sn), .ref b4, .ref b5, .ref b6, .ref b7, .ref b8, .int (nI wt), .int (nI wm), .int (nI wg), .long (lN wo), .int (nI wd), .ref b9])), (a1, .inl (cI, 25, .inl tz)), (a2, .inl (cI, 25, .inl tl)), (a3, .inl (cI, 25, .inl ty)), (b6, .inl (cJ, 25, .inr (.inl (fun j => lN (fs j)))))] := hD
            refine lv_iconst (v := nI 1) hx hb dX4_family_174 (by decide) ?_
            refine lv_istore (lv' := [(5, .int (nI 1)), (0, .ref rm), (1, .int (nI kd)), (2, .int (nI n)), (3, .int (nI a)), (4, .int b)]) hx hb dX4_family_175 hl (by decide) rfl (fun ls hl => ?_)
            have hP : va_P g vwCl [(rm, .inr (4, [.int (nI 0), .ref a1, .ref a2, .ref a3, .ref a4, .ref a5, .ref a6, .ref a7, .ref a8, .ref a9, .int (nI tp), .int (nI mn), .ref b1, .int (nI bl), .ref b2, .ref b3, .int (nI jn), .int (nI sn), .ref b4, .ref b5, .ref b6, .ref b7, .ref b8, .int (nI wt), .int (nI wm), .int (nI wg), .long (lN wo), .int (nI wd), .ref b9])), (a1, .inl (cI, 25, .inl (fmi tz (fmS kd a bn n tz) 1))), (a2, .inl (cI, 25, .inl (fmi tl (fmL kd n tl) 1))), (a3, .inl (cI, 25, .inl (fmi ty (fmR kd n ty) 1))), (b6, .inl (cJ, 25, .inr (.inl (fun j => lN (fs j)))))] H := by rw [fmi_1, fmi_1, fmi_1]; exact hP
            have hD : va_D A [(rm, .inr (4, [.int (nI 0), .ref a1, .ref a2, .ref a3, .ref a4, .ref a5, .ref a6, .ref a7, .ref a8, .ref a9, .int (nI tp), .int (nI mn), .ref b1, .int (nI bl), .ref b2, .ref b3, .int (nI jn), .int (nI sn), .ref b4, .ref b5, .ref b6, .ref b7, .ref b8, .int (nI wt), .int (nI wm), .int (nI wg), .long (lN wo), .int (nI wd), .ref b9])), (a1, .inl (cI, 25, .inl (fmi tz (fmS kd a bn n tz) 1))), (a2, .inl (cI, 25, .inl (fmi tl (fmL kd n tl) 1))), (a3, .inl (cI, 25, .inl (fmi ty (fmR kd n ty) 1))), (b6, .inl (cJ, 25, .inr (.inl (fun j => lN (fs j)))))] := by rw [fmi_1, fmi_1, fmi_1]; exact hD
            refine lp_X4_family_s_177 l g cI cJ cZ rm a1 a2 a3 a4 a5 a6 a7 a8 a9 b1 b2 b3 b4 b5 b6 b7 b8 b9 cd tp mn bl jn sn wt wm wg wo wd tz tl ty fs0 kd n a bn b hkd hn ha hbn hok fs hT ⟨hx, hb, hr, hml, hown, hts, hlocks⟩ hk hA (fun   H locs hP hD hS ls hl => ?_) _ 1 (Nat.lt_succ_self _) (by decide) _ _ hP hD hS ls (lv_sub hl [1, 2, 3, 4, 5, 0] rfl)
            · skip
              have hP := hP.sub (ws' := [(rm, .inr (4, [.int (nI 0), .ref a1, .ref a2, .ref a3, .ref a4, .ref a5, .ref a6, .ref a7, .ref a8, .ref a9, .int (nI tp), .int (nI mn), .ref b1, .int (nI bl), .ref b2, .ref b3, .int (nI jn), .int (nI sn), .ref b4, .ref b5, .ref b6, .ref b7, .ref b8, .int (nI wt), .int (nI wm), .int (nI wg), .long (lN wo), .int (nI wd), .ref b9])), (a1, .inl (cI, 25, .inl (fmi tz (fmS kd a bn n tz) 25))), (a2, .inl (cI, 25, .inl (fmi tl (fmL kd n tl) 25))), (a3, .inl (cI, 25, .inl (fmi ty (fmR kd n ty) 25))), (b6, .inl (cJ, 25, .inr (.inl (fun j => lN (fs j)))))]) [0, 1, 2, 3, 4] rfl
              have hD := hD.sub (ws' := [(rm, .inr (4, [.int (nI 0), .ref a1, .ref a2, .ref a3, .ref a4, .ref a5, .ref a6, .ref a7, .ref a8, .ref a9, .int (nI tp), .int (nI mn), .ref b1, .int (nI bl), .ref b2, .ref b3, .int (nI jn), .int (nI sn), .ref b4, .ref b5, .ref b6, .ref b7, .ref b8, .int (nI wt), .int (nI wm), .int (nI wg), .long (lN wo), .int (nI wd), .ref b9])), (a1, .inl (cI, 25, .inl (fmi tz (fmS kd a bn n tz) 25))), (a2, .inl (cI, 25, .inl (fmi tl (fmL kd n tl) 25))), (a3, .inl (cI, 25, .inl (fmi ty (fmR kd n ty) 25))), (b6, .inl (cJ, 25, .inr (.inl (fun j => lN (fs j)))))]) [0, 1, 2, 3, 4] rfl rfl
              refine W.widen (k := 0) (n := 0) (by first | exact Nat.le_refl _ | omega) (by first | exact Nat.le_refl _ | omega) ?_
              exact k_retV (sz := 0) hx hb hr hlocks hAe hS hP hD fs (by rw [(fm_e kd a bn n tz tl ty).1, (fm_e kd a bn n tz tl ty).2.1, (fm_e kd a bn n tz tl ty).2.2]) (trivial) dX4_family_261
          · skip
            rw [hok] at hF
            exact absurd hF (by decide)
        · skip
          refine lv_iload hx hb dX4_family_48 (lv_at hl 4 rfl) ?_
          refine lv_i2l hx hb dX4_family_50 rfl ?_
          refine lv_ldc2 hx hb (v := 4) hown (hts (.constantLong RX4 78 4) (by decide +kernel)) dX4_family_51 ?_
          refine n_topl _ (lN 4) (by decide) ?_
          refine lv_ldc2 hx hb (v := 4194304) hown (hts (.constantLong RX4 80 4194304) (by decide +kernel)) dX4_family_54 ?_
          refine n_topl _ (lN 4194304) (by decide) ?_
          refine k_goR (W.runS (As := [.long ((b).toInt64), .long (lN 4), .long (lN 4194304)]) (rest := []) ⟨hx, hb, hml, hown, hts⟩ (c_X4_in l g cI cJ cZ  (b).toInt64 (lN 4) (lN 4194304) ) (va_cwS 3 hts gX4_family_X4_in rfl rfl rfl (by decide +kernel) ⟨Nat.le_of_ble_eq_true rfl, Nat.le_of_ble_eq_true rfl⟩) (k_preRS hk hP [] rfl) rfl rfl hl.1 rfl (lv_room (Nat.le_of_ble_eq_true rfl)) dX4_family_57 ⟨by first | exact Nat.zero_le _ | omega, by first | exact Nat.zero_le _ | omega⟩) ?_
          refine n_top _ (bI (nI 4 ≤ b ∧ b ≤ nI 4194304)) (bI_c (in_i (by decide) (by decide))) ?_
          refine k_ifne (tgt := 64) hx hb dX4_family_60 (by decide) (fun c5 => ?_) (fun c5 => ?_)
          · skip
            refine lv_iconst (v := nI 1) hx hb dX4_family_64 (by decide) ?_
            refine lv_istore (lv' := [(5, .int (nI 1)), (0, .ref rm), (1, .int (nI kd)), (2, .int (nI n)), (3, .int (nI a)), (4, .int b)]) hx hb dX4_family_65 hl (by decide) rfl (fun ls hl => ?_)
            refine lp_X4_family_s_67 l g cI cJ cZ rm a1 a2 a3 a4 a5 a6 a7 a8 a9 b1 b2 b3 b4 b5 b6 b7 b8 b9 cd tp mn bl jn sn wt wm wg wo wd tz tl ty fs0 kd n a bn b hkd hn ha hbn hok  ⟨hx, hb, hr, hml, hown, hts, hlocks⟩ hk hA (fun fs hT H locs hP hD hS ls hl => ?_) (fun fs hF H locs hP hD hS ls hl => ?_) _ 1 fs0 (Nat.lt_succ_self _) (by omega) (fun i q1 q2 => by omega) _ _ hP hD hS ls (lv_sub hl [1, 2, 3, 4, 5, 0] rfl)
            · skip
              refine lv_aload_n hx hb dX4_family_169 rfl (lv_at hl 0 rfl) ?_
              refine lv_iconst (v := nI 0) hx hb dX4_family_170 (by decide) ?_
              refine va_put (D := g) (ci := 4) (v := .int (nI 0)) (ty := .int) (C := RX4) (T := TX4) (N := 29) hx hb hts hinX4 tyX4 tyX4_ok nmX4 hown hK hP hD hS 0 rfl rfl 0 (by decide) (hts (.fieldLink RX4 66 "BuddyRoofModel" "code" "I") (by decide +kernel)) (fun _ h9 => h9) rfl (by decide +kernel) rfl rfl (Nat.le_of_ble_eq_true rfl) dX4_family_171 (fun H locs hP hD hS => ?_)
              have hP : va_P g vwCl [(rm, .inr (4, [.int (nI 0), .ref a1, .ref a2, .ref a3, .ref a4, .ref a5, .ref a6, .ref a7, .ref a8, .ref a9, .int (nI tp), .int (nI mn), .ref b1, .int (nI bl), .ref b2, .ref b3, .int (nI jn), .int (nI sn), .ref b4, .ref b5, .ref b6, .ref b7, .ref b8, .int (nI wt), .int (nI wm), .int (nI wg), .long (lN wo), .int (nI wd), .ref b9])), (a1, .inl (cI, 25, .inl tz)), (a2, .inl (cI, 25, .inl tl)), (a3, .inl (cI, 25, .inl ty)), (b6, .inl (cJ, 25, .inr (.inl (fun j => lN (fs j)))))] H := hP
              have hD : va_D A [(rm, .inr (4, [.int (nI 0), .ref a1, .ref a2, .ref a3, .ref a4, .ref a5, .ref a6, .ref a7, .ref a8, .ref a9, .int (nI tp), .int (nI mn), .ref b1, .int (nI bl), .ref b2, .ref b3, .int (nI jn), .int (nI sn), .ref b4, .ref b5, .ref b6, .ref b7, .ref b8, .int (nI wt), .int (nI wm), .int (nI wg), .long (lN wo), .int (nI wd), .ref b9])), (a1, .inl (cI, 25, .inl tz)), (a2, .inl (cI, 25, .inl tl)), (a3, .inl (cI, 25, .inl ty)), (b6, .inl (cJ, 25, .inr (.inl (fun j => lN (fs j)))))] := hD
              refine lv_iconst (v := nI 1) hx hb dX4_family_174 (by decide) ?_
              refine lv_istore (lv' := [(5, .int (nI 1)), (0, .ref rm), (1, .int (nI kd)), (2, .int (nI n)), (3, .int (nI a)), (4, .int b)]) hx hb dX4_family_175 hl (by decide) rfl (fun ls hl => ?_)
              have hP : va_P g vwCl [(rm, .inr (4, [.int (nI 0), .ref a1, .ref a2, .ref a3, .ref a4, .ref a5, .ref a6, .ref a7, .ref a8, .ref a9, .int (nI tp), .int (nI mn), .ref b1, .int (nI bl), .ref b2, .ref b3, .int (nI jn), .int (nI sn), .ref b4, .ref b5, .ref b6, .ref b7, .ref b8, .int (nI wt), .int (nI wm), .int (nI wg), .long (lN wo), .int (nI wd), .ref b9])), (a1, .inl (cI, 25, .inl (fmi tz (fmS kd a bn n tz) 1))), (a2, .inl (cI, 25, .inl (fmi tl (fmL kd n tl) 1))), (a3, .inl (cI, 25, .inl (fmi ty (fmR kd n ty) 1))), (b6, .inl (cJ, 25, .inr (.inl (fun j => lN (fs j)))))] H := by rw [fmi_1, fmi_1, fmi_1]; exact hP
              have hD : va_D A [(rm, .inr (4, [.int (nI 0), .ref a1, .ref a2, .ref a3, .ref a4, .ref a5, .ref a6, .ref a7, .ref a8, .ref a9, .int (nI tp), .int (nI mn), .ref b1, .int (nI bl), .ref b2, .ref b3, .int (nI jn), .int (nI sn), .ref b4, .ref b5, .ref b6, .ref b7, .ref b8, .int (nI wt), .int (nI wm), .int (nI wg), .long (lN wo), .int (nI wd), .ref b9])), (a1, .inl (cI, 25, .inl (fmi tz (fmS kd a bn n tz) 1))), (a2, .inl (cI, 25, .inl (fmi tl (fmL kd n tl) 1))), (a3, .inl (cI, 25, .inl (fmi ty (fmR kd n ty) 1))), (b6, .inl (cJ, 25, .inr (.inl (fun j => lN (fs j)))))] := by rw [fmi_1, fmi_1, fmi_1]; exact hD
              refine lp_X4_family_s_177 l g cI cJ cZ rm a1 a2 a3 a4 a5 a6 a7 a8 a9 b1 b2 b3 b4 b5 b6 b7 b8 b9 cd tp mn bl jn sn wt wm wg wo wd tz tl ty fs0 kd n a bn b hkd hn ha hbn hok fs hT ⟨hx, hb, hr, hml, hown, hts, hlocks⟩ hk hA (fun   H locs hP hD hS ls hl => ?_) _ 1 (Nat.lt_succ_self _) (by decide) _ _ hP hD hS ls (lv_sub hl [1, 2, 3, 4, 5, 0] rfl)
              · skip
                have hP := hP.sub (ws' := [(rm, .inr (4, [.int (nI 0), .ref a1, .ref a2, .ref a3, .ref a4, .ref a5, .ref a6, .ref a7, .ref a8, .ref a9, .int (nI tp), .int (nI mn), .ref b1, .int (nI bl), .ref b2, .ref b3, .int (nI jn), .int (nI sn), .ref b4, .ref b5, .ref b6, .ref b7, .ref b8, .int (nI wt), .int (nI wm), .int (nI wg), .long (lN wo), .int (nI wd), .ref b9])), (a1, .inl (cI, 25, .inl (fmi tz (fmS kd a bn n tz) 25))), (a2, .inl (cI, 25, .inl (fmi tl (fmL kd n tl) 25))), (a3, .inl (cI, 25, .inl (fmi ty (fmR kd n ty) 25))), (b6, .inl (cJ, 25, .inr (.inl (fun j => lN (fs j)))))]) [0, 1, 2, 3, 4] rfl
                have hD := hD.sub (ws' := [(rm, .inr (4, [.int (nI 0), .ref a1, .ref a2, .ref a3, .ref a4, .ref a5, .ref a6, .ref a7, .ref a8, .ref a9, .int (nI tp), .int (nI mn), .ref b1, .int (nI bl), .ref b2, .ref b3, .int (nI jn), .int (nI sn), .ref b4, .ref b5, .ref b6, .ref b7, .ref b8, .int (nI wt), .int (nI wm), .int (nI wg), .long (lN wo), .int (nI wd), .ref b9])), (a1, .inl (cI, 25, .inl (fmi tz (fmS kd a bn n tz) 25))), (a2, .inl (cI, 25, .inl (fmi tl (fmL kd n tl) 25))), (a3, .inl (cI, 25, .inl (fmi ty (fmR kd n ty) 25))), (b6, .inl (cJ, 25, .inr (.inl (fun j => lN (fs j)))))]) [0, 1, 2, 3, 4] rfl rfl
                refine W.widen (k := 0) (n := 0) (by first | exact Nat.le_refl _ | omega) (by first | exact Nat.le_refl _ | omega) ?_
                exact k_retV (sz := 0) hx hb hr hlocks hAe hS hP hD fs (by rw [(fm_e kd a bn n tz tl ty).1, (fm_e kd a bn n tz tl ty).2.1, (fm_e kd a bn n tz tl ty).2.2]) (trivial) dX4_family_261
            · skip
              rw [hok] at hF
              exact absurd hF (by decide)
          · exact (by refine absurd ?_ c5; rw [(hbn (by omega)).1]; exact ⟨nI_le (hbn (by omega)).2.1 (by have := (hbn (by omega)).2.2; omega), nI_le (hbn (by omega)).2.2 (by decide)⟩)
set_option maxHeartbeats 4000000 in
set_option maxRecDepth 100000 in
theorem lp_X4_family_e2_67 {p : Program} {e : Env} {s : State} {m : MethodId} {args : Array Value} {below : List Frame} {meth : Method} {c : Code} {Q : State → Prop} (l : Launch) (g : va_G) (cI cJ cZ : ClassId) (rm a1 a2 a3 a4 a5 a6 a7 a8 a9 b1 b2 b3 b4 b5 b6 b7 b8 b9 : Nat) (cd tp mn bl jn sn wt wm wg wo wd : Nat) (tz tl ty : Nat → Int32) (fs0 : Nat → Nat) (kd n a bn : Nat) (b : Int32) (hkd : kd ≤ 2) (hn : 1 ≤ n ∧ n ≤ 24) (ha : 4 ≤ a ∧ a ≤ 4194304) (hbn : kd = 1 → b = nI bn ∧ 4 ≤ bn ∧ bn ≤ 4194304) (hok : fOK kd a bn n = false)  (C0 : cM p s m args meth c cX4_family 7 none wsX4_family RX4) (hk : kK g (kty cI cJ cZ) s) {A : Nat → Prop} {H0 : Heap} (hA : ∀ q : Nat, H0.size ≤ q → A q) (kk0 : ∀ (fs : Nat → Nat), (∀ i, 1 ≤ i → i ≤ n → fs i = fz kd a bn i ∧ fz kd a bn i ≤ 4194304) → ∀ (H : Heap) (locs : List Loc), va_P g vwCl [(rm, .inr (4, [.int (nI 1), .ref a1, .ref a2, .ref a3, .ref a4, .ref a5, .ref a6, .ref a7, .ref a8, .ref a9, .int (nI tp), .int (nI mn), .ref b1, .int (nI bl), .ref b2, .ref b3, .int (nI jn), .int (nI sn), .ref b4, .ref b5, .ref b6, .ref b7, .ref b8, .int (nI wt), .int (nI wm), .int (nI wg), .long (lN wo), .int (nI wd), .ref b9])), (a1, .inl (cI, 25, .inl tz)), (a2, .inl (cI, 25, .inl tl)), (a3, .inl (cI, 25, .inl ty)), (b6, .inl (cJ, 25, .inr (.inl (fun j => lN (fs j)))))] H → va_D A [(rm, .inr (4, [.int (nI 1), .ref a1, .ref a2, .ref a3, .ref a4, .ref a5, .ref a6, .ref a7, .ref a8, .ref a9, .int (nI tp), .int (nI mn), .ref b1, .int (nI bl), .ref b2, .ref b3, .int (nI jn), .int (nI sn), .ref b4, .ref b5, .ref b6, .ref b7, .ref b8, .int (nI wt), .int (nI wm), .int (nI wg), .long (lN wo), .int (nI wd), .ref b9])), (a1, .inl (cI, 25, .inl tz)), (a2, .inl (cI, 25, .inl tl)), (a3, .inl (cI, 25, .inl ty)), (b6, .inl (cJ, 25, .inr (.inl (fun j => lN (fs j)))))] → va_S A H0 H locs → ∀ (ls : Array Slot), lv_has ls 7 [(0, .ref rm), (1, .int (nI kd)), (2, .int (nI n)), (3, .int (nI a)), (4, .int b)] → W p l e (headSpec wsX4_family ({ frames := 1, cells := 0, slots := 0, locals := 25 })).room s m args below meth c H locs 0 0 Q (F0 m 169 ls [])) (kk1 : ∀ (fs : Nat → Nat), (fOK kd a bn n = false) → ∀ (H : Heap) (locs : List Loc), va_P g vwCl [(rm, .inr (4, [.int (nI 1), .ref a1, .ref a2, .ref a3, .ref a4, .ref a5, .ref a6, .ref a7, .ref a8, .ref a9, .int (nI tp), .int (nI mn), .ref b1, .int (nI bl), .ref b2, .ref b3, .int (nI jn), .int (nI sn), .ref b4, .ref b5, .ref b6, .ref b7, .ref b8, .int (nI wt), .int (nI wm), .int (nI wg), .long (lN wo), .int (nI wd), .ref b9])), (a1, .inl (cI, 25, .inl tz)), (a2, .inl (cI, 25, .inl tl)), (a3, .inl (cI, 25, .inl ty)), (b6, .inl (cJ, 25, .inr (.inl (fun j => lN (fs j)))))] H → va_D A [(rm, .inr (4, [.int (nI 1), .ref a1, .ref a2, .ref a3, .ref a4, .ref a5, .ref a6, .ref a7, .ref a8, .ref a9, .int (nI tp), .int (nI mn), .ref b1, .int (nI bl), .ref b2, .ref b3, .int (nI jn), .int (nI sn), .ref b4, .ref b5, .ref b6, .ref b7, .ref b8, .int (nI wt), .int (nI wm), .int (nI wg), .long (lN wo), .int (nI wd), .ref b9])), (a1, .inl (cI, 25, .inl tz)), (a2, .inl (cI, 25, .inl tl)), (a3, .inl (cI, 25, .inl ty)), (b6, .inl (cJ, 25, .inr (.inl (fun j => lN (fs j)))))] → va_S A H0 H locs → ∀ (ls : Array Slot), lv_has ls 7 [(0, .ref rm)] → W p l e (headSpec wsX4_family ({ frames := 1, cells := 0, slots := 0, locals := 25 })).room s m args below meth c H locs 0 0 Q (F0 m 162 ls [])) :
    ∀ (K : Nat) (jv : Nat) (fs : Nat → Nat), (n + 1 - jv) < K → (1 ≤ jv ∧ jv ≤ n + 1) → (∀ i, 1 ≤ i → i < jv → fs i = fz kd a bn i ∧ fz kd a bn i ≤ 4194304) → ∀ (H : Heap) (locs : List Loc), va_P g vwCl [(rm, .inr (4, [.int (nI 1), .ref a1, .ref a2, .ref a3, .ref a4, .ref a5, .ref a6, .ref a7, .ref a8, .ref a9, .int (nI tp), .int (nI mn), .ref b1, .int (nI bl), .ref b2, .ref b3, .int (nI jn), .int (nI sn), .ref b4, .ref b5, .ref b6, .ref b7, .ref b8, .int (nI wt), .int (nI wm), .int (nI wg), .long (lN wo), .int (nI wd), .ref b9])), (a1, .inl (cI, 25, .inl tz)), (a2, .inl (cI, 25, .inl tl)), (a3, .inl (cI, 25, .inl ty)), (b6, .inl (cJ, 25, .inr (.inl (fun j => lN (fs j)))))] H → va_D A [(rm, .inr (4, [.int (nI 1), .ref a1, .ref a2, .ref a3, .ref a4, .ref a5, .ref a6, .ref a7, .ref a8, .ref a9, .int (nI tp), .int (nI mn), .ref b1, .int (nI bl), .ref b2, .ref b3, .int (nI jn), .int (nI sn), .ref b4, .ref b5, .ref b6, .ref b7, .ref b8, .int (nI wt), .int (nI wm), .int (nI wg), .long (lN wo), .int (nI wd), .ref b9])), (a1, .inl (cI, 25, .inl tz)), (a2, .inl (cI, 25, .inl tl)), (a3, .inl (cI, 25, .inl ty)), (b6, .inl (cJ, 25, .inr (.inl (fun j => lN (fs j)))))] → va_S A H0 H locs →∀ (ls : Array Slot), lv_has ls 7 [(0, .ref rm), (1, .int (nI kd)), (2, .int (nI n)), (3, .int (nI a)), (4, .int b), (5, .int (nI jv))] → W p l e (headSpec wsX4_family ({ frames := 1, cells := 0, slots := 0, locals := 25 })).room s m args below meth c H locs 0 0 Q (F0 m 67 ls []) := by
  obtain ⟨hx, hb, hr, hml, hown, hts, hlocks⟩ := C0
  have hK := hk.1
  have hinX4 : ∀ w ∈ wsX40, w ∈ wsX4_family := by decide +kernel
  intro K
  induction K with
  | zero =>
    intro jv fs h0
    exact absurd h0 (Nat.not_lt_zero _)
  | succ K ih =>
    intro jv fs hmu hj hT H locs hP hD hS ls hl
    refine lv_iload hx hb dX4_family_67 (lv_at hl 5 rfl) ?_
    refine lv_iload_n hx hb dX4_family_69 rfl (lv_at hl 2 rfl) ?_
    refine n_icmp_gt (tgt := 169) hx hb dX4_family_70 (by decide) (by first | assumption | omega) (by first | assumption | omega) (fun c28 => ?_) (fun c28 => ?_)
    · skip
      exact kk0 fs (fun i q1 q2 => hT i q1 (by omega)) _ _ hP hD hS ls (lv_sub hl [0, 1, 2, 3, 4] rfl)
    · skip
      refine lv_iload_n hx hb dX4_family_73 rfl (lv_at hl 1 rfl) ?_
      refine lv_iload hx hb dX4_family_74 (lv_at hl 5 rfl) ?_
      by_cases hcs : kd + 1 < jv
      · skip
        refine k_goR (W.runS (As := [.int (nI kd), .int (nI jv)]) (rest := []) ⟨hx, hb, hml, hown, hts⟩ (c_X4_leftOf l g cI cJ cZ  kd jv hkd (by omega)) (va_cwS 2 hts gX4_family_X4_leftOf rfl rfl rfl (by decide +kernel) ⟨Nat.le_of_ble_eq_true rfl, Nat.le_of_ble_eq_true rfl⟩) (k_preRS hk hP [] rfl) rfl rfl hl.1 rfl (lv_room (Nat.le_of_ble_eq_true rfl)) dX4_family_76 ⟨by first | exact Nat.zero_le _ | omega, by first | exact Nat.zero_le _ | omega⟩) ?_
        refine n_top _ (nI (jv - 1)) (by rw [if_pos hcs]) ?_
        refine lv_istore (lv' := [(6, .int (nI (jv - 1))), (0, .ref rm), (1, .int (nI kd)), (2, .int (nI n)), (3, .int (nI a)), (4, .int b), (5, .int (nI jv))]) hx hb dX4_family_79 hl (by decide) rfl (fun ls hl => ?_)
        refine lv_aload_n hx hb dX4_family_81 rfl (lv_at hl 1 rfl) ?_
        refine va_get (D := g) (ci := 4) (v := .ref b6) (C := RX4) (T := TX4) (N := 29) hx hb hts hinX4 hown hK hP 0 rfl rfl 20 (by decide) (hts (.fieldLink RX4 54 "BuddyRoofModel" "size" "[J") (by decide +kernel)) (fun _ h9 => h9) rfl dX4_family_82 ?_
        refine lv_iload hx hb dX4_family_85 (lv_at hl 6 rfl) ?_
        refine lv_iload hx hb dX4_family_87 (lv_at hl 0 rfl) ?_
        refine n_if_le (tgt := 114) hx hb dX4_family_89 (by decide) (by first | assumption | omega) (fun c29 => ?_) (fun c29 => ?_)
        · skip
          refine lv_iload_n hx hb dX4_family_114 rfl (lv_at hl 2 rfl) ?_
          refine lv_iconst (v := nI 1) hx hb dX4_family_115 (by decide) ?_
          refine n_icmp_ne (tgt := 131) hx hb dX4_family_116 (by decide) (by first | assumption | omega) (by first | assumption | omega) (fun c30 => ?_) (fun c30 => ?_)
          · skip
            refine lv_iload_n hx hb dX4_family_131 rfl (lv_at hl 2 rfl) ?_
            refine lv_iconst (v := nI 2) hx hb dX4_family_132 (by decide) ?_
            refine n_icmp_ne (tgt := 145) hx hb dX4_family_133 (by decide) (by first | assumption | omega) (by first | assumption | omega) (fun c31 => ?_) (fun c31 => ?_)
            · skip
              refine lv_iload_n hx hb dX4_family_145 rfl (lv_at hl 4 rfl) ?_
              refine lv_i2l hx hb dX4_family_146 (nI_l (by first | assumption | omega)) ?_
              refine n_topl _ (lN (fz kd a bn jv)) (by rw [fz_l (k := jv) (by omega)]; unfold fLf; first | (rw [if_pos (by omega), if_pos (by omega)]) | (rw [if_neg (by omega), show jv = 1 by omega, Nat.one_mul])) ?_
              refine n_lastM hx hb hK hP hD hS 4 1 rfl rfl (i := jv) (v := (fz kd a bn jv)) (by omega) (by decide) dX4_family_147 (fun H locs hP hD hS => ?_)
              have hP : va_P g vwCl [(rm, .inr (4, [.int (nI 1), .ref a1, .ref a2, .ref a3, .ref a4, .ref a5, .ref a6, .ref a7, .ref a8, .ref a9, .int (nI tp), .int (nI mn), .ref b1, .int (nI bl), .ref b2, .ref b3, .int (nI jn), .int (nI sn), .ref b4, .ref b5, .ref b6, .ref b7, .ref b8, .int (nI wt), .int (nI wm), .int (nI wg), .long (lN wo), .int (nI wd), .ref b9])), (a1, .inl (cI, 25, .inl tz)), (a2, .inl (cI, 25, .inl tl)), (a3, .inl (cI, 25, .inl ty)), (b6, .inl (cJ, 25, .inr (.inl (fun j => lN ((upN fs jv (fz kd a bn jv)) j)))))] H := hP
              have hD : va_D A [(rm, .inr (4, [.int (nI 1), .ref a1, .ref a2, .ref a3, .ref a4, .ref a5, .ref a6, .ref a7, .ref a8, .ref a9, .int (nI tp), .int (nI mn), .ref b1, .int (nI bl), .ref b2, .ref b3, .int (nI jn), .int (nI sn), .ref b4, .ref b5, .ref b6, .ref b7, .ref b8, .int (nI wt), .int (nI wm), .int (nI wg), .long (lN wo), .int (nI wd), .ref b9])), (a1, .inl (cI, 25, .inl tz)), (a2, .inl (cI, 25, .inl tl)), (a3, .inl (cI, 25, .inl ty)), (b6, .inl (cJ, 25, .inr (.inl (fun j => lN ((upN fs jv (fz kd a bn jv)) j)))))] := hD
              refine lv_aload_n hx hb dX4_family_148 rfl (lv_at hl 1 rfl) ?_
              refine va_get (D := g) (ci := 4) (v := .ref b6) (C := RX4) (T := TX4) (N := 29) hx hb hts hinX4 hown hK hP 0 rfl rfl 20 (by decide) (hts (.fieldLink RX4 54 "BuddyRoofModel" "size" "[J") (by decide +kernel)) (fun _ h9 => h9) rfl dX4_family_149 ?_
              refine lv_iload hx hb dX4_family_152 (lv_at hl 6 rfl) ?_
              refine n_lald (v := lN (fz kd a bn jv)) hx hb hK hP 4 1 rfl rfl (i := jv) (by omega) (by decide) (by rw [upN_s]) dX4_family_154 ?_
              refine lv_ldc2 hx hb (v := 4194304) hown (hts (.constantLong RX4 80 4194304) (by decide +kernel)) dX4_family_155 ?_
              refine n_topl _ (lN 4194304) (by decide) ?_
              refine W.lcmp hx hb dX4_family_158 ?_
              refine n_lc_le (tgt := 163) hx hb dX4_family_159 (by decide) (by have := fz_b hkd ha.2 (fun q => (hbn q).2.2) hj.1 (fun i q1 q2 => (hT i q1 q2).2); omega) (by decide) (fun c32 => ?_) (fun c32 => ?_)
              · skip
                refine lv_iinc (v := nI (jv + 1)) (lv' := [(5, .int (nI (jv + 1))), (6, .int (nI (jv - 1))), (0, .ref rm), (1, .int (nI kd)), (2, .int (nI n)), (3, .int (nI a)), (4, .int b)]) hx hb dX4_family_163 hl (k := 6) rfl (n_inc _ 1) (by decide) rfl (fun ls hl => ?_)
                refine lv_goto (tgt := 67) hx hb dX4_family_166 (by decide) ?_
                exact ih (jv + 1) (upN fs jv (fz kd a bn jv)) (by omega) (by omega) (fun i q1 q2 => by
      by_cases e9 : i = jv
      · subst e9; exact ⟨upN_s _ _ _, c32⟩
      · rw [upN_n _ _ e9]; exact hT i q1 (by omega)) _ _ hP hD hS ls (lv_sub hl [2, 3, 4, 5, 6, 0] rfl)
              · skip
                exact kk1 (upN fs jv (fz kd a bn jv)) (fOK_f hj.1 (by omega) c32) _ _ hP hD hS ls (lv_sub hl [1] rfl)
            · skip
              refine lv_iload hx hb dX4_family_136 (lv_at hl 6 rfl) ?_
              refine lv_i2l hx hb dX4_family_138 (nI_l (by first | assumption | omega)) ?_
              refine lv_iload_n hx hb dX4_family_139 rfl (lv_at hl 4 rfl) ?_
              refine lv_i2l hx hb dX4_family_140 (nI_l (by first | assumption | omega)) ?_
              refine lv_lmul hx hb dX4_family_141 ?_
              refine n_topl _ (lN (jv * a)) (lN_mul _ _) ?_
              refine n_topl _ (lN (fz kd a bn jv)) (by rw [fz_l (k := jv) (by omega)]; unfold fLf; rw [if_neg (by omega)]) ?_
              refine lv_goto (tgt := 147) hx hb dX4_family_142 (by decide) ?_
              refine n_lastM hx hb hK hP hD hS 4 1 rfl rfl (i := jv) (v := (fz kd a bn jv)) (by omega) (by decide) dX4_family_147 (fun H locs hP hD hS => ?_)
              have hP : va_P g vwCl [(rm, .inr (4, [.int (nI 1), .ref a1, .ref a2, .ref a3, .ref a4, .ref a5, .ref a6, .ref a7, .ref a8, .ref a9, .int (nI tp), .int (nI mn), .ref b1, .int (nI bl), .ref b2, .ref b3, .int (nI jn), .int (nI sn), .ref b4, .ref b5, .ref b6, .ref b7, .ref b8, .int (nI wt), .int (nI wm), .int (nI wg), .long (lN wo), .int (nI wd), .ref b9])), (a1, .inl (cI, 25, .inl tz)), (a2, .inl (cI, 25, .inl tl)), (a3, .inl (cI, 25, .inl ty)), (b6, .inl (cJ, 25, .inr (.inl (fun j => lN ((upN fs jv (fz kd a bn jv)) j)))))] H := hP
              have hD : va_D A [(rm, .inr (4, [.int (nI 1), .ref a1, .ref a2, .ref a3, .ref a4, .ref a5, .ref a6, .ref a7, .ref a8, .ref a9, .int (nI tp), .int (nI mn), .ref b1, .int (nI bl), .ref b2, .ref b3, .int (nI jn), .int (nI sn), .ref b4, .ref b5, .ref b6, .ref b7, .ref b8, .int (nI wt), .int (nI wm), .int (nI wg), .long (lN wo), .int (nI wd), .ref b9])), (a1, .inl (cI, 25, .inl tz)), (a2, .inl (cI, 25, .inl tl)), (a3, .inl (cI, 25, .inl ty)), (b6, .inl (cJ, 25, .inr (.inl (fun j => lN ((upN fs jv (fz kd a bn jv)) j)))))] := hD
              refine lv_aload_n hx hb dX4_family_148 rfl (lv_at hl 1 rfl) ?_
              refine va_get (D := g) (ci := 4) (v := .ref b6) (C := RX4) (T := TX4) (N := 29) hx hb hts hinX4 hown hK hP 0 rfl rfl 20 (by decide) (hts (.fieldLink RX4 54 "BuddyRoofModel" "size" "[J") (by decide +kernel)) (fun _ h9 => h9) rfl dX4_family_149 ?_
              refine lv_iload hx hb dX4_family_152 (lv_at hl 6 rfl) ?_
              refine n_lald (v := lN (fz kd a bn jv)) hx hb hK hP 4 1 rfl rfl (i := jv) (by omega) (by decide) (by rw [upN_s]) dX4_family_154 ?_
              refine lv_ldc2 hx hb (v := 4194304) hown (hts (.constantLong RX4 80 4194304) (by decide +kernel)) dX4_family_155 ?_
              refine n_topl _ (lN 4194304) (by decide) ?_
              refine W.lcmp hx hb dX4_family_158 ?_
              refine n_lc_le (tgt := 163) hx hb dX4_family_159 (by decide) (by have := fz_b hkd ha.2 (fun q => (hbn q).2.2) hj.1 (fun i q1 q2 => (hT i q1 q2).2); omega) (by decide) (fun c33 => ?_) (fun c33 => ?_)
              · skip
                refine lv_iinc (v := nI (jv + 1)) (lv' := [(5, .int (nI (jv + 1))), (6, .int (nI (jv - 1))), (0, .ref rm), (1, .int (nI kd)), (2, .int (nI n)), (3, .int (nI a)), (4, .int b)]) hx hb dX4_family_163 hl (k := 6) rfl (n_inc _ 1) (by decide) rfl (fun ls hl => ?_)
                refine lv_goto (tgt := 67) hx hb dX4_family_166 (by decide) ?_
                exact ih (jv + 1) (upN fs jv (fz kd a bn jv)) (by omega) (by omega) (fun i q1 q2 => by
      by_cases e9 : i = jv
      · subst e9; exact ⟨upN_s _ _ _, c33⟩
      · rw [upN_n _ _ e9]; exact hT i q1 (by omega)) _ _ hP hD hS ls (lv_sub hl [2, 3, 4, 5, 6, 0] rfl)
              · skip
                exact kk1 (upN fs jv (fz kd a bn jv)) (fOK_f hj.1 (by omega) c33) _ _ hP hD hS ls (lv_sub hl [1] rfl)
          · skip
            refine lv_iload hx hb dX4_family_119 (lv_at hl 6 rfl) ?_
            refine lv_iconst (v := nI 2) hx hb dX4_family_121 (by decide) ?_
            refine n_icmp_ne (tgt := 131) hx hb dX4_family_122 (by decide) (by first | assumption | omega) (by first | assumption | omega) (fun c34 => ?_) (fun c34 => ?_)
            · skip
              refine lv_iload_n hx hb dX4_family_131 rfl (lv_at hl 2 rfl) ?_
              refine lv_iconst (v := nI 2) hx hb dX4_family_132 (by decide) ?_
              refine n_icmp_ne (tgt := 145) hx hb dX4_family_133 (by decide) (by first | assumption | omega) (by first | assumption | omega) (fun c35 => ?_) (fun c35 => ?_)
              · skip
                refine lv_iload_n hx hb dX4_family_145 rfl (lv_at hl 4 rfl) ?_
                refine lv_i2l hx hb dX4_family_146 (nI_l (by first | assumption | omega)) ?_
                refine n_topl _ (lN (fz kd a bn jv)) (by rw [fz_l (k := jv) (by omega)]; unfold fLf; first | (rw [if_pos (by omega), if_pos (by omega)]) | (rw [if_neg (by omega), show jv = 1 by omega, Nat.one_mul])) ?_
                refine n_lastM hx hb hK hP hD hS 4 1 rfl rfl (i := jv) (v := (fz kd a bn jv)) (by omega) (by decide) dX4_family_147 (fun H locs hP hD hS => ?_)
                have hP : va_P g vwCl [(rm, .inr (4, [.int (nI 1), .ref a1, .ref a2, .ref a3, .ref a4, .ref a5, .ref a6, .ref a7, .ref a8, .ref a9, .int (nI tp), .int (nI mn), .ref b1, .int (nI bl), .ref b2, .ref b3, .int (nI jn), .int (nI sn), .ref b4, .ref b5, .ref b6, .ref b7, .ref b8, .int (nI wt), .int (nI wm), .int (nI wg), .long (lN wo), .int (nI wd), .ref b9])), (a1, .inl (cI, 25, .inl tz)), (a2, .inl (cI, 25, .inl tl)), (a3, .inl (cI, 25, .inl ty)), (b6, .inl (cJ, 25, .inr (.inl (fun j => lN ((upN fs jv (fz kd a bn jv)) j)))))] H := hP
                have hD : va_D A [(rm, .inr (4, [.int (nI 1), .ref a1, .ref a2, .ref a3, .ref a4, .ref a5, .ref a6, .ref a7, .ref a8, .ref a9, .int (nI tp), .int (nI mn), .ref b1, .int (nI bl), .ref b2, .ref b3, .int (nI jn), .int (nI sn), .ref b4, .ref b5, .ref b6, .ref b7, .ref b8, .int (nI wt), .int (nI wm), .int (nI wg), .long (lN wo), .int (nI wd), .ref b9])), (a1, .inl (cI, 25, .inl tz)), (a2, .inl (cI, 25, .inl tl)), (a3, .inl (cI, 25, .inl ty)), (b6, .inl (cJ, 25, .inr (.inl (fun j => lN ((upN fs jv (fz kd a bn jv)) j)))))] := hD
                refine lv_aload_n hx hb dX4_family_148 rfl (lv_at hl 1 rfl) ?_
                refine va_get (D := g) (ci := 4) (v := .ref b6) (C := RX4) (T := TX4) (N := 29) hx hb hts hinX4 hown hK hP 0 rfl rfl 20 (by decide) (hts (.fieldLink RX4 54 "BuddyRoofModel" "size" "[J") (by decide +kernel)) (fun _ h9 => h9) rfl dX4_family_149 ?_
                refine lv_iload hx hb dX4_family_152 (lv_at hl 6 rfl) ?_
                refine n_lald (v := lN (fz kd a bn jv)) hx hb hK hP 4 1 rfl rfl (i := jv) (by omega) (by decide) (by rw [upN_s]) dX4_family_154 ?_
                refine lv_ldc2 hx hb (v := 4194304) hown (hts (.constantLong RX4 80 4194304) (by decide +kernel)) dX4_family_155 ?_
                refine n_topl _ (lN 4194304) (by decide) ?_
                refine W.lcmp hx hb dX4_family_158 ?_
                refine n_lc_le (tgt := 163) hx hb dX4_family_159 (by decide) (by have := fz_b hkd ha.2 (fun q => (hbn q).2.2) hj.1 (fun i q1 q2 => (hT i q1 q2).2); omega) (by decide) (fun c36 => ?_) (fun c36 => ?_)
                · skip
                  refine lv_iinc (v := nI (jv + 1)) (lv' := [(5, .int (nI (jv + 1))), (6, .int (nI (jv - 1))), (0, .ref rm), (1, .int (nI kd)), (2, .int (nI n)), (3, .int (nI a)), (4, .int b)]) hx hb dX4_family_163 hl (k := 6) rfl (n_inc _ 1) (by decide) rfl (fun ls hl => ?_)
                  refine lv_goto (tgt := 67) hx hb dX4_family_166 (by decide) ?_
                  exact ih (jv + 1) (upN fs jv (fz kd a bn jv)) (by omega) (by omega) (fun i q1 q2 => by
      by_cases e9 : i = jv
      · subst e9; exact ⟨upN_s _ _ _, c36⟩
      · rw [upN_n _ _ e9]; exact hT i q1 (by omega)) _ _ hP hD hS ls (lv_sub hl [2, 3, 4, 5, 6, 0] rfl)
                · skip
                  exact kk1 (upN fs jv (fz kd a bn jv)) (fOK_f hj.1 (by omega) c36) _ _ hP hD hS ls (lv_sub hl [1] rfl)
              · skip
                refine lv_iload hx hb dX4_family_136 (lv_at hl 6 rfl) ?_
                refine lv_i2l hx hb dX4_family_138 (nI_l (by first | assumption | omega)) ?_
                refine lv_iload_n hx hb dX4_family_139 rfl (lv_at hl 4 rfl) ?_
                refine lv_i2l hx hb dX4_family_140 (nI_l (by first | assumption | omega)) ?_
                refine lv_lmul hx hb dX4_family_141 ?_
                refine n_topl _ (lN (jv * a)) (lN_mul _ _) ?_
                refine n_topl _ (lN (fz kd a bn jv)) (by rw [fz_l (k := jv) (by omega)]; unfold fLf; rw [if_neg (by omega)]) ?_
                refine lv_goto (tgt := 147) hx hb dX4_family_142 (by decide) ?_
                refine n_lastM hx hb hK hP hD hS 4 1 rfl rfl (i := jv) (v := (fz kd a bn jv)) (by omega) (by decide) dX4_family_147 (fun H locs hP hD hS => ?_)
                have hP : va_P g vwCl [(rm, .inr (4, [.int (nI 1), .ref a1, .ref a2, .ref a3, .ref a4, .ref a5, .ref a6, .ref a7, .ref a8, .ref a9, .int (nI tp), .int (nI mn), .ref b1, .int (nI bl), .ref b2, .ref b3, .int (nI jn), .int (nI sn), .ref b4, .ref b5, .ref b6, .ref b7, .ref b8, .int (nI wt), .int (nI wm), .int (nI wg), .long (lN wo), .int (nI wd), .ref b9])), (a1, .inl (cI, 25, .inl tz)), (a2, .inl (cI, 25, .inl tl)), (a3, .inl (cI, 25, .inl ty)), (b6, .inl (cJ, 25, .inr (.inl (fun j => lN ((upN fs jv (fz kd a bn jv)) j)))))] H := hP
                have hD : va_D A [(rm, .inr (4, [.int (nI 1), .ref a1, .ref a2, .ref a3, .ref a4, .ref a5, .ref a6, .ref a7, .ref a8, .ref a9, .int (nI tp), .int (nI mn), .ref b1, .int (nI bl), .ref b2, .ref b3, .int (nI jn), .int (nI sn), .ref b4, .ref b5, .ref b6, .ref b7, .ref b8, .int (nI wt), .int (nI wm), .int (nI wg), .long (lN wo), .int (nI wd), .ref b9])), (a1, .inl (cI, 25, .inl tz)), (a2, .inl (cI, 25, .inl tl)), (a3, .inl (cI, 25, .inl ty)), (b6, .inl (cJ, 25, .inr (.inl (fun j => lN ((upN fs jv (fz kd a bn jv)) j)))))] := hD
                refine lv_aload_n hx hb dX4_family_148 rfl (lv_at hl 1 rfl) ?_
                refine va_get (D := g) (ci := 4) (v := .ref b6) (C := RX4) (T := TX4) (N := 29) hx hb hts hinX4 hown hK hP 0 rfl rfl 20 (by decide) (hts (.fieldLink RX4 54 "BuddyRoofModel" "size" "[J") (by decide +kernel)) (fun _ h9 => h9) rfl dX4_family_149 ?_
                refine lv_iload hx hb dX4_family_152 (lv_at hl 6 rfl) ?_
                refine n_lald (v := lN (fz kd a bn jv)) hx hb hK hP 4 1 rfl rfl (i := jv) (by omega) (by decide) (by rw [upN_s]) dX4_family_154 ?_
                refine lv_ldc2 hx hb (v := 4194304) hown (hts (.constantLong RX4 80 4194304) (by decide +kernel)) dX4_family_155 ?_
                refine n_topl _ (lN 4194304) (by decide) ?_
                refine W.lcmp hx hb dX4_family_158 ?_
                refine n_lc_le (tgt := 163) hx hb dX4_family_159 (by decide) (by have := fz_b hkd ha.2 (fun q => (hbn q).2.2) hj.1 (fun i q1 q2 => (hT i q1 q2).2); omega) (by decide) (fun c37 => ?_) (fun c37 => ?_)
                · skip
                  refine lv_iinc (v := nI (jv + 1)) (lv' := [(5, .int (nI (jv + 1))), (6, .int (nI (jv - 1))), (0, .ref rm), (1, .int (nI kd)), (2, .int (nI n)), (3, .int (nI a)), (4, .int b)]) hx hb dX4_family_163 hl (k := 6) rfl (n_inc _ 1) (by decide) rfl (fun ls hl => ?_)
                  refine lv_goto (tgt := 67) hx hb dX4_family_166 (by decide) ?_
                  exact ih (jv + 1) (upN fs jv (fz kd a bn jv)) (by omega) (by omega) (fun i q1 q2 => by
      by_cases e9 : i = jv
      · subst e9; exact ⟨upN_s _ _ _, c37⟩
      · rw [upN_n _ _ e9]; exact hT i q1 (by omega)) _ _ hP hD hS ls (lv_sub hl [2, 3, 4, 5, 6, 0] rfl)
                · skip
                  exact kk1 (upN fs jv (fz kd a bn jv)) (fOK_f hj.1 (by omega) c37) _ _ hP hD hS ls (lv_sub hl [1] rfl)
            · skip
              refine lv_iload hx hb dX4_family_125 (lv_at hl 5 rfl) ?_
              refine lv_i2l hx hb dX4_family_127 rfl ?_
              refine n_topl _ (lN (fz kd a bn jv)) (by rw [(hbn (by omega)).1, fz_l (k := jv) (by omega)]; unfold fLf; rw [if_pos (by omega), if_neg (by omega)]; exact nI_l (by have := (hbn (by omega)).2.2; omega)) ?_
              refine lv_goto (tgt := 147) hx hb dX4_family_128 (by decide) ?_
              refine n_lastM hx hb hK hP hD hS 4 1 rfl rfl (i := jv) (v := (fz kd a bn jv)) (by omega) (by decide) dX4_family_147 (fun H locs hP hD hS => ?_)
              have hP : va_P g vwCl [(rm, .inr (4, [.int (nI 1), .ref a1, .ref a2, .ref a3, .ref a4, .ref a5, .ref a6, .ref a7, .ref a8, .ref a9, .int (nI tp), .int (nI mn), .ref b1, .int (nI bl), .ref b2, .ref b3, .int (nI jn), .int (nI sn), .ref b4, .ref b5, .ref b6, .ref b7, .ref b8, .int (nI wt), .int (nI wm), .int (nI wg), .long (lN wo), .int (nI wd), .ref b9])), (a1, .inl (cI, 25, .inl tz)), (a2, .inl (cI, 25, .inl tl)), (a3, .inl (cI, 25, .inl ty)), (b6, .inl (cJ, 25, .inr (.inl (fun j => lN ((upN fs jv (fz kd a bn jv)) j)))))] H := hP
              have hD : va_D A [(rm, .inr (4, [.int (nI 1), .ref a1, .ref a2, .ref a3, .ref a4, .ref a5, .ref a6, .ref a7, .ref a8, .ref a9, .int (nI tp), .int (nI mn), .ref b1, .int (nI bl), .ref b2, .ref b3, .int (nI jn), .int (nI sn), .ref b4, .ref b5, .ref b6, .ref b7, .ref b8, .int (nI wt), .int (nI wm), .int (nI wg), .long (lN wo), .int (nI wd), .ref b9])), (a1, .inl (cI, 25, .inl tz)), (a2, .inl (cI, 25, .inl tl)), (a3, .inl (cI, 25, .inl ty)), (b6, .inl (cJ, 25, .inr (.inl (fun j => lN ((upN fs jv (fz kd a bn jv)) j)))))] := hD
              refine lv_aload_n hx hb dX4_family_148 rfl (lv_at hl 1 rfl) ?_
              refine va_get (D := g) (ci := 4) (v := .ref b6) (C := RX4) (T := TX4) (N := 29) hx hb hts hinX4 hown hK hP 0 rfl rfl 20 (by decide) (hts (.fieldLink RX4 54 "BuddyRoofModel" "size" "[J") (by decide +kernel)) (fun _ h9 => h9) rfl dX4_family_149 ?_
              refine lv_iload hx hb dX4_family_152 (lv_at hl 6 rfl) ?_
              refine n_lald (v := lN (fz kd a bn jv)) hx hb hK hP 4 1 rfl rfl (i := jv) (by omega) (by decide) (by rw [upN_s]) dX4_family_154 ?_
              refine lv_ldc2 hx hb (v := 4194304) hown (hts (.constantLong RX4 80 4194304) (by decide +kernel)) dX4_family_155 ?_
              refine n_topl _ (lN 4194304) (by decide) ?_
              refine W.lcmp hx hb dX4_family_158 ?_
              refine n_lc_le (tgt := 163) hx hb dX4_family_159 (by decide) (by have := fz_b hkd ha.2 (fun q => (hbn q).2.2) hj.1 (fun i q1 q2 => (hT i q1 q2).2); omega) (by decide) (fun c38 => ?_) (fun c38 => ?_)
              · skip
                refine lv_iinc (v := nI (jv + 1)) (lv' := [(5, .int (nI (jv + 1))), (6, .int (nI (jv - 1))), (0, .ref rm), (1, .int (nI kd)), (2, .int (nI n)), (3, .int (nI a)), (4, .int b)]) hx hb dX4_family_163 hl (k := 6) rfl (n_inc _ 1) (by decide) rfl (fun ls hl => ?_)
                refine lv_goto (tgt := 67) hx hb dX4_family_166 (by decide) ?_
                exact ih (jv + 1) (upN fs jv (fz kd a bn jv)) (by omega) (by omega) (fun i q1 q2 => by
      by_cases e9 : i = jv
      · subst e9; exact ⟨upN_s _ _ _, c38⟩
      · rw [upN_n _ _ e9]; exact hT i q1 (by omega)) _ _ hP hD hS ls (lv_sub hl [2, 3, 4, 5, 6, 0] rfl)
              · skip
                exact kk1 (upN fs jv (fz kd a bn jv)) (fOK_f hj.1 (by omega) c38) _ _ hP hD hS ls (lv_sub hl [1] rfl)
        · skip
          refine lv_aload_n hx hb dX4_family_92 rfl (lv_at hl 1 rfl) ?_
          refine va_get (D := g) (ci := 4) (v := .ref b6) (C := RX4) (T := TX4) (N := 29) hx hb hts hinX4 hown hK hP 0 rfl rfl 20 (by decide) (hts (.fieldLink RX4 54 "BuddyRoofModel" "size" "[J") (by decide +kernel)) (fun _ h9 => h9) rfl dX4_family_93 ?_
          refine lv_iload hx hb dX4_family_96 (lv_at hl 0 rfl) ?_
          refine n_lald (v := lN (fz kd a bn (jv - 1))) hx hb hK hP 4 1 rfl rfl (i := (jv - 1)) (by omega) (by decide) (by rw [(hT _ (by omega) (by omega)).1]) dX4_family_98 ?_
          refine lv_aload_n hx hb dX4_family_99 rfl (lv_at hl 1 rfl) ?_
          refine va_get (D := g) (ci := 4) (v := .ref b6) (C := RX4) (T := TX4) (N := 29) hx hb hts hinX4 hown hK hP 0 rfl rfl 20 (by decide) (hts (.fieldLink RX4 54 "BuddyRoofModel" "size" "[J") (by decide +kernel)) (fun _ h9 => h9) rfl dX4_family_100 ?_
          refine lv_iload_n hx hb dX4_family_103 rfl (lv_at hl 2 rfl) ?_
          refine lv_iload hx hb dX4_family_104 (lv_at hl 6 rfl) ?_
          refine k_goR (W.runS (As := [.int (nI kd), .int (nI jv)]) (rest := [.ref b6, .long (lN (fz kd a bn (jv - 1))), .int (nI jv), .ref b6]) ⟨hx, hb, hml, hown, hts⟩ (c_X4_rightOf l g cI cJ cZ  kd jv hkd (by omega)) (va_cwS 2 hts gX4_family_X4_rightOf rfl rfl rfl (by decide +kernel) ⟨Nat.le_of_ble_eq_true rfl, Nat.le_of_ble_eq_true rfl⟩) (k_preRS hk hP [] rfl) rfl rfl hl.1 rfl (lv_room (Nat.le_of_ble_eq_true rfl)) dX4_family_106 ⟨by first | exact Nat.zero_le _ | omega, by first | exact Nat.zero_le _ | omega⟩) ?_
          refine n_top _ (nI (fR kd jv)) (by rw [if_pos hcs]) ?_
          refine n_lald (v := lN (fz kd a bn (fR kd jv))) hx hb hK hP 4 1 rfl rfl (i := (fR kd jv)) (by have := fR_b hkd hcs; omega) (by decide) (by rw [(hT _ (fR_b hkd hcs).1 (fR_b hkd hcs).2).1]) dX4_family_109 ?_
          refine lv_ladd hx hb dX4_family_110 ?_
          refine n_topl _ (lN ((fz kd a bn (jv - 1)) + (fz kd a bn (fR kd jv)))) (lN_add _ _) ?_
          refine n_topl _ (lN (fz kd a bn jv)) (by rw [fz_s (k := jv) hcs]) ?_
          refine lv_goto (tgt := 147) hx hb dX4_family_111 (by decide) ?_
          refine n_lastM hx hb hK hP hD hS 4 1 rfl rfl (i := jv) (v := (fz kd a bn jv)) (by omega) (by decide) dX4_family_147 (fun H locs hP hD hS => ?_)
          have hP : va_P g vwCl [(rm, .inr (4, [.int (nI 1), .ref a1, .ref a2, .ref a3, .ref a4, .ref a5, .ref a6, .ref a7, .ref a8, .ref a9, .int (nI tp), .int (nI mn), .ref b1, .int (nI bl), .ref b2, .ref b3, .int (nI jn), .int (nI sn), .ref b4, .ref b5, .ref b6, .ref b7, .ref b8, .int (nI wt), .int (nI wm), .int (nI wg), .long (lN wo), .int (nI wd), .ref b9])), (a1, .inl (cI, 25, .inl tz)), (a2, .inl (cI, 25, .inl tl)), (a3, .inl (cI, 25, .inl ty)), (b6, .inl (cJ, 25, .inr (.inl (fun j => lN ((upN fs jv (fz kd a bn jv)) j)))))] H := hP
          have hD : va_D A [(rm, .inr (4, [.int (nI 1), .ref a1, .ref a2, .ref a3, .ref a4, .ref a5, .ref a6, .ref a7, .ref a8, .ref a9, .int (nI tp), .int (nI mn), .ref b1, .int (nI bl), .ref b2, .ref b3, .int (nI jn), .int (nI sn), .ref b4, .ref b5, .ref b6, .ref b7, .ref b8, .int (nI wt), .int (nI wm), .int (nI wg), .long (lN wo), .int (nI wd), .ref b9])), (a1, .inl (cI, 25, .inl tz)), (a2, .inl (cI, 25, .inl tl)), (a3, .inl (cI, 25, .inl ty)), (b6, .inl (cJ, 25, .inr (.inl (fun j => lN ((upN fs jv (fz kd a bn jv)) j)))))] := hD
          refine lv_aload_n hx hb dX4_family_148 rfl (lv_at hl 1 rfl) ?_
          refine va_get (D := g) (ci := 4) (v := .ref b6) (C := RX4) (T := TX4) (N := 29) hx hb hts hinX4 hown hK hP 0 rfl rfl 20 (by decide) (hts (.fieldLink RX4 54 "BuddyRoofModel" "size" "[J") (by decide +kernel)) (fun _ h9 => h9) rfl dX4_family_149 ?_
          refine lv_iload hx hb dX4_family_152 (lv_at hl 6 rfl) ?_
          refine n_lald (v := lN (fz kd a bn jv)) hx hb hK hP 4 1 rfl rfl (i := jv) (by omega) (by decide) (by rw [upN_s]) dX4_family_154 ?_
          refine lv_ldc2 hx hb (v := 4194304) hown (hts (.constantLong RX4 80 4194304) (by decide +kernel)) dX4_family_155 ?_
          refine n_topl _ (lN 4194304) (by decide) ?_
          refine W.lcmp hx hb dX4_family_158 ?_
          refine n_lc_le (tgt := 163) hx hb dX4_family_159 (by decide) (by have := fz_b hkd ha.2 (fun q => (hbn q).2.2) hj.1 (fun i q1 q2 => (hT i q1 q2).2); omega) (by decide) (fun c39 => ?_) (fun c39 => ?_)
          · skip
            refine lv_iinc (v := nI (jv + 1)) (lv' := [(5, .int (nI (jv + 1))), (6, .int (nI (jv - 1))), (0, .ref rm), (1, .int (nI kd)), (2, .int (nI n)), (3, .int (nI a)), (4, .int b)]) hx hb dX4_family_163 hl (k := 6) rfl (n_inc _ 1) (by decide) rfl (fun ls hl => ?_)
            refine lv_goto (tgt := 67) hx hb dX4_family_166 (by decide) ?_
            exact ih (jv + 1) (upN fs jv (fz kd a bn jv)) (by omega) (by omega) (fun i q1 q2 => by
      by_cases e9 : i = jv
      · subst e9; exact ⟨upN_s _ _ _, c39⟩
      · rw [upN_n _ _ e9]; exact hT i q1 (by omega)) _ _ hP hD hS ls (lv_sub hl [2, 3, 4, 5, 6, 0] rfl)
          · skip
            exact kk1 (upN fs jv (fz kd a bn jv)) (fOK_f hj.1 (by omega) c39) _ _ hP hD hS ls (lv_sub hl [1] rfl)
      · skip
        refine k_goR (W.runS (As := [.int (nI kd), .int (nI jv)]) (rest := []) ⟨hx, hb, hml, hown, hts⟩ (c_X4_leftOf l g cI cJ cZ  kd jv hkd (by omega)) (va_cwS 2 hts gX4_family_X4_leftOf rfl rfl rfl (by decide +kernel) ⟨Nat.le_of_ble_eq_true rfl, Nat.le_of_ble_eq_true rfl⟩) (k_preRS hk hP [] rfl) rfl rfl hl.1 rfl (lv_room (Nat.le_of_ble_eq_true rfl)) dX4_family_76 ⟨by first | exact Nat.zero_le _ | omega, by first | exact Nat.zero_le _ | omega⟩) ?_
        refine n_top _ (nI 0) (by rw [if_neg hcs]) ?_
        refine lv_istore (lv' := [(6, .int (nI 0)), (0, .ref rm), (1, .int (nI kd)), (2, .int (nI n)), (3, .int (nI a)), (4, .int b), (5, .int (nI jv))]) hx hb dX4_family_79 hl (by decide) rfl (fun ls hl => ?_)
        refine lv_aload_n hx hb dX4_family_81 rfl (lv_at hl 1 rfl) ?_
        refine va_get (D := g) (ci := 4) (v := .ref b6) (C := RX4) (T := TX4) (N := 29) hx hb hts hinX4 hown hK hP 0 rfl rfl 20 (by decide) (hts (.fieldLink RX4 54 "BuddyRoofModel" "size" "[J") (by decide +kernel)) (fun _ h9 => h9) rfl dX4_family_82 ?_
        refine lv_iload hx hb dX4_family_85 (lv_at hl 6 rfl) ?_
        refine lv_iload hx hb dX4_family_87 (lv_at hl 0 rfl) ?_
        refine n_if_le (tgt := 114) hx hb dX4_family_89 (by decide) (by first | assumption | omega) (fun c40 => ?_) (fun c40 => ?_)
        · skip
          refine lv_iload_n hx hb dX4_family_114 rfl (lv_at hl 2 rfl) ?_
          refine lv_iconst (v := nI 1) hx hb dX4_family_115 (by decide) ?_
          refine n_icmp_ne (tgt := 131) hx hb dX4_family_116 (by decide) (by first | assumption | omega) (by first | assumption | omega) (fun c41 => ?_) (fun c41 => ?_)
          · skip
            refine lv_iload_n hx hb dX4_family_131 rfl (lv_at hl 2 rfl) ?_
            refine lv_iconst (v := nI 2) hx hb dX4_family_132 (by decide) ?_
            refine n_icmp_ne (tgt := 145) hx hb dX4_family_133 (by decide) (by first | assumption | omega) (by first | assumption | omega) (fun c42 => ?_) (fun c42 => ?_)
            · skip
              refine lv_iload_n hx hb dX4_family_145 rfl (lv_at hl 4 rfl) ?_
              refine lv_i2l hx hb dX4_family_146 (nI_l (by first | assumption | omega)) ?_
              refine n_topl _ (lN (fz kd a bn jv)) (by rw [fz_l (k := jv) (by omega)]; unfold fLf; first | (rw [if_pos (by omega), if_pos (by omega)]) | (rw [if_neg (by omega), show jv = 1 by omega, Nat.one_mul])) ?_
              refine n_lastM hx hb hK hP hD hS 4 1 rfl rfl (i := jv) (v := (fz kd a bn jv)) (by omega) (by decide) dX4_family_147 (fun H locs hP hD hS => ?_)
              have hP : va_P g vwCl [(rm, .inr (4, [.int (nI 1), .ref a1, .ref a2, .ref a3, .ref a4, .ref a5, .ref a6, .ref a7, .ref a8, .ref a9, .int (nI tp), .int (nI mn), .ref b1, .int (nI bl), .ref b2, .ref b3, .int (nI jn), .int (nI sn), .ref b4, .ref b5, .ref b6, .ref b7, .ref b8, .int (nI wt), .int (nI wm), .int (nI wg), .long (lN wo), .int (nI wd), .ref b9])), (a1, .inl (cI, 25, .inl tz)), (a2, .inl (cI, 25, .inl tl)), (a3, .inl (cI, 25, .inl ty)), (b6, .inl (cJ, 25, .inr (.inl (fun j => lN ((upN fs jv (fz kd a bn jv)) j)))))] H := hP
              have hD : va_D A [(rm, .inr (4, [.int (nI 1), .ref a1, .ref a2, .ref a3, .ref a4, .ref a5, .ref a6, .ref a7, .ref a8, .ref a9, .int (nI tp), .int (nI mn), .ref b1, .int (nI bl), .ref b2, .ref b3, .int (nI jn), .int (nI sn), .ref b4, .ref b5, .ref b6, .ref b7, .ref b8, .int (nI wt), .int (nI wm), .int (nI wg), .long (lN wo), .int (nI wd), .ref b9])), (a1, .inl (cI, 25, .inl tz)), (a2, .inl (cI, 25, .inl tl)), (a3, .inl (cI, 25, .inl ty)), (b6, .inl (cJ, 25, .inr (.inl (fun j => lN ((upN fs jv (fz kd a bn jv)) j)))))] := hD
              refine lv_aload_n hx hb dX4_family_148 rfl (lv_at hl 1 rfl) ?_
              refine va_get (D := g) (ci := 4) (v := .ref b6) (C := RX4) (T := TX4) (N := 29) hx hb hts hinX4 hown hK hP 0 rfl rfl 20 (by decide) (hts (.fieldLink RX4 54 "BuddyRoofModel" "size" "[J") (by decide +kernel)) (fun _ h9 => h9) rfl dX4_family_149 ?_
              refine lv_iload hx hb dX4_family_152 (lv_at hl 6 rfl) ?_
              refine n_lald (v := lN (fz kd a bn jv)) hx hb hK hP 4 1 rfl rfl (i := jv) (by omega) (by decide) (by rw [upN_s]) dX4_family_154 ?_
              refine lv_ldc2 hx hb (v := 4194304) hown (hts (.constantLong RX4 80 4194304) (by decide +kernel)) dX4_family_155 ?_
              refine n_topl _ (lN 4194304) (by decide) ?_
              refine W.lcmp hx hb dX4_family_158 ?_
              refine n_lc_le (tgt := 163) hx hb dX4_family_159 (by decide) (by have := fz_b hkd ha.2 (fun q => (hbn q).2.2) hj.1 (fun i q1 q2 => (hT i q1 q2).2); omega) (by decide) (fun c43 => ?_) (fun c43 => ?_)
              · skip
                refine lv_iinc (v := nI (jv + 1)) (lv' := [(5, .int (nI (jv + 1))), (6, .int (nI 0)), (0, .ref rm), (1, .int (nI kd)), (2, .int (nI n)), (3, .int (nI a)), (4, .int b)]) hx hb dX4_family_163 hl (k := 6) rfl (n_inc _ 1) (by decide) rfl (fun ls hl => ?_)
                refine lv_goto (tgt := 67) hx hb dX4_family_166 (by decide) ?_
                exact ih (jv + 1) (upN fs jv (fz kd a bn jv)) (by omega) (by omega) (fun i q1 q2 => by
      by_cases e9 : i = jv
      · subst e9; exact ⟨upN_s _ _ _, c43⟩
      · rw [upN_n _ _ e9]; exact hT i q1 (by omega)) _ _ hP hD hS ls (lv_sub hl [2, 3, 4, 5, 6, 0] rfl)
              · skip
                exact kk1 (upN fs jv (fz kd a bn jv)) (fOK_f hj.1 (by omega) c43) _ _ hP hD hS ls (lv_sub hl [1] rfl)
            · skip
              refine lv_iload hx hb dX4_family_136 (lv_at hl 6 rfl) ?_
              refine lv_i2l hx hb dX4_family_138 (nI_l (by first | assumption | omega)) ?_
              refine lv_iload_n hx hb dX4_family_139 rfl (lv_at hl 4 rfl) ?_
              refine lv_i2l hx hb dX4_family_140 (nI_l (by first | assumption | omega)) ?_
              refine lv_lmul hx hb dX4_family_141 ?_
              refine n_topl _ (lN (jv * a)) (lN_mul _ _) ?_
              refine n_topl _ (lN (fz kd a bn jv)) (by rw [fz_l (k := jv) (by omega)]; unfold fLf; rw [if_neg (by omega)]) ?_
              refine lv_goto (tgt := 147) hx hb dX4_family_142 (by decide) ?_
              refine n_lastM hx hb hK hP hD hS 4 1 rfl rfl (i := jv) (v := (fz kd a bn jv)) (by omega) (by decide) dX4_family_147 (fun H locs hP hD hS => ?_)
              have hP : va_P g vwCl [(rm, .inr (4, [.int (nI 1), .ref a1, .ref a2, .ref a3, .ref a4, .ref a5, .ref a6, .ref a7, .ref a8, .ref a9, .int (nI tp), .int (nI mn), .ref b1, .int (nI bl), .ref b2, .ref b3, .int (nI jn), .int (nI sn), .ref b4, .ref b5, .ref b6, .ref b7, .ref b8, .int (nI wt), .int (nI wm), .int (nI wg), .long (lN wo), .int (nI wd), .ref b9])), (a1, .inl (cI, 25, .inl tz)), (a2, .inl (cI, 25, .inl tl)), (a3, .inl (cI, 25, .inl ty)), (b6, .inl (cJ, 25, .inr (.inl (fun j => lN ((upN fs jv (fz kd a bn jv)) j)))))] H := hP
              have hD : va_D A [(rm, .inr (4, [.int (nI 1), .ref a1, .ref a2, .ref a3, .ref a4, .ref a5, .ref a6, .ref a7, .ref a8, .ref a9, .int (nI tp), .int (nI mn), .ref b1, .int (nI bl), .ref b2, .ref b3, .int (nI jn), .int (nI sn), .ref b4, .ref b5, .ref b6, .ref b7, .ref b8, .int (nI wt), .int (nI wm), .int (nI wg), .long (lN wo), .int (nI wd), .ref b9])), (a1, .inl (cI, 25, .inl tz)), (a2, .inl (cI, 25, .inl tl)), (a3, .inl (cI, 25, .inl ty)), (b6, .inl (cJ, 25, .inr (.inl (fun j => lN ((upN fs jv (fz kd a bn jv)) j)))))] := hD
              refine lv_aload_n hx hb dX4_family_148 rfl (lv_at hl 1 rfl) ?_
              refine va_get (D := g) (ci := 4) (v := .ref b6) (C := RX4) (T := TX4) (N := 29) hx hb hts hinX4 hown hK hP 0 rfl rfl 20 (by decide) (hts (.fieldLink RX4 54 "BuddyRoofModel" "size" "[J") (by decide +kernel)) (fun _ h9 => h9) rfl dX4_family_149 ?_
              refine lv_iload hx hb dX4_family_152 (lv_at hl 6 rfl) ?_
              refine n_lald (v := lN (fz kd a bn jv)) hx hb hK hP 4 1 rfl rfl (i := jv) (by omega) (by decide) (by rw [upN_s]) dX4_family_154 ?_
              refine lv_ldc2 hx hb (v := 4194304) hown (hts (.constantLong RX4 80 4194304) (by decide +kernel)) dX4_family_155 ?_
              refine n_topl _ (lN 4194304) (by decide) ?_
              refine W.lcmp hx hb dX4_family_158 ?_
              refine n_lc_le (tgt := 163) hx hb dX4_family_159 (by decide) (by have := fz_b hkd ha.2 (fun q => (hbn q).2.2) hj.1 (fun i q1 q2 => (hT i q1 q2).2); omega) (by decide) (fun c44 => ?_) (fun c44 => ?_)
              · skip
                refine lv_iinc (v := nI (jv + 1)) (lv' := [(5, .int (nI (jv + 1))), (6, .int (nI 0)), (0, .ref rm), (1, .int (nI kd)), (2, .int (nI n)), (3, .int (nI a)), (4, .int b)]) hx hb dX4_family_163 hl (k := 6) rfl (n_inc _ 1) (by decide) rfl (fun ls hl => ?_)
                refine lv_goto (tgt := 67) hx hb dX4_family_166 (by decide) ?_
                exact ih (jv + 1) (upN fs jv (fz kd a bn jv)) (by omega) (by omega) (fun i q1 q2 => by
      by_cases e9 : i = jv
      · subst e9; exact ⟨upN_s _ _ _, c44⟩
      · rw [upN_n _ _ e9]; exact hT i q1 (by omega)) _ _ hP hD hS ls (lv_sub hl [2, 3, 4, 5, 6, 0] rfl)
              · skip
                exact kk1 (upN fs jv (fz kd a bn jv)) (fOK_f hj.1 (by omega) c44) _ _ hP hD hS ls (lv_sub hl [1] rfl)
          · skip
            refine lv_iload hx hb dX4_family_119 (lv_at hl 6 rfl) ?_
            refine lv_iconst (v := nI 2) hx hb dX4_family_121 (by decide) ?_
            refine n_icmp_ne (tgt := 131) hx hb dX4_family_122 (by decide) (by first | assumption | omega) (by first | assumption | omega) (fun c45 => ?_) (fun c45 => ?_)
            · skip
              refine lv_iload_n hx hb dX4_family_131 rfl (lv_at hl 2 rfl) ?_
              refine lv_iconst (v := nI 2) hx hb dX4_family_132 (by decide) ?_
              refine n_icmp_ne (tgt := 145) hx hb dX4_family_133 (by decide) (by first | assumption | omega) (by first | assumption | omega) (fun c46 => ?_) (fun c46 => ?_)
              · skip
                refine lv_iload_n hx hb dX4_family_145 rfl (lv_at hl 4 rfl) ?_
                refine lv_i2l hx hb dX4_family_146 (nI_l (by first | assumption | omega)) ?_
                refine n_topl _ (lN (fz kd a bn jv)) (by rw [fz_l (k := jv) (by omega)]; unfold fLf; first | (rw [if_pos (by omega), if_pos (by omega)]) | (rw [if_neg (by omega), show jv = 1 by omega, Nat.one_mul])) ?_
                refine n_lastM hx hb hK hP hD hS 4 1 rfl rfl (i := jv) (v := (fz kd a bn jv)) (by omega) (by decide) dX4_family_147 (fun H locs hP hD hS => ?_)
                have hP : va_P g vwCl [(rm, .inr (4, [.int (nI 1), .ref a1, .ref a2, .ref a3, .ref a4, .ref a5, .ref a6, .ref a7, .ref a8, .ref a9, .int (nI tp), .int (nI mn), .ref b1, .int (nI bl), .ref b2, .ref b3, .int (nI jn), .int (nI sn), .ref b4, .ref b5, .ref b6, .ref b7, .ref b8, .int (nI wt), .int (nI wm), .int (nI wg), .long (lN wo), .int (nI wd), .ref b9])), (a1, .inl (cI, 25, .inl tz)), (a2, .inl (cI, 25, .inl tl)), (a3, .inl (cI, 25, .inl ty)), (b6, .inl (cJ, 25, .inr (.inl (fun j => lN ((upN fs jv (fz kd a bn jv)) j)))))] H := hP
                have hD : va_D A [(rm, .inr (4, [.int (nI 1), .ref a1, .ref a2, .ref a3, .ref a4, .ref a5, .ref a6, .ref a7, .ref a8, .ref a9, .int (nI tp), .int (nI mn), .ref b1, .int (nI bl), .ref b2, .ref b3, .int (nI jn), .int (nI sn), .ref b4, .ref b5, .ref b6, .ref b7, .ref b8, .int (nI wt), .int (nI wm), .int (nI wg), .long (lN wo), .int (nI wd), .ref b9])), (a1, .inl (cI, 25, .inl tz)), (a2, .inl (cI, 25, .inl tl)), (a3, .inl (cI, 25, .inl ty)), (b6, .inl (cJ, 25, .inr (.inl (fun j => lN ((upN fs jv (fz kd a bn jv)) j)))))] := hD
                refine lv_aload_n hx hb dX4_family_148 rfl (lv_at hl 1 rfl) ?_
                refine va_get (D := g) (ci := 4) (v := .ref b6) (C := RX4) (T := TX4) (N := 29) hx hb hts hinX4 hown hK hP 0 rfl rfl 20 (by decide) (hts (.fieldLink RX4 54 "BuddyRoofModel" "size" "[J") (by decide +kernel)) (fun _ h9 => h9) rfl dX4_family_149 ?_
                refine lv_iload hx hb dX4_family_152 (lv_at hl 6 rfl) ?_
                refine n_lald (v := lN (fz kd a bn jv)) hx hb hK hP 4 1 rfl rfl (i := jv) (by omega) (by decide) (by rw [upN_s]) dX4_family_154 ?_
                refine lv_ldc2 hx hb (v := 4194304) hown (hts (.constantLong RX4 80 4194304) (by decide +kernel)) dX4_family_155 ?_
                refine n_topl _ (lN 4194304) (by decide) ?_
                refine W.lcmp hx hb dX4_family_158 ?_
                refine n_lc_le (tgt := 163) hx hb dX4_family_159 (by decide) (by have := fz_b hkd ha.2 (fun q => (hbn q).2.2) hj.1 (fun i q1 q2 => (hT i q1 q2).2); omega) (by decide) (fun c47 => ?_) (fun c47 => ?_)
                · skip
                  refine lv_iinc (v := nI (jv + 1)) (lv' := [(5, .int (nI (jv + 1))), (6, .int (nI 0)), (0, .ref rm), (1, .int (nI kd)), (2, .int (nI n)), (3, .int (nI a)), (4, .int b)]) hx hb dX4_family_163 hl (k := 6) rfl (n_inc _ 1) (by decide) rfl (fun ls hl => ?_)
                  refine lv_goto (tgt := 67) hx hb dX4_family_166 (by decide) ?_
                  exact ih (jv + 1) (upN fs jv (fz kd a bn jv)) (by omega) (by omega) (fun i q1 q2 => by
      by_cases e9 : i = jv
      · subst e9; exact ⟨upN_s _ _ _, c47⟩
      · rw [upN_n _ _ e9]; exact hT i q1 (by omega)) _ _ hP hD hS ls (lv_sub hl [2, 3, 4, 5, 6, 0] rfl)
                · skip
                  exact kk1 (upN fs jv (fz kd a bn jv)) (fOK_f hj.1 (by omega) c47) _ _ hP hD hS ls (lv_sub hl [1] rfl)
              · skip
                refine lv_iload hx hb dX4_family_136 (lv_at hl 6 rfl) ?_
                refine lv_i2l hx hb dX4_family_138 (nI_l (by first | assumption | omega)) ?_
                refine lv_iload_n hx hb dX4_family_139 rfl (lv_at hl 4 rfl) ?_
                refine lv_i2l hx hb dX4_family_140 (nI_l (by first | assumption | omega)) ?_
                refine lv_lmul hx hb dX4_family_141 ?_
                refine n_topl _ (lN (jv * a)) (lN_mul _ _) ?_
                refine n_topl _ (lN (fz kd a bn jv)) (by rw [fz_l (k := jv) (by omega)]; unfold fLf; rw [if_neg (by omega)]) ?_
                refine lv_goto (tgt := 147) hx hb dX4_family_142 (by decide) ?_
                refine n_lastM hx hb hK hP hD hS 4 1 rfl rfl (i := jv) (v := (fz kd a bn jv)) (by omega) (by decide) dX4_family_147 (fun H locs hP hD hS => ?_)
                have hP : va_P g vwCl [(rm, .inr (4, [.int (nI 1), .ref a1, .ref a2, .ref a3, .ref a4, .ref a5, .ref a6, .ref a7, .ref a8, .ref a9, .int (nI tp), .int (nI mn), .ref b1, .int (nI bl), .ref b2, .ref b3, .int (nI jn), .int (nI sn), .ref b4, .ref b5, .ref b6, .ref b7, .ref b8, .int (nI wt), .int (nI wm), .int (nI wg), .long (lN wo), .int (nI wd), .ref b9])), (a1, .inl (cI, 25, .inl tz)), (a2, .inl (cI, 25, .inl tl)), (a3, .inl (cI, 25, .inl ty)), (b6, .inl (cJ, 25, .inr (.inl (fun j => lN ((upN fs jv (fz kd a bn jv)) j)))))] H := hP
                have hD : va_D A [(rm, .inr (4, [.int (nI 1), .ref a1, .ref a2, .ref a3, .ref a4, .ref a5, .ref a6, .ref a7, .ref a8, .ref a9, .int (nI tp), .int (nI mn), .ref b1, .int (nI bl), .ref b2, .ref b3, .int (nI jn), .int (nI sn), .ref b4, .ref b5, .ref b6, .ref b7, .ref b8, .int (nI wt), .int (nI wm), .int (nI wg), .long (lN wo), .int (nI wd), .ref b9])), (a1, .inl (cI, 25, .inl tz)), (a2, .inl (cI, 25, .inl tl)), (a3, .inl (cI, 25, .inl ty)), (b6, .inl (cJ, 25, .inr (.inl (fun j => lN ((upN fs jv (fz kd a bn jv)) j)))))] := hD
                refine lv_aload_n hx hb dX4_family_148 rfl (lv_at hl 1 rfl) ?_
                refine va_get (D := g) (ci := 4) (v := .ref b6) (C := RX4) (T := TX4) (N := 29) hx hb hts hinX4 hown hK hP 0 rfl rfl 20 (by decide) (hts (.fieldLink RX4 54 "BuddyRoofModel" "size" "[J") (by decide +kernel)) (fun _ h9 => h9) rfl dX4_family_149 ?_
                refine lv_iload hx hb dX4_family_152 (lv_at hl 6 rfl) ?_
                refine n_lald (v := lN (fz kd a bn jv)) hx hb hK hP 4 1 rfl rfl (i := jv) (by omega) (by decide) (by rw [upN_s]) dX4_family_154 ?_
                refine lv_ldc2 hx hb (v := 4194304) hown (hts (.constantLong RX4 80 4194304) (by decide +kernel)) dX4_family_155 ?_
                refine n_topl _ (lN 4194304) (by decide) ?_
                refine W.lcmp hx hb dX4_family_158 ?_
                refine n_lc_le (tgt := 163) hx hb dX4_family_159 (by decide) (by have := fz_b hkd ha.2 (fun q => (hbn q).2.2) hj.1 (fun i q1 q2 => (hT i q1 q2).2); omega) (by decide) (fun c48 => ?_) (fun c48 => ?_)
                · skip
                  refine lv_iinc (v := nI (jv + 1)) (lv' := [(5, .int (nI (jv + 1))), (6, .int (nI 0)), (0, .ref rm), (1, .int (nI kd)), (2, .int (nI n)), (3, .int (nI a)), (4, .int b)]) hx hb dX4_family_163 hl (k := 6) rfl (n_inc _ 1) (by decide) rfl (fun ls hl => ?_)
                  refine lv_goto (tgt := 67) hx hb dX4_family_166 (by decide) ?_
                  exact ih (jv + 1) (upN fs jv (fz kd a bn jv)) (by omega) (by omega) (fun i q1 q2 => by
      by_cases e9 : i = jv
      · subst e9; exact ⟨upN_s _ _ _, c48⟩
      · rw [upN_n _ _ e9]; exact hT i q1 (by omega)) _ _ hP hD hS ls (lv_sub hl [2, 3, 4, 5, 6, 0] rfl)
                · skip
                  exact kk1 (upN fs jv (fz kd a bn jv)) (fOK_f hj.1 (by omega) c48) _ _ hP hD hS ls (lv_sub hl [1] rfl)
            · skip
              refine lv_iload hx hb dX4_family_125 (lv_at hl 5 rfl) ?_
              refine lv_i2l hx hb dX4_family_127 rfl ?_
              refine n_topl _ (lN (fz kd a bn jv)) (by rw [(hbn (by omega)).1, fz_l (k := jv) (by omega)]; unfold fLf; rw [if_pos (by omega), if_neg (by omega)]; exact nI_l (by have := (hbn (by omega)).2.2; omega)) ?_
              refine lv_goto (tgt := 147) hx hb dX4_family_128 (by decide) ?_
              refine n_lastM hx hb hK hP hD hS 4 1 rfl rfl (i := jv) (v := (fz kd a bn jv)) (by omega) (by decide) dX4_family_147 (fun H locs hP hD hS => ?_)
              have hP : va_P g vwCl [(rm, .inr (4, [.int (nI 1), .ref a1, .ref a2, .ref a3, .ref a4, .ref a5, .ref a6, .ref a7, .ref a8, .ref a9, .int (nI tp), .int (nI mn), .ref b1, .int (nI bl), .ref b2, .ref b3, .int (nI jn), .int (nI sn), .ref b4, .ref b5, .ref b6, .ref b7, .ref b8, .int (nI wt), .int (nI wm), .int (nI wg), .long (lN wo), .int (nI wd), .ref b9])), (a1, .inl (cI, 25, .inl tz)), (a2, .inl (cI, 25, .inl tl)), (a3, .inl (cI, 25, .inl ty)), (b6, .inl (cJ, 25, .inr (.inl (fun j => lN ((upN fs jv (fz kd a bn jv)) j)))))] H := hP
              have hD : va_D A [(rm, .inr (4, [.int (nI 1), .ref a1, .ref a2, .ref a3, .ref a4, .ref a5, .ref a6, .ref a7, .ref a8, .ref a9, .int (nI tp), .int (nI mn), .ref b1, .int (nI bl), .ref b2, .ref b3, .int (nI jn), .int (nI sn), .ref b4, .ref b5, .ref b6, .ref b7, .ref b8, .int (nI wt), .int (nI wm), .int (nI wg), .long (lN wo), .int (nI wd), .ref b9])), (a1, .inl (cI, 25, .inl tz)), (a2, .inl (cI, 25, .inl tl)), (a3, .inl (cI, 25, .inl ty)), (b6, .inl (cJ, 25, .inr (.inl (fun j => lN ((upN fs jv (fz kd a bn jv)) j)))))] := hD
              refine lv_aload_n hx hb dX4_family_148 rfl (lv_at hl 1 rfl) ?_
              refine va_get (D := g) (ci := 4) (v := .ref b6) (C := RX4) (T := TX4) (N := 29) hx hb hts hinX4 hown hK hP 0 rfl rfl 20 (by decide) (hts (.fieldLink RX4 54 "BuddyRoofModel" "size" "[J") (by decide +kernel)) (fun _ h9 => h9) rfl dX4_family_149 ?_
              refine lv_iload hx hb dX4_family_152 (lv_at hl 6 rfl) ?_
              refine n_lald (v := lN (fz kd a bn jv)) hx hb hK hP 4 1 rfl rfl (i := jv) (by omega) (by decide) (by rw [upN_s]) dX4_family_154 ?_
              refine lv_ldc2 hx hb (v := 4194304) hown (hts (.constantLong RX4 80 4194304) (by decide +kernel)) dX4_family_155 ?_
              refine n_topl _ (lN 4194304) (by decide) ?_
              refine W.lcmp hx hb dX4_family_158 ?_
              refine n_lc_le (tgt := 163) hx hb dX4_family_159 (by decide) (by have := fz_b hkd ha.2 (fun q => (hbn q).2.2) hj.1 (fun i q1 q2 => (hT i q1 q2).2); omega) (by decide) (fun c49 => ?_) (fun c49 => ?_)
              · skip
                refine lv_iinc (v := nI (jv + 1)) (lv' := [(5, .int (nI (jv + 1))), (6, .int (nI 0)), (0, .ref rm), (1, .int (nI kd)), (2, .int (nI n)), (3, .int (nI a)), (4, .int b)]) hx hb dX4_family_163 hl (k := 6) rfl (n_inc _ 1) (by decide) rfl (fun ls hl => ?_)
                refine lv_goto (tgt := 67) hx hb dX4_family_166 (by decide) ?_
                exact ih (jv + 1) (upN fs jv (fz kd a bn jv)) (by omega) (by omega) (fun i q1 q2 => by
      by_cases e9 : i = jv
      · subst e9; exact ⟨upN_s _ _ _, c49⟩
      · rw [upN_n _ _ e9]; exact hT i q1 (by omega)) _ _ hP hD hS ls (lv_sub hl [2, 3, 4, 5, 6, 0] rfl)
              · skip
                exact kk1 (upN fs jv (fz kd a bn jv)) (fOK_f hj.1 (by omega) c49) _ _ hP hD hS ls (lv_sub hl [1] rfl)
        · exact (by exact absurd c40 (by decide))

set_option maxHeartbeats 4000000 in
set_option maxRecDepth 100000 in
theorem c_X4_family_e2 (l : Launch) (g : va_G) (cI cJ cZ : ClassId) (rm a1 a2 a3 a4 a5 a6 a7 a8 a9 b1 b2 b3 b4 b5 b6 b7 b8 b9 : Nat) (cd tp mn bl jn sn wt wm wg wo wd : Nat) (tz tl ty : Nat → Int32) (fs0 : Nat → Nat) (kd n a bn : Nat) (b : Int32) (hkd : kd ≤ 2) (hn : 1 ≤ n ∧ n ≤ 24) (ha : 4 ≤ a ∧ a ≤ 4194304) (hbn : kd = 1 → b = nI bn ∧ 4 ≤ bn ∧ bn ≤ 4194304) (hok : fOK kd a bn n = false) : kV l g (kty cI cJ cZ) yX4_family wsX4_family ({ frames := 1, cells := 0, slots := 0, locals := 25 }) [.ref rm, .int (nI kd), .int (nI n), .int (nI a), .int b] [(rm, .inr (4, [.int (nI cd), .ref a1, .ref a2, .ref a3, .ref a4, .ref a5, .ref a6, .ref a7, .ref a8, .ref a9, .int (nI tp), .int (nI mn), .ref b1, .int (nI bl), .ref b2, .ref b3, .int (nI jn), .int (nI sn), .ref b4, .ref b5, .ref b6, .ref b7, .ref b8, .int (nI wt), .int (nI wm), .int (nI wg), .long (lN wo), .int (nI wd), .ref b9])), (a1, .inl (cI, 25, .inl tz)), (a2, .inl (cI, 25, .inl tl)), (a3, .inl (cI, 25, .inl ty)), (b6, .inl (cJ, 25, .inr (.inl (fun j => lN (fs0 j)))))] (S := Nat → Nat) (fun _ => True) (fun u => [(rm, .inr (4, [.int (nI 1), .ref a1, .ref a2, .ref a3, .ref a4, .ref a5, .ref a6, .ref a7, .ref a8, .ref a9, .int (nI tp), .int (nI mn), .ref b1, .int (nI bl), .ref b2, .ref b3, .int (nI jn), .int (nI sn), .ref b4, .ref b5, .ref b6, .ref b7, .ref b8, .int (nI wt), .int (nI wm), .int (nI wg), .long (lN wo), .int (nI wd), .ref b9])), (a1, .inl (cI, 25, .inl tz)), (a2, .inl (cI, 25, .inl tl)), (a3, .inl (cI, 25, .inl ty)), (b6, .inl (cJ, 25, .inr (.inl (fun j => lN (u j)))))]) 0 0 := by
  intro sz
  refine Met.ofW (cc := cX4_family) (maxL := 7) (ret := none) (by decide) rfl ?_
  intro p e s m args below meth c s₁ B hml hv
  obtain ⟨rfl, hsz, hP, hk, hD0⟩ := hv
  subst hsz
  have hx := B.exec
  have hb := B.bytes
  have hr := B.returns
  have hts := atoms_spec (ws := wsX4_family) B.pre
  have hown : s.vm.findClass RX4 = some m.cls := findClass_of_methodNamed B.named
  have hlocks := B.notSynchronized
  have hK := hk.1
  have hinX4 : ∀ w ∈ wsX40, w ∈ wsX4_family := by decide +kernel
  obtain ⟨A, hAe⟩ : ∃ A, va_A [(rm, .inr (4, [.int (nI cd), .ref a1, .ref a2, .ref a3, .ref a4, .ref a5, .ref a6, .ref a7, .ref a8, .ref a9, .int (nI tp), .int (nI mn), .ref b1, .int (nI bl), .ref b2, .ref b3, .int (nI jn), .int (nI sn), .ref b4, .ref b5, .ref b6, .ref b7, .ref b8, .int (nI wt), .int (nI wm), .int (nI wg), .long (lN wo), .int (nI wd), .ref b9])), (a1, .inl (cI, 25, .inl tz)), (a2, .inl (cI, 25, .inl tl)), (a3, .inl (cI, 25, .inl ty)), (b6, .inl (cJ, 25, .inr (.inl (fun j => lN (fs0 j)))))] s.heap.size = A := ⟨_, rfl⟩
  have hD := hD0.self (sz := s.heap.size)
  rw [hAe] at hD
  have hA : ∀ q : Nat, s.heap.size ≤ q → A q := fun q h => by rw [← hAe]; exact Or.inr h
  have hS : va_S A s.heap s.heap [] := va_S.rf
  have hl := lv_entry ([.ref rm, .int (nI kd), .int (nI n), .int (nI a), .int b]) (n := 7) (Nat.le_of_ble_eq_true rfl)
  rw [lg_entry_eq]
  generalize (lg_sl ([.ref rm, .int (nI kd), .int (nI n), .int (nI a), .int b]) ++ List.replicate (7 - (lg_sl ([.ref rm, .int (nI kd), .int (nI n), .int (nI a), .int b])).length) Slot.unset).toArray = ls at hl ⊢
  have hl : lv_has ls 7 [(0, .ref rm), (1, .int (nI kd)), (2, .int (nI n)), (3, .int (nI a)), (4, .int b)] := hl
  refine lv_aload_n hx hb dX4_family_0 rfl (lv_at hl 0 rfl) ?_
  refine lv_iconst (v := nI 1) hx hb dX4_family_1 (by decide) ?_
  refine va_put (D := g) (ci := 4) (v := .int (nI 1)) (ty := .int) (C := RX4) (T := TX4) (N := 29) hx hb hts hinX4 tyX4 tyX4_ok nmX4 hown hK hP hD hS 0 rfl rfl 0 (by decide) (hts (.fieldLink RX4 66 "BuddyRoofModel" "code" "I") (by decide +kernel)) (fun _ h9 => h9) rfl (by decide +kernel) rfl rfl (Nat.le_of_ble_eq_true rfl) dX4_family_2 (fun H locs hP hD hS => ?_)
  have hP : va_P g vwCl [(rm, .inr (4, [.int (nI 1), .ref a1, .ref a2, .ref a3, .ref a4, .ref a5, .ref a6, .ref a7, .ref a8, .ref a9, .int (nI tp), .int (nI mn), .ref b1, .int (nI bl), .ref b2, .ref b3, .int (nI jn), .int (nI sn), .ref b4, .ref b5, .ref b6, .ref b7, .ref b8, .int (nI wt), .int (nI wm), .int (nI wg), .long (lN wo), .int (nI wd), .ref b9])), (a1, .inl (cI, 25, .inl tz)), (a2, .inl (cI, 25, .inl tl)), (a3, .inl (cI, 25, .inl ty)), (b6, .inl (cJ, 25, .inr (.inl (fun j => lN (fs0 j)))))] H := hP
  have hD : va_D A [(rm, .inr (4, [.int (nI 1), .ref a1, .ref a2, .ref a3, .ref a4, .ref a5, .ref a6, .ref a7, .ref a8, .ref a9, .int (nI tp), .int (nI mn), .ref b1, .int (nI bl), .ref b2, .ref b3, .int (nI jn), .int (nI sn), .ref b4, .ref b5, .ref b6, .ref b7, .ref b8, .int (nI wt), .int (nI wm), .int (nI wg), .long (lN wo), .int (nI wd), .ref b9])), (a1, .inl (cI, 25, .inl tz)), (a2, .inl (cI, 25, .inl tl)), (a3, .inl (cI, 25, .inl ty)), (b6, .inl (cJ, 25, .inr (.inl (fun j => lN (fs0 j)))))] := hD
  refine lv_iload_n hx hb dX4_family_5 rfl (lv_at hl 1 rfl) ?_
  refine lv_i2l hx hb dX4_family_6 (nI_l (by first | assumption | omega)) ?_
  refine lv_lconst (v := lN 0) hx hb dX4_family_7 (by decide) ?_
  refine lv_ldc2 hx hb (v := 2) hown (hts (.constantLong RX4 76 2) (by decide +kernel)) dX4_family_8 ?_
  refine n_topl _ (lN 2) (by decide) ?_
  refine k_goR (W.runS (As := [.long (lN kd), .long (lN 0), .long (lN 2)]) (rest := []) ⟨hx, hb, hml, hown, hts⟩ (c_X4_in l g cI cJ cZ  (lN kd) (lN 0) (lN 2) ) (va_cwS 3 hts gX4_family_X4_in rfl rfl rfl (by decide +kernel) ⟨Nat.le_of_ble_eq_true rfl, Nat.le_of_ble_eq_true rfl⟩) (k_preRS hk hP [] rfl) rfl rfl hl.1 rfl (lv_room (Nat.le_of_ble_eq_true rfl)) dX4_family_11 ⟨by first | exact Nat.zero_le _ | omega, by first | exact Nat.zero_le _ | omega⟩) ?_
  refine n_top _ (bI (0 ≤ kd ∧ kd ≤ 2)) (bI_c (in_n (by omega) (by decide) (by decide))) ?_
  refine k_ifeq (tgt := 63) hx hb dX4_family_14 (by decide) (fun c1 => ?_) (fun c1 => ?_)
  · exact (by exact absurd ⟨Nat.zero_le _, hkd⟩ c1)
  · skip
    refine lv_iload_n hx hb dX4_family_17 rfl (lv_at hl 2 rfl) ?_
    refine lv_i2l hx hb dX4_family_18 (nI_l (by first | assumption | omega)) ?_
    refine lv_lconst (v := lN 1) hx hb dX4_family_19 (by decide) ?_
    refine lv_ldc2 hx hb (v := 24) hown (hts (.constantLong RX4 70 24) (by decide +kernel)) dX4_family_20 ?_
    refine n_topl _ (lN 24) (by decide) ?_
    refine k_goR (W.runS (As := [.long (lN n), .long (lN 1), .long (lN 24)]) (rest := []) ⟨hx, hb, hml, hown, hts⟩ (c_X4_in l g cI cJ cZ  (lN n) (lN 1) (lN 24) ) (va_cwS 3 hts gX4_family_X4_in rfl rfl rfl (by decide +kernel) ⟨Nat.le_of_ble_eq_true rfl, Nat.le_of_ble_eq_true rfl⟩) (k_preRS hk hP [] rfl) rfl rfl hl.1 rfl (lv_room (Nat.le_of_ble_eq_true rfl)) dX4_family_23 ⟨by first | exact Nat.zero_le _ | omega, by first | exact Nat.zero_le _ | omega⟩) ?_
    refine n_top _ (bI (1 ≤ n ∧ n ≤ 24)) (bI_c (in_n (by omega) (by decide) (by decide))) ?_
    refine k_ifeq (tgt := 63) hx hb dX4_family_26 (by decide) (fun c2 => ?_) (fun c2 => ?_)
    · exact (by exact absurd hn c2)
    · skip
      refine lv_iload_n hx hb dX4_family_29 rfl (lv_at hl 3 rfl) ?_
      refine lv_i2l hx hb dX4_family_30 (nI_l (by first | assumption | omega)) ?_
      refine lv_ldc2 hx hb (v := 4) hown (hts (.constantLong RX4 78 4) (by decide +kernel)) dX4_family_31 ?_
      refine n_topl _ (lN 4) (by decide) ?_
      refine lv_ldc2 hx hb (v := 4194304) hown (hts (.constantLong RX4 80 4194304) (by decide +kernel)) dX4_family_34 ?_
      refine n_topl _ (lN 4194304) (by decide) ?_
      refine k_goR (W.runS (As := [.long (lN a), .long (lN 4), .long (lN 4194304)]) (rest := []) ⟨hx, hb, hml, hown, hts⟩ (c_X4_in l g cI cJ cZ  (lN a) (lN 4) (lN 4194304) ) (va_cwS 3 hts gX4_family_X4_in rfl rfl rfl (by decide +kernel) ⟨Nat.le_of_ble_eq_true rfl, Nat.le_of_ble_eq_true rfl⟩) (k_preRS hk hP [] rfl) rfl rfl hl.1 rfl (lv_room (Nat.le_of_ble_eq_true rfl)) dX4_family_37 ⟨by first | exact Nat.zero_le _ | omega, by first | exact Nat.zero_le _ | omega⟩) ?_
      refine n_top _ (bI (4 ≤ a ∧ a ≤ 4194304)) (bI_c (in_n (by omega) (by decide) (by decide))) ?_
      refine k_ifeq (tgt := 63) hx hb dX4_family_40 (by decide) (fun c3 => ?_) (fun c3 => ?_)
      · exact (by exact absurd ha c3)
      · skip
        refine lv_iload_n hx hb dX4_family_43 rfl (lv_at hl 1 rfl) ?_
        refine lv_iconst (v := nI 1) hx hb dX4_family_44 (by decide) ?_
        refine n_icmp_ne (tgt := 64) hx hb dX4_family_45 (by decide) (by first | assumption | omega) (by first | assumption | omega) (fun c4 => ?_) (fun c4 => ?_)
        · skip
          refine lv_iconst (v := nI 1) hx hb dX4_family_64 (by decide) ?_
          refine lv_istore (lv' := [(5, .int (nI 1)), (0, .ref rm), (1, .int (nI kd)), (2, .int (nI n)), (3, .int (nI a)), (4, .int b)]) hx hb dX4_family_65 hl (by decide) rfl (fun ls hl => ?_)
          refine lp_X4_family_e2_67 l g cI cJ cZ rm a1 a2 a3 a4 a5 a6 a7 a8 a9 b1 b2 b3 b4 b5 b6 b7 b8 b9 cd tp mn bl jn sn wt wm wg wo wd tz tl ty fs0 kd n a bn b hkd hn ha hbn hok  ⟨hx, hb, hr, hml, hown, hts, hlocks⟩ hk hA (fun fs hT H locs hP hD hS ls hl => ?_) (fun fs hF H locs hP hD hS ls hl => ?_) _ 1 fs0 (Nat.lt_succ_self _) (by omega) (fun i q1 q2 => by omega) _ _ hP hD hS ls (lv_sub hl [1, 2, 3, 4, 5, 0] rfl)
          · skip
            rw [fOK_t.mpr (fun i q1 q2 => (hT i q1 q2).2)] at hok
            exact absurd hok (by decide)
          · skip
            have hP := hP.sub (ws' := [(rm, .inr (4, [.int (nI 1), .ref a1, .ref a2, .ref a3, .ref a4, .ref a5, .ref a6, .ref a7, .ref a8, .ref a9, .int (nI tp), .int (nI mn), .ref b1, .int (nI bl), .ref b2, .ref b3, .int (nI jn), .int (nI sn), .ref b4, .ref b5, .ref b6, .ref b7, .ref b8, .int (nI wt), .int (nI wm), .int (nI wg), .long (lN wo), .int (nI wd), .ref b9])), (a1, .inl (cI, 25, .inl tz)), (a2, .inl (cI, 25, .inl tl)), (a3, .inl (cI, 25, .inl ty)), (b6, .inl (cJ, 25, .inr (.inl (fun j => lN (fs j)))))]) [0, 1, 2, 3, 4] rfl
            have hD := hD.sub (ws' := [(rm, .inr (4, [.int (nI 1), .ref a1, .ref a2, .ref a3, .ref a4, .ref a5, .ref a6, .ref a7, .ref a8, .ref a9, .int (nI tp), .int (nI mn), .ref b1, .int (nI bl), .ref b2, .ref b3, .int (nI jn), .int (nI sn), .ref b4, .ref b5, .ref b6, .ref b7, .ref b8, .int (nI wt), .int (nI wm), .int (nI wg), .long (lN wo), .int (nI wd), .ref b9])), (a1, .inl (cI, 25, .inl tz)), (a2, .inl (cI, 25, .inl tl)), (a3, .inl (cI, 25, .inl ty)), (b6, .inl (cJ, 25, .inr (.inl (fun j => lN (fs j)))))]) [0, 1, 2, 3, 4] rfl rfl
            refine W.widen (k := 0) (n := 0) (by first | exact Nat.le_refl _ | omega) (by first | exact Nat.le_refl _ | omega) ?_
            exact k_retV (sz := 0) hx hb hr hlocks hAe hS hP hD fs (rfl) (trivial) dX4_family_162
        · skip
          refine lv_iload hx hb dX4_family_48 (lv_at hl 4 rfl) ?_
          refine lv_i2l hx hb dX4_family_50 rfl ?_
          refine lv_ldc2 hx hb (v := 4) hown (hts (.constantLong RX4 78 4) (by decide +kernel)) dX4_family_51 ?_
          refine n_topl _ (lN 4) (by decide) ?_
          refine lv_ldc2 hx hb (v := 4194304) hown (hts (.constantLong RX4 80 4194304) (by decide +kernel)) dX4_family_54 ?_
          refine n_topl _ (lN 4194304) (by decide) ?_
          refine k_goR (W.runS (As := [.long ((b).toInt64), .long (lN 4), .long (lN 4194304)]) (rest := []) ⟨hx, hb, hml, hown, hts⟩ (c_X4_in l g cI cJ cZ  (b).toInt64 (lN 4) (lN 4194304) ) (va_cwS 3 hts gX4_family_X4_in rfl rfl rfl (by decide +kernel) ⟨Nat.le_of_ble_eq_true rfl, Nat.le_of_ble_eq_true rfl⟩) (k_preRS hk hP [] rfl) rfl rfl hl.1 rfl (lv_room (Nat.le_of_ble_eq_true rfl)) dX4_family_57 ⟨by first | exact Nat.zero_le _ | omega, by first | exact Nat.zero_le _ | omega⟩) ?_
          refine n_top _ (bI (nI 4 ≤ b ∧ b ≤ nI 4194304)) (bI_c (in_i (by decide) (by decide))) ?_
          refine k_ifne (tgt := 64) hx hb dX4_family_60 (by decide) (fun c5 => ?_) (fun c5 => ?_)
          · skip
            refine lv_iconst (v := nI 1) hx hb dX4_family_64 (by decide) ?_
            refine lv_istore (lv' := [(5, .int (nI 1)), (0, .ref rm), (1, .int (nI kd)), (2, .int (nI n)), (3, .int (nI a)), (4, .int b)]) hx hb dX4_family_65 hl (by decide) rfl (fun ls hl => ?_)
            refine lp_X4_family_e2_67 l g cI cJ cZ rm a1 a2 a3 a4 a5 a6 a7 a8 a9 b1 b2 b3 b4 b5 b6 b7 b8 b9 cd tp mn bl jn sn wt wm wg wo wd tz tl ty fs0 kd n a bn b hkd hn ha hbn hok  ⟨hx, hb, hr, hml, hown, hts, hlocks⟩ hk hA (fun fs hT H locs hP hD hS ls hl => ?_) (fun fs hF H locs hP hD hS ls hl => ?_) _ 1 fs0 (Nat.lt_succ_self _) (by omega) (fun i q1 q2 => by omega) _ _ hP hD hS ls (lv_sub hl [1, 2, 3, 4, 5, 0] rfl)
            · skip
              rw [fOK_t.mpr (fun i q1 q2 => (hT i q1 q2).2)] at hok
              exact absurd hok (by decide)
            · skip
              have hP := hP.sub (ws' := [(rm, .inr (4, [.int (nI 1), .ref a1, .ref a2, .ref a3, .ref a4, .ref a5, .ref a6, .ref a7, .ref a8, .ref a9, .int (nI tp), .int (nI mn), .ref b1, .int (nI bl), .ref b2, .ref b3, .int (nI jn), .int (nI sn), .ref b4, .ref b5, .ref b6, .ref b7, .ref b8, .int (nI wt), .int (nI wm), .int (nI wg), .long (lN wo), .int (nI wd), .ref b9])), (a1, .inl (cI, 25, .inl tz)), (a2, .inl (cI, 25, .inl tl)), (a3, .inl (cI, 25, .inl ty)), (b6, .inl (cJ, 25, .inr (.inl (fun j => lN (fs j)))))]) [0, 1, 2, 3, 4] rfl
              have hD := hD.sub (ws' := [(rm, .inr (4, [.int (nI 1), .ref a1, .ref a2, .ref a3, .ref a4, .ref a5, .ref a6, .ref a7, .ref a8, .ref a9, .int (nI tp), .int (nI mn), .ref b1, .int (nI bl), .ref b2, .ref b3, .int (nI jn), .int (nI sn), .ref b4, .ref b5, .ref b6, .ref b7, .ref b8, .int (nI wt), .int (nI wm), .int (nI wg), .long (lN wo), .int (nI wd), .ref b9])), (a1, .inl (cI, 25, .inl tz)), (a2, .inl (cI, 25, .inl tl)), (a3, .inl (cI, 25, .inl ty)), (b6, .inl (cJ, 25, .inr (.inl (fun j => lN (fs j)))))]) [0, 1, 2, 3, 4] rfl rfl
              refine W.widen (k := 0) (n := 0) (by first | exact Nat.le_refl _ | omega) (by first | exact Nat.le_refl _ | omega) ?_
              exact k_retV (sz := 0) hx hb hr hlocks hAe hS hP hD fs (rfl) (trivial) dX4_family_162
          · exact (by refine absurd ?_ c5; rw [(hbn (by omega)).1]; exact ⟨nI_le (hbn (by omega)).2.1 (by have := (hbn (by omega)).2.2; omega), nI_le (hbn (by omega)).2.2 (by decide)⟩)
set_option maxHeartbeats 4000000 in
set_option maxRecDepth 100000 in
theorem c_X4_family_e1 (l : Launch) (g : va_G) (cI cJ cZ : ClassId) (rm a1 a2 a3 a4 a5 a6 a7 a8 a9 b1 b2 b3 b4 b5 b6 b7 b8 b9 : Nat) (cd tp mn bl jn sn wt wm wg wo wd : Nat) (kv nv av bv : Int32) (hv : ¬ ((¬ kv < 0 ∧ kv ≤ nI 2) ∧ (nI 1 ≤ nv ∧ nv ≤ nI 24) ∧ (nI 4 ≤ av ∧ av ≤ nI 4194304) ∧ (kv = nI 1 → nI 4 ≤ bv ∧ bv ≤ nI 4194304))) : kV l g (kty cI cJ cZ) yX4_family wsX4_family ({ frames := 1, cells := 0, slots := 0, locals := 25 }) [.ref rm, .int kv, .int nv, .int av, .int bv] [(rm, .inr (4, [.int (nI cd), .ref a1, .ref a2, .ref a3, .ref a4, .ref a5, .ref a6, .ref a7, .ref a8, .ref a9, .int (nI tp), .int (nI mn), .ref b1, .int (nI bl), .ref b2, .ref b3, .int (nI jn), .int (nI sn), .ref b4, .ref b5, .ref b6, .ref b7, .ref b8, .int (nI wt), .int (nI wm), .int (nI wg), .long (lN wo), .int (nI wd), .ref b9]))] (S := Unit) (fun _ => True) (fun u => [(rm, .inr (4, [.int (nI 1), .ref a1, .ref a2, .ref a3, .ref a4, .ref a5, .ref a6, .ref a7, .ref a8, .ref a9, .int (nI tp), .int (nI mn), .ref b1, .int (nI bl), .ref b2, .ref b3, .int (nI jn), .int (nI sn), .ref b4, .ref b5, .ref b6, .ref b7, .ref b8, .int (nI wt), .int (nI wm), .int (nI wg), .long (lN wo), .int (nI wd), .ref b9]))]) 0 0 := by
  intro sz
  refine Met.ofW (cc := cX4_family) (maxL := 7) (ret := none) (by decide) rfl ?_
  intro p e s m args below meth c s₁ B hml hv
  obtain ⟨rfl, hsz, hP, hk, hD0⟩ := hv
  subst hsz
  have hx := B.exec
  have hb := B.bytes
  have hr := B.returns
  have hts := atoms_spec (ws := wsX4_family) B.pre
  have hown : s.vm.findClass RX4 = some m.cls := findClass_of_methodNamed B.named
  have hlocks := B.notSynchronized
  have hK := hk.1
  have hinX4 : ∀ w ∈ wsX40, w ∈ wsX4_family := by decide +kernel
  obtain ⟨A, hAe⟩ : ∃ A, va_A [(rm, .inr (4, [.int (nI cd), .ref a1, .ref a2, .ref a3, .ref a4, .ref a5, .ref a6, .ref a7, .ref a8, .ref a9, .int (nI tp), .int (nI mn), .ref b1, .int (nI bl), .ref b2, .ref b3, .int (nI jn), .int (nI sn), .ref b4, .ref b5, .ref b6, .ref b7, .ref b8, .int (nI wt), .int (nI wm), .int (nI wg), .long (lN wo), .int (nI wd), .ref b9]))] s.heap.size = A := ⟨_, rfl⟩
  have hD := hD0.self (sz := s.heap.size)
  rw [hAe] at hD
  have hA : ∀ q : Nat, s.heap.size ≤ q → A q := fun q h => by rw [← hAe]; exact Or.inr h
  have hS : va_S A s.heap s.heap [] := va_S.rf
  have hl := lv_entry ([.ref rm, .int kv, .int nv, .int av, .int bv]) (n := 7) (Nat.le_of_ble_eq_true rfl)
  rw [lg_entry_eq]
  generalize (lg_sl ([.ref rm, .int kv, .int nv, .int av, .int bv]) ++ List.replicate (7 - (lg_sl ([.ref rm, .int kv, .int nv, .int av, .int bv])).length) Slot.unset).toArray = ls at hl ⊢
  have hl : lv_has ls 7 [(0, .ref rm), (1, .int kv), (2, .int nv), (3, .int av), (4, .int bv)] := hl
  refine lv_aload_n hx hb dX4_family_0 rfl (lv_at hl 0 rfl) ?_
  refine lv_iconst (v := nI 1) hx hb dX4_family_1 (by decide) ?_
  refine va_put (D := g) (ci := 4) (v := .int (nI 1)) (ty := .int) (C := RX4) (T := TX4) (N := 29) hx hb hts hinX4 tyX4 tyX4_ok nmX4 hown hK hP hD hS 0 rfl rfl 0 (by decide) (hts (.fieldLink RX4 66 "BuddyRoofModel" "code" "I") (by decide +kernel)) (fun _ h9 => h9) rfl (by decide +kernel) rfl rfl (Nat.le_of_ble_eq_true rfl) dX4_family_2 (fun H locs hP hD hS => ?_)
  have hP : va_P g vwCl [(rm, .inr (4, [.int (nI 1), .ref a1, .ref a2, .ref a3, .ref a4, .ref a5, .ref a6, .ref a7, .ref a8, .ref a9, .int (nI tp), .int (nI mn), .ref b1, .int (nI bl), .ref b2, .ref b3, .int (nI jn), .int (nI sn), .ref b4, .ref b5, .ref b6, .ref b7, .ref b8, .int (nI wt), .int (nI wm), .int (nI wg), .long (lN wo), .int (nI wd), .ref b9]))] H := hP
  have hD : va_D A [(rm, .inr (4, [.int (nI 1), .ref a1, .ref a2, .ref a3, .ref a4, .ref a5, .ref a6, .ref a7, .ref a8, .ref a9, .int (nI tp), .int (nI mn), .ref b1, .int (nI bl), .ref b2, .ref b3, .int (nI jn), .int (nI sn), .ref b4, .ref b5, .ref b6, .ref b7, .ref b8, .int (nI wt), .int (nI wm), .int (nI wg), .long (lN wo), .int (nI wd), .ref b9]))] := hD
  refine lv_iload_n hx hb dX4_family_5 rfl (lv_at hl 1 rfl) ?_
  refine lv_i2l hx hb dX4_family_6 rfl ?_
  refine lv_lconst (v := lN 0) hx hb dX4_family_7 (by decide) ?_
  refine lv_ldc2 hx hb (v := 2) hown (hts (.constantLong RX4 76 2) (by decide +kernel)) dX4_family_8 ?_
  refine n_topl _ (lN 2) (by decide) ?_
  refine k_goR (W.runS (As := [.long ((kv).toInt64), .long (lN 0), .long (lN 2)]) (rest := []) ⟨hx, hb, hml, hown, hts⟩ (c_X4_in l g cI cJ cZ  (kv).toInt64 (lN 0) (lN 2) ) (va_cwS 3 hts gX4_family_X4_in rfl rfl rfl (by decide +kernel) ⟨Nat.le_of_ble_eq_true rfl, Nat.le_of_ble_eq_true rfl⟩) (k_preRS hk hP [] rfl) rfl rfl hl.1 rfl (lv_room (Nat.le_of_ble_eq_true rfl)) dX4_family_11 ⟨by first | exact Nat.zero_le _ | omega, by first | exact Nat.zero_le _ | omega⟩) ?_
  refine n_top _ (bI (nI 0 ≤ kv ∧ kv ≤ nI 2)) (bI_c (in_i (by decide) (by decide))) ?_
  refine k_ifeq (tgt := 63) hx hb dX4_family_14 (by decide) (fun c1 => ?_) (fun c1 => ?_)
  · skip
    refine W.widen (k := 0) (n := 0) (by first | exact Nat.le_refl _ | omega) (by first | exact Nat.le_refl _ | omega) ?_
    exact k_retV (sz := 0) hx hb hr hlocks hAe hS hP hD () (rfl) (trivial) dX4_family_63
  · skip
    refine lv_iload_n hx hb dX4_family_17 rfl (lv_at hl 2 rfl) ?_
    refine lv_i2l hx hb dX4_family_18 rfl ?_
    refine lv_lconst (v := lN 1) hx hb dX4_family_19 (by decide) ?_
    refine lv_ldc2 hx hb (v := 24) hown (hts (.constantLong RX4 70 24) (by decide +kernel)) dX4_family_20 ?_
    refine n_topl _ (lN 24) (by decide) ?_
    refine k_goR (W.runS (As := [.long ((nv).toInt64), .long (lN 1), .long (lN 24)]) (rest := []) ⟨hx, hb, hml, hown, hts⟩ (c_X4_in l g cI cJ cZ  (nv).toInt64 (lN 1) (lN 24) ) (va_cwS 3 hts gX4_family_X4_in rfl rfl rfl (by decide +kernel) ⟨Nat.le_of_ble_eq_true rfl, Nat.le_of_ble_eq_true rfl⟩) (k_preRS hk hP [] rfl) rfl rfl hl.1 rfl (lv_room (Nat.le_of_ble_eq_true rfl)) dX4_family_23 ⟨by first | exact Nat.zero_le _ | omega, by first | exact Nat.zero_le _ | omega⟩) ?_
    refine n_top _ (bI (nI 1 ≤ nv ∧ nv ≤ nI 24)) (bI_c (in_i (by decide) (by decide))) ?_
    refine k_ifeq (tgt := 63) hx hb dX4_family_26 (by decide) (fun c2 => ?_) (fun c2 => ?_)
    · skip
      refine W.widen (k := 0) (n := 0) (by first | exact Nat.le_refl _ | omega) (by first | exact Nat.le_refl _ | omega) ?_
      exact k_retV (sz := 0) hx hb hr hlocks hAe hS hP hD () (rfl) (trivial) dX4_family_63
    · skip
      refine lv_iload_n hx hb dX4_family_29 rfl (lv_at hl 3 rfl) ?_
      refine lv_i2l hx hb dX4_family_30 rfl ?_
      refine lv_ldc2 hx hb (v := 4) hown (hts (.constantLong RX4 78 4) (by decide +kernel)) dX4_family_31 ?_
      refine n_topl _ (lN 4) (by decide) ?_
      refine lv_ldc2 hx hb (v := 4194304) hown (hts (.constantLong RX4 80 4194304) (by decide +kernel)) dX4_family_34 ?_
      refine n_topl _ (lN 4194304) (by decide) ?_
      refine k_goR (W.runS (As := [.long ((av).toInt64), .long (lN 4), .long (lN 4194304)]) (rest := []) ⟨hx, hb, hml, hown, hts⟩ (c_X4_in l g cI cJ cZ  (av).toInt64 (lN 4) (lN 4194304) ) (va_cwS 3 hts gX4_family_X4_in rfl rfl rfl (by decide +kernel) ⟨Nat.le_of_ble_eq_true rfl, Nat.le_of_ble_eq_true rfl⟩) (k_preRS hk hP [] rfl) rfl rfl hl.1 rfl (lv_room (Nat.le_of_ble_eq_true rfl)) dX4_family_37 ⟨by first | exact Nat.zero_le _ | omega, by first | exact Nat.zero_le _ | omega⟩) ?_
      refine n_top _ (bI (nI 4 ≤ av ∧ av ≤ nI 4194304)) (bI_c (in_i (by decide) (by decide))) ?_
      refine k_ifeq (tgt := 63) hx hb dX4_family_40 (by decide) (fun c3 => ?_) (fun c3 => ?_)
      · skip
        refine W.widen (k := 0) (n := 0) (by first | exact Nat.le_refl _ | omega) (by first | exact Nat.le_refl _ | omega) ?_
        exact k_retV (sz := 0) hx hb hr hlocks hAe hS hP hD () (rfl) (trivial) dX4_family_63
      · skip
        refine lv_iload_n hx hb dX4_family_43 rfl (lv_at hl 1 rfl) ?_
        refine lv_iconst (v := nI 1) hx hb dX4_family_44 (by decide) ?_
        refine lv_icmp_ne (tgt := 64) hx hb dX4_family_45 (by decide) (fun c4 => ?_) (fun c4 => ?_)
        · exact (by exact absurd ⟨⟨(fun q9 => absurd (Int32.lt_of_lt_of_le q9 (show (0 : Int32) ≤ nI 0 by decide)) (Int32.not_lt.mpr c1.1)), c1.2⟩, c2, c3, fun e9 => absurd e9 c4⟩ hv)
        · skip
          refine lv_iload hx hb dX4_family_48 (lv_at hl 4 rfl) ?_
          refine lv_i2l hx hb dX4_family_50 rfl ?_
          refine lv_ldc2 hx hb (v := 4) hown (hts (.constantLong RX4 78 4) (by decide +kernel)) dX4_family_51 ?_
          refine n_topl _ (lN 4) (by decide) ?_
          refine lv_ldc2 hx hb (v := 4194304) hown (hts (.constantLong RX4 80 4194304) (by decide +kernel)) dX4_family_54 ?_
          refine n_topl _ (lN 4194304) (by decide) ?_
          refine k_goR (W.runS (As := [.long ((bv).toInt64), .long (lN 4), .long (lN 4194304)]) (rest := []) ⟨hx, hb, hml, hown, hts⟩ (c_X4_in l g cI cJ cZ  (bv).toInt64 (lN 4) (lN 4194304) ) (va_cwS 3 hts gX4_family_X4_in rfl rfl rfl (by decide +kernel) ⟨Nat.le_of_ble_eq_true rfl, Nat.le_of_ble_eq_true rfl⟩) (k_preRS hk hP [] rfl) rfl rfl hl.1 rfl (lv_room (Nat.le_of_ble_eq_true rfl)) dX4_family_57 ⟨by first | exact Nat.zero_le _ | omega, by first | exact Nat.zero_le _ | omega⟩) ?_
          refine n_top _ (bI (nI 4 ≤ bv ∧ bv ≤ nI 4194304)) (bI_c (in_i (by decide) (by decide))) ?_
          refine k_ifne (tgt := 64) hx hb dX4_family_60 (by decide) (fun c5 => ?_) (fun c5 => ?_)
          · exact (by exact absurd ⟨⟨(fun q9 => absurd (Int32.lt_of_lt_of_le q9 (show (0 : Int32) ≤ nI 0 by decide)) (Int32.not_lt.mpr c1.1)), c1.2⟩, c2, c3, fun _ => c5⟩ hv)
          · skip
            refine W.widen (k := 0) (n := 0) (by first | exact Nat.le_refl _ | omega) (by first | exact Nat.le_refl _ | omega) ?_
            exact k_retV (sz := 0) hx hb hr hlocks hAe hS hP hD () (rfl) (trivial) dX4_family_63
