set_option maxHeartbeats 4000000 in
set_option maxRecDepth 100000 in
theorem c_X4_giveWords_n (l : Launch) (g : va_G) (cI cJ cZ : ClassId) (rm a1 a2 a3 a4 a5 a6 a7 a8 a9 b1 b2 b3 b4 b5 b6 b7 b8 b9 : Nat) (cd tp bl jn sn wt wm wg wo wd : Nat) (sz lf rt : Nat → Int32) (S L R : Nat → Nat) (rc : Nat → Bool) (sp0 : Nat → Bool) (rq nd0 : Nat → Nat) (ba rv : Nat → Nat) (w : Nat) (hR : RuleOK S L R rc tp) (hT0 : TOK tp S L R sp0 rq) (hW0 : nW tp S L R rq nd0 (lvs sp0 1)) (hlen0 : (lvs sp0 1).length ≤ 14000) (hrl : rOK S L R rc sz lf rt) (hw1 : 1 ≤ w) (hw : w < 2 ^ 31) (hgb : (gB S (cls tp L R) rq w sp0) = 0) : kI l g (kty cI cJ cZ) yX4_giveWords wsX4_giveWords ({ frames := 3, cells := 0, slots := 0, locals := 70 }) [.ref rm, .int (nI w)] [(rm, .inr (4, [.int (nI cd), .ref a1, .ref a2, .ref a3, .ref a4, .ref a5, .ref a6, .ref a7, .ref a8, .ref a9, .int (nI tp), .int (nI ((lvs sp0 1).length)), .ref b1, .int (nI bl), .ref b2, .ref b3, .int (nI jn), .int (nI sn), .ref b4, .ref b5, .ref b6, .ref b7, .ref b8, .int (nI wt), .int (nI wm), .int (nI wg), .long (lN wo), .int (nI wd), .ref b9])), (b1, .inl (cJ, 14000, .inr (.inl (fun j => lN (nd0 j))))), (a4, .inl (cI, 25, .inl sz)), (a5, .inl (cI, 25, .inl lf)), (a6, .inl (cI, 25, .inl rt)), (b2, .inl (cI, 256, .inl (fun j => nI (ba j)))), (b3, .inl (cI, 256, .inl (fun j => nI (rv j))))] (S := Nat → Nat) (fun r u => r = -1 ∧ nW tp S L R rq u (lvs (gC S L R (cls tp L R) rq w sp0).1 1)) (fun u => [(rm, .inr (4, [.int (nI cd), .ref a1, .ref a2, .ref a3, .ref a4, .ref a5, .ref a6, .ref a7, .ref a8, .ref a9, .int (nI tp), .int (nI ((lvs (gC S L R (cls tp L R) rq w sp0).1 1).length)), .ref b1, .int (nI bl), .ref b2, .ref b3, .int (nI (jn + ((lvs sp0 1).length - (lvs (gS1 S (cls tp L R) rq w sp0) 1).length))), .int (nI sn), .ref b4, .ref b5, .ref b6, .ref b7, .ref b8, .int (nI wt), .int (nI wm), .int (nI wg), .long (lN wo), .int (nI wd), .ref b9])), (b1, .inl (cJ, 14000, .inr (.inl (fun j => lN (u j))))), (a4, .inl (cI, 25, .inl sz)), (a5, .inl (cI, 25, .inl lf)), (a6, .inl (cI, 25, .inl rt)), (b2, .inl (cI, 256, .inl (fun j => nI (ba j)))), (b3, .inl (cI, 256, .inl (fun j => nI (rv j))))]) 0 0 := by
  intro sz
  refine Met.ofW (cc := cX4_giveWords) (maxL := 12) (ret := (some .int)) (by decide) rfl ?_
  intro p e s m args below meth c s₁ B hml hv
  obtain ⟨rfl, hsz, hP, hk, hD0⟩ := hv
  subst hsz
  have hx := B.exec
  have hb := B.bytes
  have hr := B.returns
  have hts := atoms_spec (ws := wsX4_giveWords) B.pre
  have hown : s.vm.findClass RX4 = some m.cls := findClass_of_methodNamed B.named
  have hlocks := B.notSynchronized
  have hK := hk.1
  obtain ⟨A, hAe⟩ : ∃ A, va_A [(rm, .inr (4, [.int (nI cd), .ref a1, .ref a2, .ref a3, .ref a4, .ref a5, .ref a6, .ref a7, .ref a8, .ref a9, .int (nI tp), .int (nI ((lvs sp0 1).length)), .ref b1, .int (nI bl), .ref b2, .ref b3, .int (nI jn), .int (nI sn), .ref b4, .ref b5, .ref b6, .ref b7, .ref b8, .int (nI wt), .int (nI wm), .int (nI wg), .long (lN wo), .int (nI wd), .ref b9])), (b1, .inl (cJ, 14000, .inr (.inl (fun j => lN (nd0 j))))), (a4, .inl (cI, 25, .inl sz)), (a5, .inl (cI, 25, .inl lf)), (a6, .inl (cI, 25, .inl rt)), (b2, .inl (cI, 256, .inl (fun j => nI (ba j)))), (b3, .inl (cI, 256, .inl (fun j => nI (rv j))))] s.heap.size = A := ⟨_, rfl⟩
  have hD := hD0.self (sz := s.heap.size)
  rw [hAe] at hD
  have hA : ∀ q : Nat, s.heap.size ≤ q → A q := fun q h => by rw [← hAe]; exact Or.inr h
  have hS : va_S A s.heap s.heap [] := va_S.rf
  have hl := lv_entry ([.ref rm, .int (nI w)]) (n := 12) (Nat.le_of_ble_eq_true rfl)
  rw [lg_entry_eq]
  generalize (lg_sl ([.ref rm, .int (nI w)]) ++ List.replicate (12 - (lg_sl ([.ref rm, .int (nI w)])).length) Slot.unset).toArray = ls at hl ⊢
  have hl : lv_has ls 12 [(0, .ref rm), (1, .int (nI w))] := hl
  refine lv_aload_n hx hb dX4_giveWords_0 rfl (lv_at hl 0 rfl) ?_
  refine lv_iload_n hx hb dX4_giveWords_1 rfl (lv_at hl 1 rfl) ?_
  refine k_goR (W.runV (As := [.int (nI w)]) (rest := []) ⟨hx, hb, hml, hown, hts⟩ (c_X4_best l g cI cJ cZ rm a1 a2 a3 a4 a5 a6 a7 a8 a9 b1 b2 b3 b4 b5 b6 b7 b8 b9 cd tp bl jn sn wt wm wg wo wd sz lf rt S L R rc sp0 rq nd0 w hR hT0 hW0 hlen0 hrl hw) (cwV 1 hts gX4_giveWords_X4_best rfl rfl rfl (by decide +kernel) ⟨Nat.le_of_ble_eq_true rfl, Nat.le_of_ble_eq_true rfl⟩) (k_preRV hk hP [0, 1, 2, 3, 4] rfl (ci := 4) (q0 := 0) rfl rfl) rfl rfl hl.1 rfl (lv_room (Nat.le_of_ble_eq_true rfl)) dX4_giveWords_2 ⟨by first | exact Nat.zero_le _ | omega, by first | exact Nat.zero_le _ | omega⟩) ?_
  refine lv_istore_n (lv' := [(2, .int (if bst S (cls tp L R) rq w (lvs sp0 1) = 0 then -1 else nI (plc (lvs sp0 1) (bst S (cls tp L R) rq w (lvs sp0 1))))), (0, .ref rm), (1, .int (nI w))]) hx hb dX4_giveWords_5 rfl hl (by decide) rfl (fun ls hl => ?_)
  refine lv_iload_n hx hb dX4_giveWords_6 rfl (lv_at hl 0 rfl) ?_
  refine lv_if_ge (tgt := 21) hx hb dX4_giveWords_7 (by decide) (fun c1 => ?_) (fun c1 => ?_)
  · exact (by exact absurd (by rw [if_pos (Classical.byContradiction fun hbx : ¬ (bst S (cls tp L R) rq w (lvs sp0 1)) = 0 => absurd hgb (by rw [(gS1_a hbx).2]; exact hbx))] at c1; exact c1) (by decide : ¬ (0 : Int32) ≤ -1))
  · skip
    have hb0 : (bst S (cls tp L R) rq w (lvs sp0 1)) = 0 := Classical.byContradiction fun hbx => c1 (by
      rw [if_neg hbx]
      have hat := plc_mem (lvs_all hR hT0 (bst_leaf (w := w) hR hT0 hbx).1 (bst_leaf (w := w) hR hT0 hbx).2.1)
      have hal := at_lt hat
      exact nI_pos' (by omega))
    refine lv_aload_n hx hb dX4_giveWords_10 rfl (lv_at hl 1 rfl) ?_
    refine k_goI (wr := [(b2, .inl (cI, 256, .inl (fun j => nI (ba j)))), (b3, .inl (cI, 256, .inl (fun j => nI (rv j))))]) (va_runV (As := []) (rest := []) ⟨hx, hb, hml, hown, hts⟩ (c_X4_joinAll l g cI cJ cZ rm a1 a2 a3 a4 a5 a6 a7 a8 a9 b1 b2 b3 b4 b5 b6 b7 b8 b9 cd tp bl jn sn wt wm wg wo wd sz lf rt S L R rc sp0 rq nd0  hR hT0 hW0 hlen0 hrl _) (cwV 0 hts gX4_giveWords_X4_joinAll rfl rfl rfl (by decide +kernel) ⟨Nat.le_of_ble_eq_true rfl, Nat.le_of_ble_eq_true rfl⟩) (k_preV hk hP hD [0, 1, 2, 3, 4] rfl rfl (ci := 4) (q0 := 0) rfl rfl) rfl rfl hl.1 rfl (lv_room (Nat.le_of_ble_eq_true rfl)) dX4_giveWords_11 ⟨by first | exact Nat.zero_le _ | omega, by first | exact Nat.zero_le _ | omega⟩) hP hD hS hA [0, 1, 2, 3, 4] [5, 6] rfl rfl rfl (by decide) (fun rv nd1 H locs hu hP hD hS => ?_)
    obtain ⟨hrv, hW1, hle1⟩ := hu
    subst hrv
    have hT1 := jal_ok hR hT0
    have hgs := gS1_b (S := S) (L := L) (R := R) (rq := rq) (w := w) (sp := sp0) (top := tp) hb0
    have hP : va_P g vwCl [(b2, .inl (cI, 256, .inl (fun j => nI (ba j)))), (b3, .inl (cI, 256, .inl (fun j => nI (rv j)))), (rm, .inr (4, [.int (nI cd), .ref a1, .ref a2, .ref a3, .ref a4, .ref a5, .ref a6, .ref a7, .ref a8, .ref a9, .int (nI tp), .int (nI ((lvs (jal sp0 rq) 1).length)), .ref b1, .int (nI bl), .ref b2, .ref b3, .int (nI (jn + ((lvs sp0 1).length - (lvs (jal sp0 rq) 1).length))), .int (nI sn), .ref b4, .ref b5, .ref b6, .ref b7, .ref b8, .int (nI wt), .int (nI wm), .int (nI wg), .long (lN wo), .int (nI wd), .ref b9])), (b1, .inl (cJ, 14000, .inr (.inl (fun j => lN (nd1 j))))), (a4, .inl (cI, 25, .inl sz)), (a5, .inl (cI, 25, .inl lf)), (a6, .inl (cI, 25, .inl rt))] H := hP
    have hD : va_D A [(b2, .inl (cI, 256, .inl (fun j => nI (ba j)))), (b3, .inl (cI, 256, .inl (fun j => nI (rv j)))), (rm, .inr (4, [.int (nI cd), .ref a1, .ref a2, .ref a3, .ref a4, .ref a5, .ref a6, .ref a7, .ref a8, .ref a9, .int (nI tp), .int (nI ((lvs (jal sp0 rq) 1).length)), .ref b1, .int (nI bl), .ref b2, .ref b3, .int (nI (jn + ((lvs sp0 1).length - (lvs (jal sp0 rq) 1).length))), .int (nI sn), .ref b4, .ref b5, .ref b6, .ref b7, .ref b8, .int (nI wt), .int (nI wm), .int (nI wg), .long (lN wo), .int (nI wd), .ref b9])), (b1, .inl (cJ, 14000, .inr (.inl (fun j => lN (nd1 j))))), (a4, .inl (cI, 25, .inl sz)), (a5, .inl (cI, 25, .inl lf)), (a6, .inl (cI, 25, .inl rt))] := hD
    refine lv_pop hx hb dX4_giveWords_14 rfl ?_
    refine lv_aload_n hx hb dX4_giveWords_15 rfl (lv_at hl 1 rfl) ?_
    refine lv_iload_n hx hb dX4_giveWords_16 rfl (lv_at hl 2 rfl) ?_
    refine k_goR (W.runV (As := [.int (nI w)]) (rest := []) ⟨hx, hb, hml, hown, hts⟩ (c_X4_best l g cI cJ cZ rm a1 a2 a3 a4 a5 a6 a7 a8 a9 b1 b2 b3 b4 b5 b6 b7 b8 b9 cd tp bl (jn + ((lvs sp0 1).length - (lvs (jal sp0 rq) 1).length)) sn wt wm wg wo wd sz lf rt S L R rc (jal sp0 rq) rq nd1 w hR hT1 hW1 (by omega) hrl hw) (cwV 1 hts gX4_giveWords_X4_best rfl rfl rfl (by decide +kernel) ⟨Nat.le_of_ble_eq_true rfl, Nat.le_of_ble_eq_true rfl⟩) (k_preRV hk hP [2, 3, 4, 5, 6] rfl (ci := 4) (q0 := 0) rfl rfl) rfl rfl hl.1 rfl (lv_room (Nat.le_of_ble_eq_true rfl)) dX4_giveWords_17 ⟨by first | exact Nat.zero_le _ | omega, by first | exact Nat.zero_le _ | omega⟩) ?_
    refine lv_istore_n (lv' := [(2, .int (if bst S (cls tp L R) rq w (lvs (jal sp0 rq) 1) = 0 then -1 else nI (plc (lvs (jal sp0 rq) 1) (bst S (cls tp L R) rq w (lvs (jal sp0 rq) 1))))), (0, .ref rm), (1, .int (nI w))]) hx hb dX4_giveWords_20 rfl hl (by decide) rfl (fun ls hl => ?_)
    refine lv_iload_n hx hb dX4_giveWords_21 rfl (lv_at hl 0 rfl) ?_
    refine lv_if_ge (tgt := 27) hx hb dX4_giveWords_22 (by decide) (fun c2 => ?_) (fun c2 => ?_)
    · exact (by exact absurd (by rw [if_pos (by rw [← hgs.2]; exact hgb)] at c2; exact c2) (by decide : ¬ (0 : Int32) ≤ -1))
    · skip
      have hbx : (bst S (cls tp L R) rq w (lvs (jal sp0 rq) 1)) = 0 := Classical.byContradiction fun hbx => c2 (by
        rw [if_neg hbx]
        have hat := plc_mem (lvs_all hR hT1 (bst_leaf (w := w) hR hT1 hbx).1 (bst_leaf (w := w) hR hT1 hbx).2.1)
        have hal := at_lt hat
        exact nI_pos' (by omega))
      have hgc := (gC_n (S := S) (L := L) (R := R) (rq := rq) (w := w) (sp := sp0) (top := tp) hgb).1
      rw [hgs.1] at hgc
      refine lv_iconst (v := (-1)) hx hb dX4_giveWords_25 (by decide) ?_
      have hP := hP.sub (ws' := [(rm, .inr (4, [.int (nI cd), .ref a1, .ref a2, .ref a3, .ref a4, .ref a5, .ref a6, .ref a7, .ref a8, .ref a9, .int (nI tp), .int (nI ((lvs (jal sp0 rq) 1).length)), .ref b1, .int (nI bl), .ref b2, .ref b3, .int (nI (jn + ((lvs sp0 1).length - (lvs (jal sp0 rq) 1).length))), .int (nI sn), .ref b4, .ref b5, .ref b6, .ref b7, .ref b8, .int (nI wt), .int (nI wm), .int (nI wg), .long (lN wo), .int (nI wd), .ref b9])), (b1, .inl (cJ, 14000, .inr (.inl (fun j => lN (nd1 j))))), (a4, .inl (cI, 25, .inl sz)), (a5, .inl (cI, 25, .inl lf)), (a6, .inl (cI, 25, .inl rt)), (b2, .inl (cI, 256, .inl (fun j => nI (ba j)))), (b3, .inl (cI, 256, .inl (fun j => nI (rv j))))]) [2, 3, 4, 5, 6, 0, 1] rfl
      have hD := hD.sub (ws' := [(rm, .inr (4, [.int (nI cd), .ref a1, .ref a2, .ref a3, .ref a4, .ref a5, .ref a6, .ref a7, .ref a8, .ref a9, .int (nI tp), .int (nI ((lvs (jal sp0 rq) 1).length)), .ref b1, .int (nI bl), .ref b2, .ref b3, .int (nI (jn + ((lvs sp0 1).length - (lvs (jal sp0 rq) 1).length))), .int (nI sn), .ref b4, .ref b5, .ref b6, .ref b7, .ref b8, .int (nI wt), .int (nI wm), .int (nI wg), .long (lN wo), .int (nI wd), .ref b9])), (b1, .inl (cJ, 14000, .inr (.inl (fun j => lN (nd1 j))))), (a4, .inl (cI, 25, .inl sz)), (a5, .inl (cI, 25, .inl lf)), (a6, .inl (cI, 25, .inl rt)), (b2, .inl (cI, 256, .inl (fun j => nI (ba j)))), (b3, .inl (cI, 256, .inl (fun j => nI (rv j))))]) [2, 3, 4, 5, 6, 0, 1] rfl rfl
      refine W.widen (k := 0) (n := 0) (by first | exact Nat.le_refl _ | omega) (by first | exact Nat.le_refl _ | omega) ?_
      exact k_retI (sz := 0) (v := -1) hx hb hr hlocks hAe hS hP hD nd1 (by rw [hgc, hgs.1]) (⟨rfl, by rw [hgc]; exact hW1⟩) dX4_giveWords_26
set_option maxHeartbeats 4000000 in
set_option maxRecDepth 100000 in
theorem lp_X4_giveWords_133 {p : Program} {e : Env} {s : State} {m : MethodId} {args : Array Value} {below : List Frame} {meth : Method} {c : Code} {Q : State → Prop} (l : Launch) (g : va_G) (cI cJ cZ : ClassId) (rm a1 a2 a3 a4 a5 a6 a7 a8 a9 b1 b2 b3 b4 b5 b6 b7 b8 b9 : Nat) (cd tp bl jn sn wt wm wg wo wd : Nat) (sz lf rt : Nat → Int32) (S L R : Nat → Nat) (rc : Nat → Bool) (sp0 : Nat → Bool) (rq nd0 : Nat → Nat) (ba rv : Nat → Nat) (w : Nat) (hR : RuleOK S L R rc tp) (hT0 : TOK tp S L R sp0 rq) (hW0 : nW tp S L R rq nd0 (lvs sp0 1)) (hlen0 : (lvs sp0 1).length ≤ 14000) (hrl : rOK S L R rc sz lf rt) (hw1 : 1 ≤ w) (hw : w < 2 ^ 31) (hgb : (gB S (cls tp L R) rq w sp0) ≠ 0) (hfin : (lvs (gC S L R (cls tp L R) rq w sp0).1 1).length ≤ 14000) (hbl : bl < 256) (i x d o7 o8 : Nat) (sp : Nat → Bool) (nd : Nat → Nat) (hi9 : i < (lvs sp 1).length) (hm9 : (lvs sp 1).length < 14000) (C0 : cM p s m args meth c cX4_giveWords 12 (some .int) wsX4_giveWords RX4) (hk : kK g (kty cI cJ cZ) s) {A : Nat → Prop} {H0 : Heap} (hA : ∀ q : Nat, H0.size ≤ q → A q) (kk0 : ∀ (nd1 : Nat → Nat), (∀ j, j ≤ i + 1 → nd1 j = nd j) → (∀ j, i + 1 < j → j ≤ (lvs sp 1).length → nd1 j = nd (j - 1)) → ∀ (H : Heap) (locs : List Loc), va_P g vwCl [(rm, .inr (4, [.int (nI cd), .ref a1, .ref a2, .ref a3, .ref a4, .ref a5, .ref a6, .ref a7, .ref a8, .ref a9, .int (nI tp), .int (nI ((lvs sp 1).length)), .ref b1, .int (nI bl), .ref b2, .ref b3, .int (nI (jn + ((lvs sp0 1).length - (lvs (gS1 S (cls tp L R) rq w sp0) 1).length))), .int (nI (sn + d)), .ref b4, .ref b5, .ref b6, .ref b7, .ref b8, .int (nI wt), .int (nI wm), .int (nI wg), .long (lN wo), .int (nI wd), .ref b9])), (b1, .inl (cJ, 14000, .inr (.inl (fun j => lN (nd1 j))))), (a4, .inl (cI, 25, .inl sz)), (a5, .inl (cI, 25, .inl lf)), (a6, .inl (cI, 25, .inl rt)), (b2, .inl (cI, 256, .inl (fun j => nI (ba j)))), (b3, .inl (cI, 256, .inl (fun j => nI (rv j))))] H → va_D A [(rm, .inr (4, [.int (nI cd), .ref a1, .ref a2, .ref a3, .ref a4, .ref a5, .ref a6, .ref a7, .ref a8, .ref a9, .int (nI tp), .int (nI ((lvs sp 1).length)), .ref b1, .int (nI bl), .ref b2, .ref b3, .int (nI (jn + ((lvs sp0 1).length - (lvs (gS1 S (cls tp L R) rq w sp0) 1).length))), .int (nI (sn + d)), .ref b4, .ref b5, .ref b6, .ref b7, .ref b8, .int (nI wt), .int (nI wm), .int (nI wg), .long (lN wo), .int (nI wd), .ref b9])), (b1, .inl (cJ, 14000, .inr (.inl (fun j => lN (nd1 j))))), (a4, .inl (cI, 25, .inl sz)), (a5, .inl (cI, 25, .inl lf)), (a6, .inl (cI, 25, .inl rt)), (b2, .inl (cI, 256, .inl (fun j => nI (ba j)))), (b3, .inl (cI, 256, .inl (fun j => nI (rv j))))] → va_S A H0 H locs → ∀ (ls : Array Slot), lv_has ls 12 [(0, .ref rm), (1, .int (nI w)), (2, .int (nI i)), (3, .int (nI 1)), (5, .int (nI (L (cls tp L R x)))), (6, .int (nI (R (cls tp L R x)))), (7, .int (nI o7)), (8, .int (nI o8))] → W p l e (headSpec wsX4_giveWords ({ frames := 3, cells := 0, slots := 0, locals := 70 })).room s m args below meth c H locs 0 0 Q (F0 m 163 ls [])) :
    ∀ (K : Nat) (kk : Nat) (nd1 : Nat → Nat), kk < K → (i + 1 ≤ kk ∧ kk ≤ (lvs sp 1).length) → (∀ j, j ≤ kk → nd1 j = nd j) → (∀ j, kk < j → j ≤ (lvs sp 1).length → nd1 j = nd (j - 1)) → ∀ (H : Heap) (locs : List Loc), va_P g vwCl [(rm, .inr (4, [.int (nI cd), .ref a1, .ref a2, .ref a3, .ref a4, .ref a5, .ref a6, .ref a7, .ref a8, .ref a9, .int (nI tp), .int (nI ((lvs sp 1).length)), .ref b1, .int (nI bl), .ref b2, .ref b3, .int (nI (jn + ((lvs sp0 1).length - (lvs (gS1 S (cls tp L R) rq w sp0) 1).length))), .int (nI (sn + d)), .ref b4, .ref b5, .ref b6, .ref b7, .ref b8, .int (nI wt), .int (nI wm), .int (nI wg), .long (lN wo), .int (nI wd), .ref b9])), (b1, .inl (cJ, 14000, .inr (.inl (fun j => lN (nd1 j))))), (a4, .inl (cI, 25, .inl sz)), (a5, .inl (cI, 25, .inl lf)), (a6, .inl (cI, 25, .inl rt)), (b2, .inl (cI, 256, .inl (fun j => nI (ba j)))), (b3, .inl (cI, 256, .inl (fun j => nI (rv j))))] H → va_D A [(rm, .inr (4, [.int (nI cd), .ref a1, .ref a2, .ref a3, .ref a4, .ref a5, .ref a6, .ref a7, .ref a8, .ref a9, .int (nI tp), .int (nI ((lvs sp 1).length)), .ref b1, .int (nI bl), .ref b2, .ref b3, .int (nI (jn + ((lvs sp0 1).length - (lvs (gS1 S (cls tp L R) rq w sp0) 1).length))), .int (nI (sn + d)), .ref b4, .ref b5, .ref b6, .ref b7, .ref b8, .int (nI wt), .int (nI wm), .int (nI wg), .long (lN wo), .int (nI wd), .ref b9])), (b1, .inl (cJ, 14000, .inr (.inl (fun j => lN (nd1 j))))), (a4, .inl (cI, 25, .inl sz)), (a5, .inl (cI, 25, .inl lf)), (a6, .inl (cI, 25, .inl rt)), (b2, .inl (cI, 256, .inl (fun j => nI (ba j)))), (b3, .inl (cI, 256, .inl (fun j => nI (rv j))))] → va_S A H0 H locs →∀ (ls : Array Slot), lv_has ls 12 [(0, .ref rm), (1, .int (nI w)), (2, .int (nI i)), (3, .int (nI 1)), (5, .int (nI (L (cls tp L R x)))), (6, .int (nI (R (cls tp L R x)))), (7, .int (nI o7)), (8, .int (nI o8)), (9, .int (nI kk))] → W p l e (headSpec wsX4_giveWords ({ frames := 3, cells := 0, slots := 0, locals := 70 })).room s m args below meth c H locs 0 0 Q (F0 m 133 ls []) := by
  obtain ⟨hx, hb, hr, hml, hown, hts, hlocks⟩ := C0
  have hK := hk.1
  have hinX4 : ∀ w ∈ wsX40, w ∈ wsX4_giveWords := by decide +kernel
  intro K
  induction K with
  | zero =>
    intro kk nd1 h0
    exact absurd h0 (Nat.not_lt_zero _)
  | succ K ih =>
    intro kk nd1 hmu hk9 hs1 hs2 H locs hP hD hS ls hl
    refine lv_iload hx hb dX4_giveWords_133 (lv_at hl 8 rfl) ?_
    refine lv_iload_n hx hb dX4_giveWords_135 rfl (lv_at hl 2 rfl) ?_
    refine lv_iconst (v := nI 1) hx hb dX4_giveWords_136 (by decide) ?_
    refine n_iadd hx hb dX4_giveWords_137 ?_
    refine n_icmp_le (tgt := 163) hx hb dX4_giveWords_138 (by decide) (by first | assumption | omega) (by first | assumption | omega) (fun c34 => ?_) (fun c34 => ?_)
    · skip
      exact kk0 nd1 (fun j q1 => hs1 j (by omega)) (fun j q1 q2 => hs2 j (by omega) q2) _ _ hP hD hS ls (lv_sub hl [0, 1, 2, 3, 4, 5, 6, 7] rfl)
    · skip
      refine lv_aload_n hx hb dX4_giveWords_141 rfl (lv_at hl 0 rfl) ?_
      refine va_get (D := g) (ci := 4) (v := .ref b1) (C := RX4) (T := TX4) (N := 29) hx hb hts hinX4 hown hK hP 0 rfl rfl 12 (by decide) (hts (.fieldLink RX4 38 "BuddyRoofModel" "node" "[J") (by decide +kernel)) (fun _ h9 => h9) rfl dX4_giveWords_142 ?_
      refine lv_iload hx hb dX4_giveWords_145 (lv_at hl 8 rfl) ?_
      refine lv_aload_n hx hb dX4_giveWords_147 rfl (lv_at hl 0 rfl) ?_
      refine va_get (D := g) (ci := 4) (v := .ref b1) (C := RX4) (T := TX4) (N := 29) hx hb hts hinX4 hown hK hP 0 rfl rfl 12 (by decide) (hts (.fieldLink RX4 38 "BuddyRoofModel" "node" "[J") (by decide +kernel)) (fun _ h9 => h9) rfl dX4_giveWords_148 ?_
      refine lv_iload hx hb dX4_giveWords_151 (lv_at hl 8 rfl) ?_
      refine lv_iconst (v := nI 1) hx hb dX4_giveWords_153 (by decide) ?_
      refine n_isub hx hb dX4_giveWords_154 (by omega) ?_
      refine n_lald (v := lN (nd1 (kk - 1))) hx hb hK hP 1 1 rfl rfl (i := (kk - 1)) (by omega) (by decide) rfl dX4_giveWords_155 ?_
      refine n_lastM hx hb hK hP hD hS 1 1 rfl rfl (i := kk) (v := (nd1 (kk - 1))) (by omega) (by decide) dX4_giveWords_156 (fun H locs hP hD hS => ?_)
      have hP : va_P g vwCl [(rm, .inr (4, [.int (nI cd), .ref a1, .ref a2, .ref a3, .ref a4, .ref a5, .ref a6, .ref a7, .ref a8, .ref a9, .int (nI tp), .int (nI ((lvs sp 1).length)), .ref b1, .int (nI bl), .ref b2, .ref b3, .int (nI (jn + ((lvs sp0 1).length - (lvs (gS1 S (cls tp L R) rq w sp0) 1).length))), .int (nI (sn + d)), .ref b4, .ref b5, .ref b6, .ref b7, .ref b8, .int (nI wt), .int (nI wm), .int (nI wg), .long (lN wo), .int (nI wd), .ref b9])), (b1, .inl (cJ, 14000, .inr (.inl (fun j => lN ((upN nd1 kk (nd1 (kk - 1))) j))))), (a4, .inl (cI, 25, .inl sz)), (a5, .inl (cI, 25, .inl lf)), (a6, .inl (cI, 25, .inl rt)), (b2, .inl (cI, 256, .inl (fun j => nI (ba j)))), (b3, .inl (cI, 256, .inl (fun j => nI (rv j))))] H := hP
      have hD : va_D A [(rm, .inr (4, [.int (nI cd), .ref a1, .ref a2, .ref a3, .ref a4, .ref a5, .ref a6, .ref a7, .ref a8, .ref a9, .int (nI tp), .int (nI ((lvs sp 1).length)), .ref b1, .int (nI bl), .ref b2, .ref b3, .int (nI (jn + ((lvs sp0 1).length - (lvs (gS1 S (cls tp L R) rq w sp0) 1).length))), .int (nI (sn + d)), .ref b4, .ref b5, .ref b6, .ref b7, .ref b8, .int (nI wt), .int (nI wm), .int (nI wg), .long (lN wo), .int (nI wd), .ref b9])), (b1, .inl (cJ, 14000, .inr (.inl (fun j => lN ((upN nd1 kk (nd1 (kk - 1))) j))))), (a4, .inl (cI, 25, .inl sz)), (a5, .inl (cI, 25, .inl lf)), (a6, .inl (cI, 25, .inl rt)), (b2, .inl (cI, 256, .inl (fun j => nI (ba j)))), (b3, .inl (cI, 256, .inl (fun j => nI (rv j))))] := hD
      refine lv_iinc (v := nI (kk - 1)) (lv' := [(9, .int (nI (kk - 1))), (0, .ref rm), (1, .int (nI w)), (2, .int (nI i)), (3, .int (nI 1)), (5, .int (nI (L (cls tp L R x)))), (6, .int (nI (R (cls tp L R x)))), (7, .int (nI o7)), (8, .int (nI o8))]) hx hb dX4_giveWords_157 hl (k := 8) rfl (n_dec (k := 1) (by omega)) (by decide) rfl (fun ls hl => ?_)
      refine lv_goto (tgt := 133) hx hb dX4_giveWords_160 (by decide) ?_
      exact ih (kk - 1) (upN nd1 kk (nd1 (kk - 1))) (by omega) (by omega) (fun j q1 => by rw [upN_n _ _ (by omega)]; exact hs1 j (by omega)) (fun j q1 q2 => by
      by_cases e9 : j = kk
      · subst e9; rw [upN_s]; exact hs1 _ (by omega)
      · rw [upN_n _ _ e9]; exact hs2 j (by omega) q2) _ _ hP hD hS ls (lv_sub hl [1, 2, 3, 4, 5, 6, 7, 8, 0] rfl)

set_option maxHeartbeats 4000000 in
set_option maxRecDepth 100000 in
theorem lp_X4_giveWords_29 {p : Program} {e : Env} {s : State} {m : MethodId} {args : Array Value} {below : List Frame} {meth : Method} {c : Code} {Q : State → Prop} (l : Launch) (g : va_G) (cI cJ cZ : ClassId) (rm a1 a2 a3 a4 a5 a6 a7 a8 a9 b1 b2 b3 b4 b5 b6 b7 b8 b9 : Nat) (cd tp bl jn sn wt wm wg wo wd : Nat) (sz lf rt : Nat → Int32) (S L R : Nat → Nat) (rc : Nat → Bool) (sp0 : Nat → Bool) (rq nd0 : Nat → Nat) (ba rv : Nat → Nat) (w : Nat) (hR : RuleOK S L R rc tp) (hT0 : TOK tp S L R sp0 rq) (hW0 : nW tp S L R rq nd0 (lvs sp0 1)) (hlen0 : (lvs sp0 1).length ≤ 14000) (hrl : rOK S L R rc sz lf rt) (hw1 : 1 ≤ w) (hw : w < 2 ^ 31) (hgb : (gB S (cls tp L R) rq w sp0) ≠ 0) (hfin : (lvs (gC S L R (cls tp L R) rq w sp0).1 1).length ≤ 14000) (hbl : bl < 256) (rr : (Nat → Bool) × Nat × Nat) (hfr : (lvs rr.1 1).length ≤ 14000) (C0 : cM p s m args meth c cX4_giveWords 12 (some .int) wsX4_giveWords RX4) (hk : kK g (kty cI cJ cZ) s) {A : Nat → Prop} {H0 : Heap} (hA : ∀ q : Nat, H0.size ≤ q → A q) (kk0 : ∀ (i x d : Nat) (sp : Nat → Bool) (nd : Nat → Nat), (TOK tp S L R sp rq) → (nW tp S L R rq nd (lvs sp 1)) → ((lvs sp 1)[i]? = some x) → (rq x = 0) → ((sp, x, d) = rr) → ∀ (H : Heap) (locs : List Loc), va_P g vwCl [(rm, .inr (4, [.int (nI cd), .ref a1, .ref a2, .ref a3, .ref a4, .ref a5, .ref a6, .ref a7, .ref a8, .ref a9, .int (nI tp), .int (nI ((lvs sp 1).length)), .ref b1, .int (nI bl), .ref b2, .ref b3, .int (nI (jn + ((lvs sp0 1).length - (lvs (gS1 S (cls tp L R) rq w sp0) 1).length))), .int (nI (sn + d)), .ref b4, .ref b5, .ref b6, .ref b7, .ref b8, .int (nI wt), .int (nI wm), .int (nI wg), .long (lN wo), .int (nI wd), .ref b9])), (b1, .inl (cJ, 14000, .inr (.inl (fun j => lN (nd j))))), (a4, .inl (cI, 25, .inl sz)), (a5, .inl (cI, 25, .inl lf)), (a6, .inl (cI, 25, .inl rt)), (b2, .inl (cI, 256, .inl (fun j => nI (ba j)))), (b3, .inl (cI, 256, .inl (fun j => nI (rv j))))] H → va_D A [(rm, .inr (4, [.int (nI cd), .ref a1, .ref a2, .ref a3, .ref a4, .ref a5, .ref a6, .ref a7, .ref a8, .ref a9, .int (nI tp), .int (nI ((lvs sp 1).length)), .ref b1, .int (nI bl), .ref b2, .ref b3, .int (nI (jn + ((lvs sp0 1).length - (lvs (gS1 S (cls tp L R) rq w sp0) 1).length))), .int (nI (sn + d)), .ref b4, .ref b5, .ref b6, .ref b7, .ref b8, .int (nI wt), .int (nI wm), .int (nI wg), .long (lN wo), .int (nI wd), .ref b9])), (b1, .inl (cJ, 14000, .inr (.inl (fun j => lN (nd j))))), (a4, .inl (cI, 25, .inl sz)), (a5, .inl (cI, 25, .inl lf)), (a6, .inl (cI, 25, .inl rt)), (b2, .inl (cI, 256, .inl (fun j => nI (ba j)))), (b3, .inl (cI, 256, .inl (fun j => nI (rv j))))] → va_S A H0 H locs → ∀ (ls : Array Slot), lv_has ls 12 [(0, .ref rm), (1, .int (nI w)), (2, .int (nI i))] → W p l e (headSpec wsX4_giveWords ({ frames := 3, cells := 0, slots := 0, locals := 70 })).room s m args below meth c H locs 0 0 Q (F0 m 289 ls [])) :
    ∀ (K : Nat) (i x d k : Nat) (sp : Nat → Bool) (nd : Nat → Nat), k < K → (d + k = 24) → (d ≤ dep x) → (TOK tp S L R sp rq) → (nW tp S L R rq nd (lvs sp 1)) → ((lvs sp 1)[i]? = some x) → (rq x = 0) → (aCv S L R (cls tp L R) w k (sp, x, d) = rr) → ∀ (H : Heap) (locs : List Loc), va_P g vwCl [(rm, .inr (4, [.int (nI cd), .ref a1, .ref a2, .ref a3, .ref a4, .ref a5, .ref a6, .ref a7, .ref a8, .ref a9, .int (nI tp), .int (nI ((lvs sp 1).length)), .ref b1, .int (nI bl), .ref b2, .ref b3, .int (nI (jn + ((lvs sp0 1).length - (lvs (gS1 S (cls tp L R) rq w sp0) 1).length))), .int (nI (sn + d)), .ref b4, .ref b5, .ref b6, .ref b7, .ref b8, .int (nI wt), .int (nI wm), .int (nI wg), .long (lN wo), .int (nI wd), .ref b9])), (b1, .inl (cJ, 14000, .inr (.inl (fun j => lN (nd j))))), (a4, .inl (cI, 25, .inl sz)), (a5, .inl (cI, 25, .inl lf)), (a6, .inl (cI, 25, .inl rt)), (b2, .inl (cI, 256, .inl (fun j => nI (ba j)))), (b3, .inl (cI, 256, .inl (fun j => nI (rv j))))] H → va_D A [(rm, .inr (4, [.int (nI cd), .ref a1, .ref a2, .ref a3, .ref a4, .ref a5, .ref a6, .ref a7, .ref a8, .ref a9, .int (nI tp), .int (nI ((lvs sp 1).length)), .ref b1, .int (nI bl), .ref b2, .ref b3, .int (nI (jn + ((lvs sp0 1).length - (lvs (gS1 S (cls tp L R) rq w sp0) 1).length))), .int (nI (sn + d)), .ref b4, .ref b5, .ref b6, .ref b7, .ref b8, .int (nI wt), .int (nI wm), .int (nI wg), .long (lN wo), .int (nI wd), .ref b9])), (b1, .inl (cJ, 14000, .inr (.inl (fun j => lN (nd j))))), (a4, .inl (cI, 25, .inl sz)), (a5, .inl (cI, 25, .inl lf)), (a6, .inl (cI, 25, .inl rt)), (b2, .inl (cI, 256, .inl (fun j => nI (ba j)))), (b3, .inl (cI, 256, .inl (fun j => nI (rv j))))] → va_S A H0 H locs →∀ (ls : Array Slot), lv_has ls 12 [(0, .ref rm), (1, .int (nI w)), (2, .int (nI i)), (3, .int (nI 1))] → W p l e (headSpec wsX4_giveWords ({ frames := 3, cells := 0, slots := 0, locals := 70 })).room s m args below meth c H locs 0 0 Q (F0 m 29 ls []) := by
  obtain ⟨hx, hb, hr, hml, hown, hts, hlocks⟩ := C0
  have hK := hk.1
  have hinX4 : ∀ w ∈ wsX40, w ∈ wsX4_giveWords := by decide +kernel
  intro K
  induction K with
  | zero =>
    intro i x d k sp nd h0
    exact absurd h0 (Nat.not_lt_zero _)
  | succ K ih =>
    intro i x d k sp nd hmu hf hdx hT hW hix hrx hZ H locs hP hD hS ls hl
    have hi9 := at_lt hix
    have hlm := lvs_mem hR hT 1 ex_1 x (List.mem_of_getElem? hix)
    have hlx := hlm.1
    have hls := hlm.2
    have hok0 := aCv_ok hR hw1 k sp x d hT hlx hls hrx
    rw [hZ] at hok0
    have hlen : (lvs sp 1).length ≤ 14000 := by have := hok0.2.2.2.2.2.1; have := hok0.2.2.2.2.2.2.1; omega
    have hck := cls_ok hR hT hlx
    have hrk := rl_kids hR hrl hck.1
    have hdp := cv_dep hR hT hlx
    have hkl := kid_L (w := w) hR hck.1 hw1
    obtain ⟨pp, pp_1, pp_2, pp_3, pp_4, pp_5, pp_6, pp_7, pp_8, pp_9, pp_10⟩ := nW_rd (i := i) hR hT hW hlen hi9
    obtain rfl : x = pp := by rw [hix] at pp_1; exact Option.some.inj pp_1
    refine lv_iload_n hx hb dX4_giveWords_29 rfl (lv_at hl 3 rfl) ?_
    refine n_if_eq (tgt := 289) hx hb dX4_giveWords_30 (by decide) (by first | assumption | omega) (fun c35 => ?_) (fun c35 => ?_)
    · exact (by exact absurd c35 (by decide))
    · skip
      refine lv_aload_n hx hb dX4_giveWords_33 rfl (lv_at hl 0 rfl) ?_
      refine lv_iload_n hx hb dX4_giveWords_34 rfl (lv_at hl 2 rfl) ?_
      refine k_goR (W.runV (As := [.int (nI i)]) (rest := []) ⟨hx, hb, hml, hown, hts⟩ (c_X4_classOf l g cI cJ cZ rm a1 a2 a3 a4 a5 a6 a7 a8 a9 b1 b2 b3 b4 b5 b6 b7 b8 b9 cd tp ((lvs sp 1).length) bl (jn + ((lvs sp0 1).length - (lvs (gS1 S (cls tp L R) rq w sp0) 1).length)) (sn + d) wt wm wg wo wd nd i pp_4 pp_5) (cwV 1 hts gX4_giveWords_X4_classOf rfl rfl rfl (by decide +kernel) ⟨Nat.le_of_ble_eq_true rfl, Nat.le_of_ble_eq_true rfl⟩) (k_preRV hk hP [0, 1] rfl (ci := 4) (q0 := 0) rfl rfl) rfl rfl hl.1 rfl (lv_room (Nat.le_of_ble_eq_true rfl)) dX4_giveWords_35 ⟨by first | exact Nat.zero_le _ | omega, by first | exact Nat.zero_le _ | omega⟩) ?_
      refine n_top _ (nI (cls tp L R x)) (congrArg nI pp_8) ?_
      refine lv_istore (lv' := [(4, .int (nI (cls tp L R x))), (0, .ref rm), (1, .int (nI w)), (2, .int (nI i)), (3, .int (nI 1))]) hx hb dX4_giveWords_38 hl (by decide) rfl (fun ls hl => ?_)
      refine lv_aload_n hx hb dX4_giveWords_40 rfl (lv_at hl 1 rfl) ?_
      refine va_get (D := g) (ci := 4) (v := .ref a5) (C := RX4) (T := TX4) (N := 29) hx hb hts hinX4 hown hK hP 0 rfl rfl 5 (by decide) (hts (.fieldLink RX4 22 "BuddyRoofModel" "lefts" "[I") (by decide +kernel)) (fun _ h9 => h9) rfl dX4_giveWords_41 ?_
      refine lv_iload hx hb dX4_giveWords_44 (lv_at hl 0 rfl) ?_
      refine n_ald (v := nI (L (cls tp L R x))) hx hb hK hP 3 0 rfl rfl (i := (cls tp L R x)) (by omega) (by decide) (by exact hrk.2.1) dX4_giveWords_46 ?_
      refine lv_istore (lv' := [(5, .int (nI (L (cls tp L R x)))), (4, .int (nI (cls tp L R x))), (0, .ref rm), (1, .int (nI w)), (2, .int (nI i)), (3, .int (nI 1))]) hx hb dX4_giveWords_47 hl (by decide) rfl (fun ls hl => ?_)
      refine lv_aload_n hx hb dX4_giveWords_49 rfl (lv_at hl 2 rfl) ?_
      refine va_get (D := g) (ci := 4) (v := .ref a6) (C := RX4) (T := TX4) (N := 29) hx hb hts hinX4 hown hK hP 0 rfl rfl 6 (by decide) (hts (.fieldLink RX4 25 "BuddyRoofModel" "rights" "[I") (by decide +kernel)) (fun _ h9 => h9) rfl dX4_giveWords_50 ?_
      refine lv_iload hx hb dX4_giveWords_53 (lv_at hl 1 rfl) ?_
      refine n_ald (v := nI (R (cls tp L R x))) hx hb hK hP 4 0 rfl rfl (i := (cls tp L R x)) (by omega) (by decide) (by exact hrk.2.2.1) dX4_giveWords_55 ?_
      refine lv_istore (lv' := [(6, .int (nI (R (cls tp L R x)))), (5, .int (nI (L (cls tp L R x)))), (4, .int (nI (cls tp L R x))), (0, .ref rm), (1, .int (nI w)), (2, .int (nI i)), (3, .int (nI 1))]) hx hb dX4_giveWords_56 hl (by decide) rfl (fun ls hl => ?_)
      refine lv_iload hx hb dX4_giveWords_58 (lv_at hl 1 rfl) ?_
      refine n_if_le (tgt := 78) hx hb dX4_giveWords_60 (by decide) (by first | assumption | omega) (fun c36 => ?_) (fun c36 => ?_)
      · skip
        refine lv_iconst (v := nI 0) hx hb dX4_giveWords_78 (by decide) ?_
        refine lv_istore (lv' := [(7, .int (nI 0)), (6, .int (nI (R (cls tp L R x)))), (5, .int (nI (L (cls tp L R x)))), (4, .int (nI (cls tp L R x))), (0, .ref rm), (1, .int (nI w)), (2, .int (nI i)), (3, .int (nI 1))]) hx hb dX4_giveWords_79 hl (by decide) rfl (fun ls hl => ?_)
        refine lv_iload hx hb dX4_giveWords_81 (lv_at hl 2 rfl) ?_
        refine n_if_le (tgt := 101) hx hb dX4_giveWords_83 (by decide) (by first | assumption | omega) (fun c37 => ?_) (fun c37 => ?_)
        · skip
          refine lv_iconst (v := nI 0) hx hb dX4_giveWords_101 (by decide) ?_
          refine lv_istore (lv' := [(8, .int (nI 0)), (7, .int (nI 0)), (6, .int (nI (R (cls tp L R x)))), (5, .int (nI (L (cls tp L R x)))), (4, .int (nI (cls tp L R x))), (0, .ref rm), (1, .int (nI w)), (2, .int (nI i)), (3, .int (nI 1))]) hx hb dX4_giveWords_102 hl (by decide) rfl (fun ls hl => ?_)
          refine lv_iload hx hb dX4_giveWords_104 (lv_at hl 1 rfl) ?_
          refine n_if_ne (tgt := 114) hx hb dX4_giveWords_106 (by decide) (by first | assumption | omega) (fun c38 => ?_) (fun c38 => ?_)
          · exact (by exact absurd c38 (by decide))
          · skip
            refine lv_iload hx hb dX4_giveWords_109 (lv_at hl 0 rfl) ?_
            refine n_if_eq (tgt := 118) hx hb dX4_giveWords_111 (by decide) (by first | assumption | omega) (fun c39 => ?_) (fun c39 => ?_)
            · skip
              refine lv_iconst (v := nI 0) hx hb dX4_giveWords_118 (by decide) ?_
              refine lv_istore_n (lv' := [(3, .int (nI 0)), (8, .int (nI 0)), (7, .int (nI 0)), (6, .int (nI (R (cls tp L R x)))), (5, .int (nI (L (cls tp L R x)))), (4, .int (nI (cls tp L R x))), (0, .ref rm), (1, .int (nI w)), (2, .int (nI i))]) hx hb dX4_giveWords_119 rfl hl (by decide) rfl (fun ls hl => ?_)
              refine lv_iload_n hx hb dX4_giveWords_120 rfl (lv_at hl 0 rfl) ?_
              refine n_if_ne (tgt := 127) hx hb dX4_giveWords_121 (by decide) (by first | assumption | omega) (fun c40 => ?_) (fun c40 => ?_)
              · exact (by exact absurd c40 (by decide))
              · skip
                refine lv_goto (tgt := 29) hx hb dX4_giveWords_124 (by decide) ?_
                refine lv_iload_n hx hb dX4_giveWords_29 rfl (lv_at hl 0 rfl) ?_
                refine n_if_eq (tgt := 289) hx hb dX4_giveWords_30 (by decide) (by first | assumption | omega) (fun c41 => ?_) (fun c41 => ?_)
                · skip
                  exact kk0 i x d sp nd hT hW hix hrx (mDes_x hZ (Or.inl (decide_eq_true (show ¬ (w ≤ S (L (cls tp L R x)) ∨ w ≤ S (R (cls tp L R x))) by omega)))) _ _ hP hD hS ls (lv_sub hl [6, 7, 8] rfl)
                · exact (by exact absurd c41 (by decide))
            · exact (by exact absurd c39 (by decide))
        · exact (by exfalso; omega)
      · skip
        refine lv_aload_n hx hb dX4_giveWords_63 rfl (lv_at hl 3 rfl) ?_
        refine va_get (D := g) (ci := 4) (v := .ref a4) (C := RX4) (T := TX4) (N := 29) hx hb hts hinX4 hown hK hP 0 rfl rfl 4 (by decide) (hts (.fieldLink RX4 19 "BuddyRoofModel" "sizes" "[I") (by decide +kernel)) (fun _ h9 => h9) rfl dX4_giveWords_64 ?_
        refine lv_iload hx hb dX4_giveWords_67 (lv_at hl 1 rfl) ?_
        refine n_ald (v := nI (S (L (cls tp L R x)))) hx hb hK hP 2 0 rfl rfl (i := (L (cls tp L R x))) (by omega) (by decide) (by exact hrk.2.2.2.1) dX4_giveWords_69 ?_
        refine lv_iload_n hx hb dX4_giveWords_70 rfl (lv_at hl 4 rfl) ?_
        refine n_icmp_lt (tgt := 78) hx hb dX4_giveWords_71 (by decide) (by first | assumption | omega) (by first | assumption | omega) (fun c42 => ?_) (fun c42 => ?_)
        · skip
          refine lv_iconst (v := nI 0) hx hb dX4_giveWords_78 (by decide) ?_
          refine lv_istore (lv' := [(7, .int (nI 0)), (6, .int (nI (R (cls tp L R x)))), (5, .int (nI (L (cls tp L R x)))), (4, .int (nI (cls tp L R x))), (0, .ref rm), (1, .int (nI w)), (2, .int (nI i)), (3, .int (nI 1))]) hx hb dX4_giveWords_79 hl (by decide) rfl (fun ls hl => ?_)
          refine lv_iload hx hb dX4_giveWords_81 (lv_at hl 2 rfl) ?_
          refine n_if_le (tgt := 101) hx hb dX4_giveWords_83 (by decide) (by first | assumption | omega) (fun c43 => ?_) (fun c43 => ?_)
          · exact (by exfalso; omega)
          · skip
            refine lv_aload_n hx hb dX4_giveWords_86 rfl (lv_at hl 4 rfl) ?_
            refine va_get (D := g) (ci := 4) (v := .ref a4) (C := RX4) (T := TX4) (N := 29) hx hb hts hinX4 hown hK hP 0 rfl rfl 4 (by decide) (hts (.fieldLink RX4 19 "BuddyRoofModel" "sizes" "[I") (by decide +kernel)) (fun _ h9 => h9) rfl dX4_giveWords_87 ?_
            refine lv_iload hx hb dX4_giveWords_90 (lv_at hl 1 rfl) ?_
            refine n_ald (v := nI (S (R (cls tp L R x)))) hx hb hK hP 2 0 rfl rfl (i := (R (cls tp L R x))) (by omega) (by decide) (by exact hrk.2.2.2.2.1) dX4_giveWords_92 ?_
            refine lv_iload_n hx hb dX4_giveWords_93 rfl (lv_at hl 5 rfl) ?_
            refine n_icmp_lt (tgt := 101) hx hb dX4_giveWords_94 (by decide) (by first | assumption | omega) (by first | assumption | omega) (fun c44 => ?_) (fun c44 => ?_)
            · skip
              refine lv_iconst (v := nI 0) hx hb dX4_giveWords_101 (by decide) ?_
              refine lv_istore (lv' := [(8, .int (nI 0)), (7, .int (nI 0)), (6, .int (nI (R (cls tp L R x)))), (5, .int (nI (L (cls tp L R x)))), (4, .int (nI (cls tp L R x))), (0, .ref rm), (1, .int (nI w)), (2, .int (nI i)), (3, .int (nI 1))]) hx hb dX4_giveWords_102 hl (by decide) rfl (fun ls hl => ?_)
              refine lv_iload hx hb dX4_giveWords_104 (lv_at hl 1 rfl) ?_
              refine n_if_ne (tgt := 114) hx hb dX4_giveWords_106 (by decide) (by first | assumption | omega) (fun c45 => ?_) (fun c45 => ?_)
              · exact (by exact absurd c45 (by decide))
              · skip
                refine lv_iload hx hb dX4_giveWords_109 (lv_at hl 0 rfl) ?_
                refine n_if_eq (tgt := 118) hx hb dX4_giveWords_111 (by decide) (by first | assumption | omega) (fun c46 => ?_) (fun c46 => ?_)
                · skip
                  refine lv_iconst (v := nI 0) hx hb dX4_giveWords_118 (by decide) ?_
                  refine lv_istore_n (lv' := [(3, .int (nI 0)), (8, .int (nI 0)), (7, .int (nI 0)), (6, .int (nI (R (cls tp L R x)))), (5, .int (nI (L (cls tp L R x)))), (4, .int (nI (cls tp L R x))), (0, .ref rm), (1, .int (nI w)), (2, .int (nI i))]) hx hb dX4_giveWords_119 rfl hl (by decide) rfl (fun ls hl => ?_)
                  refine lv_iload_n hx hb dX4_giveWords_120 rfl (lv_at hl 0 rfl) ?_
                  refine n_if_ne (tgt := 127) hx hb dX4_giveWords_121 (by decide) (by first | assumption | omega) (fun c47 => ?_) (fun c47 => ?_)
                  · exact (by exact absurd c47 (by decide))
                  · skip
                    refine lv_goto (tgt := 29) hx hb dX4_giveWords_124 (by decide) ?_
                    refine lv_iload_n hx hb dX4_giveWords_29 rfl (lv_at hl 0 rfl) ?_
                    refine n_if_eq (tgt := 289) hx hb dX4_giveWords_30 (by decide) (by first | assumption | omega) (fun c48 => ?_) (fun c48 => ?_)
                    · skip
                      exact kk0 i x d sp nd hT hW hix hrx (mDes_x hZ (Or.inl (decide_eq_true (show ¬ (w ≤ S (L (cls tp L R x)) ∨ w ≤ S (R (cls tp L R x))) by omega)))) _ _ hP hD hS ls (lv_sub hl [6, 7, 8] rfl)
                    · exact (by exact absurd c48 (by decide))
                · exact (by exact absurd c46 (by decide))
            · skip
              refine lv_iconst (v := nI 1) hx hb dX4_giveWords_97 (by decide) ?_
              refine lv_goto (tgt := 102) hx hb dX4_giveWords_98 (by decide) ?_
              refine lv_istore (lv' := [(8, .int (nI 1)), (7, .int (nI 0)), (6, .int (nI (R (cls tp L R x)))), (5, .int (nI (L (cls tp L R x)))), (4, .int (nI (cls tp L R x))), (0, .ref rm), (1, .int (nI w)), (2, .int (nI i)), (3, .int (nI 1))]) hx hb dX4_giveWords_102 hl (by decide) rfl (fun ls hl => ?_)
              refine lv_iload hx hb dX4_giveWords_104 (lv_at hl 1 rfl) ?_
              refine n_if_ne (tgt := 114) hx hb dX4_giveWords_106 (by decide) (by first | assumption | omega) (fun c49 => ?_) (fun c49 => ?_)
              · exact (by exact absurd c49 (by decide))
              · skip
                refine lv_iload hx hb dX4_giveWords_109 (lv_at hl 0 rfl) ?_
                refine n_if_eq (tgt := 118) hx hb dX4_giveWords_111 (by decide) (by first | assumption | omega) (fun c50 => ?_) (fun c50 => ?_)
                · exact (by exact absurd c50 (by decide))
                · skip
                  refine lv_iconst (v := nI 1) hx hb dX4_giveWords_114 (by decide) ?_
                  refine lv_goto (tgt := 119) hx hb dX4_giveWords_115 (by decide) ?_
                  refine lv_istore_n (lv' := [(3, .int (nI 1)), (8, .int (nI 1)), (7, .int (nI 0)), (6, .int (nI (R (cls tp L R x)))), (5, .int (nI (L (cls tp L R x)))), (4, .int (nI (cls tp L R x))), (0, .ref rm), (1, .int (nI w)), (2, .int (nI i))]) hx hb dX4_giveWords_119 rfl hl (by decide) rfl (fun ls hl => ?_)
                  refine lv_iload_n hx hb dX4_giveWords_120 rfl (lv_at hl 0 rfl) ?_
                  refine n_if_ne (tgt := 127) hx hb dX4_giveWords_121 (by decide) (by first | assumption | omega) (fun c51 => ?_) (fun c51 => ?_)
                  · skip
                    have hho : w ≤ S (L (cls tp L R x)) ∨ w ≤ S (R (cls tp L R x)) := by omega
                    have hL9 := holds_L hR hck.1 hw1 hho
                    have hT2 := TOK_split hR hT hlx hls hrx hL9
                    have hln := len_split hR hT hlx hls hrx hL9
                    have hk0 : 0 < k := by omega
                    have hZ2 := mDes_b hZ (decide_eq_false (fun q => q hho)) hk0 rfl
                    have hx1 := ex_pos hlx
                    have hok2 := aCv_ok hR hw1 (k - 1) (upB sp x true) (if cvL S L R w (cls tp L R x) then 2 * x else 2 * x + 1) (d + 1) hT2 (cv_go hlx hls).1 (cv_go2 hT hlx hls).1 (cv_go2 hT hlx hls).2
                    have hZ3 : aCv S L R (cls tp L R) w (k - 1) (upB sp x true, if cvL S L R w (cls tp L R x) then 2 * x else 2 * x + 1, d + 1) = rr := hZ2
                    rw [hZ3] at hok2
                    have hlt9 : (lvs sp 1).length < 14000 := by have := hok2.2.2.2.2.2.1; have := hok2.2.2.2.2.2.2.1; omega
                    have hd := dec_at hix
                    obtain ⟨hd1, hd2⟩ := hd
                    have hsl := lvs_split_at hR hT hlx hls hrx hL9 hd1
                    have hsk := sid_kid hx1
                    have hsb := sid_b hR hT hlx
                    have hde := dep_e hx1
                    have hdo := dep_o hx1
                    have hca := adr_lt hR hT hlx
                    have hae := adr_e (top := tp) (S := S) (L := L) (R := R) hx1
                    have hao := adr_o (top := tp) (S := S) (L := L) (R := R) hx1
                    have hce := cls_e (top := tp) (L := L) (R := R) hx1
                    have hco := cls_o (top := tp) (L := L) (R := R) hx1
                    have hkq := rq_kids hT hx1 hls
                    have hxk1 : ex (upB sp x true) (2 * x) := (ex_split hx1 hls).mpr (Or.inr (Or.inl rfl))
                    have hxk2 : ex (upB sp x true) (2 * x + 1) := (ex_split hx1 hls).mpr (Or.inr (Or.inr rfl))
                    have hc1 := cls_ok hR hT2 hxk1
                    have hc2 := cls_ok hR hT2 hxk2
                    have hl1 := adr_lt hR hT2 hxk1
                    have hl2 := adr_lt hR hT2 hxk2
                    have hp1 := sid_b hR hT2 hxk1
                    have hp2 := sid_b hR hT2 hxk2
                    rw [hce] at hc1
                    rw [hco] at hc2
                    rw [hao] at hl2
                    have hwa : enc (adr tp S L R x) 0 (L (cls tp L R x)) (dep x + 1) (2 * (x % 2 ^ dep x)) = wrd tp S L R rq (2 * x) := by unfold wrd; rw [hkq.1, if_neg (by decide), hae, hce, hsk.1, hde]
                    have hwb : enc (adr tp S L R x + S (L (cls tp L R x))) 0 (R (cls tp L R x)) (dep x + 1) (2 * (x % 2 ^ dep x) + 1) = wrd tp S L R rq (2 * x + 1) := by unfold wrd; rw [hkq.2, if_neg (by decide), hao, hco, hsk.2, hdo]
                    refine lv_aload_n hx hb dX4_giveWords_127 rfl (lv_at hl 6 rfl) ?_
                    refine va_get (D := g) (ci := 4) (v := .int (nI ((lvs sp 1).length))) (C := RX4) (T := TX4) (N := 29) hx hb hts hinX4 hown hK hP 0 rfl rfl 11 (by decide) (hts (.fieldLink RX4 96 "BuddyRoofModel" "many" "I") (by decide +kernel)) (fun _ h9 => h9) rfl dX4_giveWords_128 ?_
                    refine lv_istore (lv' := [(9, .int (nI ((lvs sp 1).length))), (3, .int (nI 1)), (8, .int (nI 1)), (7, .int (nI 0)), (6, .int (nI (R (cls tp L R x)))), (5, .int (nI (L (cls tp L R x)))), (4, .int (nI (cls tp L R x))), (0, .ref rm), (1, .int (nI w)), (2, .int (nI i))]) hx hb dX4_giveWords_131 hl (by decide) rfl (fun ls hl => ?_)
                    refine lp_X4_giveWords_133 l g cI cJ cZ rm a1 a2 a3 a4 a5 a6 a7 a8 a9 b1 b2 b3 b4 b5 b6 b7 b8 b9 cd tp bl jn sn wt wm wg wo wd sz lf rt S L R rc sp0 rq nd0 ba rv w hR hT0 hW0 hlen0 hrl hw1 hw hgb hfin hbl i x d 0 1 sp nd hi9 (by omega) ⟨hx, hb, hr, hml, hown, hts, hlocks⟩ hk hA (fun nd1 hs1 hs2 H locs hP hD hS ls hl => ?_) _ ((lvs sp 1).length) nd (Nat.lt_succ_self _) (by omega) (fun j _ => rfl) (fun j q1 q2 => by omega) _ _ hP hD hS ls (lv_sub hl [7, 8, 9, 1, 5, 4, 3, 2, 0] rfl)
                    · skip
                      refine lv_aload_n hx hb dX4_giveWords_163 rfl (lv_at hl 0 rfl) ?_
                      refine lv_dup hx hb dX4_giveWords_164 rfl ?_
                      refine va_get (D := g) (ci := 4) (v := .int (nI ((lvs sp 1).length))) (C := RX4) (T := TX4) (N := 29) hx hb hts hinX4 hown hK hP 0 rfl rfl 11 (by decide) (hts (.fieldLink RX4 96 "BuddyRoofModel" "many" "I") (by decide +kernel)) (fun _ h9 => h9) rfl dX4_giveWords_165 ?_
                      refine lv_iconst (v := nI 1) hx hb dX4_giveWords_168 (by decide) ?_
                      refine n_iadd hx hb dX4_giveWords_169 ?_
                      refine va_put (D := g) (ci := 4) (v := .int (nI (((lvs sp 1).length) + 1))) (ty := .int) (C := RX4) (T := TX4) (N := 29) hx hb hts hinX4 tyX4 tyX4_ok nmX4 hown hK hP hD hS 0 rfl rfl 11 (by decide) (hts (.fieldLink RX4 96 "BuddyRoofModel" "many" "I") (by decide +kernel)) (fun _ h9 => h9) rfl (by decide +kernel) rfl rfl (Nat.le_of_ble_eq_true rfl) dX4_giveWords_170 (fun H locs hP hD hS => ?_)
                      have hP : va_P g vwCl [(rm, .inr (4, [.int (nI cd), .ref a1, .ref a2, .ref a3, .ref a4, .ref a5, .ref a6, .ref a7, .ref a8, .ref a9, .int (nI tp), .int (nI (((lvs sp 1).length) + 1)), .ref b1, .int (nI bl), .ref b2, .ref b3, .int (nI (jn + ((lvs sp0 1).length - (lvs (gS1 S (cls tp L R) rq w sp0) 1).length))), .int (nI (sn + d)), .ref b4, .ref b5, .ref b6, .ref b7, .ref b8, .int (nI wt), .int (nI wm), .int (nI wg), .long (lN wo), .int (nI wd), .ref b9])), (b1, .inl (cJ, 14000, .inr (.inl (fun j => lN (nd1 j))))), (a4, .inl (cI, 25, .inl sz)), (a5, .inl (cI, 25, .inl lf)), (a6, .inl (cI, 25, .inl rt)), (b2, .inl (cI, 256, .inl (fun j => nI (ba j)))), (b3, .inl (cI, 256, .inl (fun j => nI (rv j))))] H := hP
                      have hD : va_D A [(rm, .inr (4, [.int (nI cd), .ref a1, .ref a2, .ref a3, .ref a4, .ref a5, .ref a6, .ref a7, .ref a8, .ref a9, .int (nI tp), .int (nI (((lvs sp 1).length) + 1)), .ref b1, .int (nI bl), .ref b2, .ref b3, .int (nI (jn + ((lvs sp0 1).length - (lvs (gS1 S (cls tp L R) rq w sp0) 1).length))), .int (nI (sn + d)), .ref b4, .ref b5, .ref b6, .ref b7, .ref b8, .int (nI wt), .int (nI wm), .int (nI wg), .long (lN wo), .int (nI wd), .ref b9])), (b1, .inl (cJ, 14000, .inr (.inl (fun j => lN (nd1 j))))), (a4, .inl (cI, 25, .inl sz)), (a5, .inl (cI, 25, .inl lf)), (a6, .inl (cI, 25, .inl rt)), (b2, .inl (cI, 256, .inl (fun j => nI (ba j)))), (b3, .inl (cI, 256, .inl (fun j => nI (rv j))))] := hD
                      refine lv_aload_n hx hb dX4_giveWords_173 rfl (lv_at hl 0 rfl) ?_
                      refine lv_iload_n hx hb dX4_giveWords_174 rfl (lv_at hl 2 rfl) ?_
                      refine k_goR (W.runV (As := [.int (nI i)]) (rest := []) ⟨hx, hb, hml, hown, hts⟩ (c_X4_address l g cI cJ cZ rm a1 a2 a3 a4 a5 a6 a7 a8 a9 b1 b2 b3 b4 b5 b6 b7 b8 b9 cd tp (((lvs sp 1).length) + 1) bl (jn + ((lvs sp0 1).length - (lvs (gS1 S (cls tp L R) rq w sp0) 1).length)) (sn + d) wt wm wg wo wd nd1 i pp_4 (by rw [hs1 i (by omega)]; exact pp_5)) (cwV 1 hts gX4_giveWords_X4_address rfl rfl rfl (by decide +kernel) ⟨Nat.le_of_ble_eq_true rfl, Nat.le_of_ble_eq_true rfl⟩) (k_preRV hk hP [0, 1] rfl (ci := 4) (q0 := 0) rfl rfl) rfl rfl hl.1 rfl (lv_room (Nat.le_of_ble_eq_true rfl)) dX4_giveWords_175 ⟨by first | exact Nat.zero_le _ | omega, by first | exact Nat.zero_le _ | omega⟩) ?_
                      refine n_top _ (nI (adr tp S L R x)) (by rw [hs1 i (by omega), pp_6]) ?_
                      refine lv_istore (lv' := [(9, .int (nI (adr tp S L R x))), (0, .ref rm), (1, .int (nI w)), (2, .int (nI i)), (3, .int (nI 1)), (5, .int (nI (L (cls tp L R x)))), (6, .int (nI (R (cls tp L R x)))), (7, .int (nI 0)), (8, .int (nI 1))]) hx hb dX4_giveWords_178 hl (by decide) rfl (fun ls hl => ?_)
                      refine lv_aload_n hx hb dX4_giveWords_180 rfl (lv_at hl 1 rfl) ?_
                      refine lv_iload_n hx hb dX4_giveWords_181 rfl (lv_at hl 3 rfl) ?_
                      refine k_goR (W.runV (As := [.int (nI i)]) (rest := []) ⟨hx, hb, hml, hown, hts⟩ (c_X4_depth l g cI cJ cZ rm a1 a2 a3 a4 a5 a6 a7 a8 a9 b1 b2 b3 b4 b5 b6 b7 b8 b9 cd tp (((lvs sp 1).length) + 1) bl (jn + ((lvs sp0 1).length - (lvs (gS1 S (cls tp L R) rq w sp0) 1).length)) (sn + d) wt wm wg wo wd nd1 i pp_4 (by rw [hs1 i (by omega)]; exact pp_5)) (cwV 1 hts gX4_giveWords_X4_depth rfl rfl rfl (by decide +kernel) ⟨Nat.le_of_ble_eq_true rfl, Nat.le_of_ble_eq_true rfl⟩) (k_preRV hk hP [0, 1] rfl (ci := 4) (q0 := 0) rfl rfl) rfl rfl hl.1 rfl (lv_room (Nat.le_of_ble_eq_true rfl)) dX4_giveWords_182 ⟨by first | exact Nat.zero_le _ | omega, by first | exact Nat.zero_le _ | omega⟩) ?_
                      refine n_top _ (nI (dep x)) (by rw [hs1 i (by omega), pp_9]) ?_
                      refine lv_iconst (v := nI 1) hx hb dX4_giveWords_185 (by decide) ?_
                      refine n_iadd hx hb dX4_giveWords_186 ?_
                      refine lv_istore (lv' := [(10, .int (nI ((dep x) + 1))), (9, .int (nI (adr tp S L R x))), (0, .ref rm), (1, .int (nI w)), (2, .int (nI i)), (3, .int (nI 1)), (5, .int (nI (L (cls tp L R x)))), (6, .int (nI (R (cls tp L R x)))), (7, .int (nI 0)), (8, .int (nI 1))]) hx hb dX4_giveWords_187 hl (by decide) rfl (fun ls hl => ?_)
                      refine lv_iconst (v := nI 2) hx hb dX4_giveWords_189 (by decide) ?_
                      refine lv_aload_n hx hb dX4_giveWords_190 rfl (lv_at hl 2 rfl) ?_
                      refine lv_iload_n hx hb dX4_giveWords_191 rfl (lv_at hl 4 rfl) ?_
                      refine k_goR (W.runV (As := [.int (nI i)]) (rest := [.int (nI 2)]) ⟨hx, hb, hml, hown, hts⟩ (c_X4_sides l g cI cJ cZ rm a1 a2 a3 a4 a5 a6 a7 a8 a9 b1 b2 b3 b4 b5 b6 b7 b8 b9 cd tp (((lvs sp 1).length) + 1) bl (jn + ((lvs sp0 1).length - (lvs (gS1 S (cls tp L R) rq w sp0) 1).length)) (sn + d) wt wm wg wo wd nd1 i pp_4 (by rw [hs1 i (by omega)]; exact pp_5)) (cwV 1 hts gX4_giveWords_X4_sides rfl rfl rfl (by decide +kernel) ⟨Nat.le_of_ble_eq_true rfl, Nat.le_of_ble_eq_true rfl⟩) (k_preRV hk hP [0, 1] rfl (ci := 4) (q0 := 0) rfl rfl) rfl rfl hl.1 rfl (lv_room (Nat.le_of_ble_eq_true rfl)) dX4_giveWords_192 ⟨by first | exact Nat.zero_le _ | omega, by first | exact Nat.zero_le _ | omega⟩) ?_
                      refine n_top _ (nI (x % 2 ^ dep x)) (by rw [hs1 i (by omega), pp_10]) ?_
                      refine n_imul hx hb dX4_giveWords_195 ?_
                      refine lv_istore (lv' := [(11, .int (nI (2 * (x % 2 ^ dep x)))), (10, .int (nI ((dep x) + 1))), (9, .int (nI (adr tp S L R x))), (0, .ref rm), (1, .int (nI w)), (2, .int (nI i)), (3, .int (nI 1)), (5, .int (nI (L (cls tp L R x)))), (6, .int (nI (R (cls tp L R x)))), (7, .int (nI 0)), (8, .int (nI 1))]) hx hb dX4_giveWords_196 hl (by decide) rfl (fun ls hl => ?_)
                      refine lv_aload_n hx hb dX4_giveWords_198 rfl (lv_at hl 3 rfl) ?_
                      refine va_get (D := g) (ci := 4) (v := .ref b1) (C := RX4) (T := TX4) (N := 29) hx hb hts hinX4 hown hK hP 0 rfl rfl 12 (by decide) (hts (.fieldLink RX4 38 "BuddyRoofModel" "node" "[J") (by decide +kernel)) (fun _ h9 => h9) rfl dX4_giveWords_199 ?_
                      refine lv_iload_n hx hb dX4_giveWords_202 rfl (lv_at hl 5 rfl) ?_
                      refine lv_iload hx hb dX4_giveWords_203 (lv_at hl 2 rfl) ?_
                      refine lv_iconst (v := nI 0) hx hb dX4_giveWords_205 (by decide) ?_
                      refine lv_iload hx hb dX4_giveWords_206 (lv_at hl 7 rfl) ?_
                      refine lv_iload hx hb dX4_giveWords_208 (lv_at hl 1 rfl) ?_
                      refine lv_iload hx hb dX4_giveWords_210 (lv_at hl 0 rfl) ?_
                      refine k_goRl (W.runS (As := [.int (nI (adr tp S L R x)), .int (nI 0), .int (nI (L (cls tp L R x))), .int (nI ((dep x) + 1)), .int (nI (2 * (x % 2 ^ dep x)))]) (rest := [.int (nI i), .ref b1]) ⟨hx, hb, hml, hown, hts⟩ (c_X4_nodeOf l g cI cJ cZ  (adr tp S L R x) 0 (L (cls tp L R x)) (dep x + 1) (2 * (x % 2 ^ dep x)) (by omega) (by decide) (by omega) (by omega) (by omega)) (va_cwS 5 hts gX4_giveWords_X4_nodeOf rfl rfl rfl (by decide +kernel) ⟨Nat.le_of_ble_eq_true rfl, Nat.le_of_ble_eq_true rfl⟩) (k_preRS hk hP [] rfl) rfl rfl hl.1 rfl (lv_room (Nat.le_of_ble_eq_true rfl)) dX4_giveWords_212 ⟨by first | exact Nat.zero_le _ | omega, by first | exact Nat.zero_le _ | omega⟩) ?_
                      refine n_topl _ (lN (wrd tp S L R rq (2 * x))) (by rw [hwa]) ?_
                      refine n_lastM hx hb hK hP hD hS 1 1 rfl rfl (i := i) (v := (wrd tp S L R rq (2 * x))) (by omega) (by decide) dX4_giveWords_215 (fun H locs hP hD hS => ?_)
                      have hP : va_P g vwCl [(rm, .inr (4, [.int (nI cd), .ref a1, .ref a2, .ref a3, .ref a4, .ref a5, .ref a6, .ref a7, .ref a8, .ref a9, .int (nI tp), .int (nI (((lvs sp 1).length) + 1)), .ref b1, .int (nI bl), .ref b2, .ref b3, .int (nI (jn + ((lvs sp0 1).length - (lvs (gS1 S (cls tp L R) rq w sp0) 1).length))), .int (nI (sn + d)), .ref b4, .ref b5, .ref b6, .ref b7, .ref b8, .int (nI wt), .int (nI wm), .int (nI wg), .long (lN wo), .int (nI wd), .ref b9])), (b1, .inl (cJ, 14000, .inr (.inl (fun j => lN ((upN nd1 i (wrd tp S L R rq (2 * x))) j))))), (a4, .inl (cI, 25, .inl sz)), (a5, .inl (cI, 25, .inl lf)), (a6, .inl (cI, 25, .inl rt)), (b2, .inl (cI, 256, .inl (fun j => nI (ba j)))), (b3, .inl (cI, 256, .inl (fun j => nI (rv j))))] H := hP
                      have hD : va_D A [(rm, .inr (4, [.int (nI cd), .ref a1, .ref a2, .ref a3, .ref a4, .ref a5, .ref a6, .ref a7, .ref a8, .ref a9, .int (nI tp), .int (nI (((lvs sp 1).length) + 1)), .ref b1, .int (nI bl), .ref b2, .ref b3, .int (nI (jn + ((lvs sp0 1).length - (lvs (gS1 S (cls tp L R) rq w sp0) 1).length))), .int (nI (sn + d)), .ref b4, .ref b5, .ref b6, .ref b7, .ref b8, .int (nI wt), .int (nI wm), .int (nI wg), .long (lN wo), .int (nI wd), .ref b9])), (b1, .inl (cJ, 14000, .inr (.inl (fun j => lN ((upN nd1 i (wrd tp S L R rq (2 * x))) j))))), (a4, .inl (cI, 25, .inl sz)), (a5, .inl (cI, 25, .inl lf)), (a6, .inl (cI, 25, .inl rt)), (b2, .inl (cI, 256, .inl (fun j => nI (ba j)))), (b3, .inl (cI, 256, .inl (fun j => nI (rv j))))] := hD
                      refine lv_aload_n hx hb dX4_giveWords_216 rfl (lv_at hl 3 rfl) ?_
                      refine va_get (D := g) (ci := 4) (v := .ref b1) (C := RX4) (T := TX4) (N := 29) hx hb hts hinX4 hown hK hP 0 rfl rfl 12 (by decide) (hts (.fieldLink RX4 38 "BuddyRoofModel" "node" "[J") (by decide +kernel)) (fun _ h9 => h9) rfl dX4_giveWords_217 ?_
                      refine lv_iload_n hx hb dX4_giveWords_220 rfl (lv_at hl 5 rfl) ?_
                      refine lv_iconst (v := nI 1) hx hb dX4_giveWords_221 (by decide) ?_
                      refine n_iadd hx hb dX4_giveWords_222 ?_
                      refine lv_iload hx hb dX4_giveWords_223 (lv_at hl 2 rfl) ?_
                      refine lv_aload_n hx hb dX4_giveWords_225 rfl (lv_at hl 3 rfl) ?_
                      refine va_get (D := g) (ci := 4) (v := .ref a4) (C := RX4) (T := TX4) (N := 29) hx hb hts hinX4 hown hK hP 0 rfl rfl 4 (by decide) (hts (.fieldLink RX4 19 "BuddyRoofModel" "sizes" "[I") (by decide +kernel)) (fun _ h9 => h9) rfl dX4_giveWords_226 ?_
                      refine lv_iload hx hb dX4_giveWords_229 (lv_at hl 7 rfl) ?_
                      refine n_ald (v := nI (S (L (cls tp L R x)))) hx hb hK hP 2 0 rfl rfl (i := (L (cls tp L R x))) (by omega) (by decide) (by exact hrk.2.2.2.1) dX4_giveWords_231 ?_
                      refine n_iadd hx hb dX4_giveWords_232 ?_
                      refine lv_iconst (v := nI 0) hx hb dX4_giveWords_233 (by decide) ?_
                      refine lv_iload hx hb dX4_giveWords_234 (lv_at hl 8 rfl) ?_
                      refine lv_iload hx hb dX4_giveWords_236 (lv_at hl 1 rfl) ?_
                      refine lv_iload hx hb dX4_giveWords_238 (lv_at hl 0 rfl) ?_
                      refine lv_iconst (v := nI 1) hx hb dX4_giveWords_240 (by decide) ?_
                      refine n_iadd hx hb dX4_giveWords_241 ?_
                      refine k_goRl (W.runS (As := [.int (nI ((adr tp S L R x) + (S (L (cls tp L R x))))), .int (nI 0), .int (nI (R (cls tp L R x))), .int (nI ((dep x) + 1)), .int (nI ((2 * (x % 2 ^ dep x)) + 1))]) (rest := [.int (nI (i + 1)), .ref b1]) ⟨hx, hb, hml, hown, hts⟩ (c_X4_nodeOf l g cI cJ cZ  (adr tp S L R x + S (L (cls tp L R x))) 0 (R (cls tp L R x)) (dep x + 1) (2 * (x % 2 ^ dep x) + 1) (by omega) (by decide) (by omega) (by omega) (by omega)) (va_cwS 5 hts gX4_giveWords_X4_nodeOf rfl rfl rfl (by decide +kernel) ⟨Nat.le_of_ble_eq_true rfl, Nat.le_of_ble_eq_true rfl⟩) (k_preRS hk hP [] rfl) rfl rfl hl.1 rfl (lv_room (Nat.le_of_ble_eq_true rfl)) dX4_giveWords_242 ⟨by first | exact Nat.zero_le _ | omega, by first | exact Nat.zero_le _ | omega⟩) ?_
                      refine n_topl _ (lN (wrd tp S L R rq (2 * x + 1))) (by rw [hwb]) ?_
                      refine n_lastM hx hb hK hP hD hS 1 1 rfl rfl (i := (i + 1)) (v := (wrd tp S L R rq (2 * x + 1))) (by omega) (by decide) dX4_giveWords_245 (fun H locs hP hD hS => ?_)
                      have hP : va_P g vwCl [(rm, .inr (4, [.int (nI cd), .ref a1, .ref a2, .ref a3, .ref a4, .ref a5, .ref a6, .ref a7, .ref a8, .ref a9, .int (nI tp), .int (nI (((lvs sp 1).length) + 1)), .ref b1, .int (nI bl), .ref b2, .ref b3, .int (nI (jn + ((lvs sp0 1).length - (lvs (gS1 S (cls tp L R) rq w sp0) 1).length))), .int (nI (sn + d)), .ref b4, .ref b5, .ref b6, .ref b7, .ref b8, .int (nI wt), .int (nI wm), .int (nI wg), .long (lN wo), .int (nI wd), .ref b9])), (b1, .inl (cJ, 14000, .inr (.inl (fun j => lN ((upN (upN nd1 i (wrd tp S L R rq (2 * x))) (i + 1) (wrd tp S L R rq (2 * x + 1))) j))))), (a4, .inl (cI, 25, .inl sz)), (a5, .inl (cI, 25, .inl lf)), (a6, .inl (cI, 25, .inl rt)), (b2, .inl (cI, 256, .inl (fun j => nI (ba j)))), (b3, .inl (cI, 256, .inl (fun j => nI (rv j))))] H := hP
                      have hD : va_D A [(rm, .inr (4, [.int (nI cd), .ref a1, .ref a2, .ref a3, .ref a4, .ref a5, .ref a6, .ref a7, .ref a8, .ref a9, .int (nI tp), .int (nI (((lvs sp 1).length) + 1)), .ref b1, .int (nI bl), .ref b2, .ref b3, .int (nI (jn + ((lvs sp0 1).length - (lvs (gS1 S (cls tp L R) rq w sp0) 1).length))), .int (nI (sn + d)), .ref b4, .ref b5, .ref b6, .ref b7, .ref b8, .int (nI wt), .int (nI wm), .int (nI wg), .long (lN wo), .int (nI wd), .ref b9])), (b1, .inl (cJ, 14000, .inr (.inl (fun j => lN ((upN (upN nd1 i (wrd tp S L R rq (2 * x))) (i + 1) (wrd tp S L R rq (2 * x + 1))) j))))), (a4, .inl (cI, 25, .inl sz)), (a5, .inl (cI, 25, .inl lf)), (a6, .inl (cI, 25, .inl rt)), (b2, .inl (cI, 256, .inl (fun j => nI (ba j)))), (b3, .inl (cI, 256, .inl (fun j => nI (rv j))))] := hD
                      refine lv_aload_n hx hb dX4_giveWords_246 rfl (lv_at hl 3 rfl) ?_
                      refine lv_dup hx hb dX4_giveWords_247 rfl ?_
                      refine va_get (D := g) (ci := 4) (v := .int (nI (sn + d))) (C := RX4) (T := TX4) (N := 29) hx hb hts hinX4 hown hK hP 0 rfl rfl 17 (by decide) (hts (.fieldLink RX4 109 "BuddyRoofModel" "splits" "I") (by decide +kernel)) (fun _ h9 => h9) rfl dX4_giveWords_248 ?_
                      refine lv_iconst (v := nI 1) hx hb dX4_giveWords_251 (by decide) ?_
                      refine n_iadd hx hb dX4_giveWords_252 ?_
                      refine va_put (D := g) (ci := 4) (v := .int (nI ((sn + d) + 1))) (ty := .int) (C := RX4) (T := TX4) (N := 29) hx hb hts hinX4 tyX4 tyX4_ok nmX4 hown hK hP hD hS 0 rfl rfl 17 (by decide) (hts (.fieldLink RX4 109 "BuddyRoofModel" "splits" "I") (by decide +kernel)) (fun _ h9 => h9) rfl (by decide +kernel) rfl rfl (Nat.le_of_ble_eq_true rfl) dX4_giveWords_253 (fun H locs hP hD hS => ?_)
                      have hP : va_P g vwCl [(rm, .inr (4, [.int (nI cd), .ref a1, .ref a2, .ref a3, .ref a4, .ref a5, .ref a6, .ref a7, .ref a8, .ref a9, .int (nI tp), .int (nI (((lvs sp 1).length) + 1)), .ref b1, .int (nI bl), .ref b2, .ref b3, .int (nI (jn + ((lvs sp0 1).length - (lvs (gS1 S (cls tp L R) rq w sp0) 1).length))), .int (nI ((sn + d) + 1)), .ref b4, .ref b5, .ref b6, .ref b7, .ref b8, .int (nI wt), .int (nI wm), .int (nI wg), .long (lN wo), .int (nI wd), .ref b9])), (b1, .inl (cJ, 14000, .inr (.inl (fun j => lN ((upN (upN nd1 i (wrd tp S L R rq (2 * x))) (i + 1) (wrd tp S L R rq (2 * x + 1))) j))))), (a4, .inl (cI, 25, .inl sz)), (a5, .inl (cI, 25, .inl lf)), (a6, .inl (cI, 25, .inl rt)), (b2, .inl (cI, 256, .inl (fun j => nI (ba j)))), (b3, .inl (cI, 256, .inl (fun j => nI (rv j))))] H := hP
                      have hD : va_D A [(rm, .inr (4, [.int (nI cd), .ref a1, .ref a2, .ref a3, .ref a4, .ref a5, .ref a6, .ref a7, .ref a8, .ref a9, .int (nI tp), .int (nI (((lvs sp 1).length) + 1)), .ref b1, .int (nI bl), .ref b2, .ref b3, .int (nI (jn + ((lvs sp0 1).length - (lvs (gS1 S (cls tp L R) rq w sp0) 1).length))), .int (nI ((sn + d) + 1)), .ref b4, .ref b5, .ref b6, .ref b7, .ref b8, .int (nI wt), .int (nI wm), .int (nI wg), .long (lN wo), .int (nI wd), .ref b9])), (b1, .inl (cJ, 14000, .inr (.inl (fun j => lN ((upN (upN nd1 i (wrd tp S L R rq (2 * x))) (i + 1) (wrd tp S L R rq (2 * x + 1))) j))))), (a4, .inl (cI, 25, .inl sz)), (a5, .inl (cI, 25, .inl lf)), (a6, .inl (cI, 25, .inl rt)), (b2, .inl (cI, 256, .inl (fun j => nI (ba j)))), (b3, .inl (cI, 256, .inl (fun j => nI (rv j))))] := hD
                      refine lv_iload hx hb dX4_giveWords_256 (lv_at hl 9 rfl) ?_
                      refine n_if_eq (tgt := 283) hx hb dX4_giveWords_258 (by decide) (by first | assumption | omega) (fun c52 => ?_) (fun c52 => ?_)
                      · skip
                        refine lv_iinc (v := nI (i + 1)) (lv' := [(2, .int (nI (i + 1))), (11, .int (nI (2 * (x % 2 ^ dep x)))), (10, .int (nI ((dep x) + 1))), (9, .int (nI (adr tp S L R x))), (0, .ref rm), (1, .int (nI w)), (3, .int (nI 1)), (5, .int (nI (L (cls tp L R x)))), (6, .int (nI (R (cls tp L R x)))), (7, .int (nI 0)), (8, .int (nI 1))]) hx hb dX4_giveWords_283 hl (k := 5) rfl (n_inc _ 1) (by decide) rfl (fun ls hl => ?_)
                        refine lv_goto (tgt := 29) hx hb dX4_giveWords_286 (by decide) ?_
                        rw [← hln] at hP hD
                        exact ih (i + 1) (2 * x + 1) (d + 1) (k - 1) (upB sp x true) (upN (upN nd1 i (wrd tp S L R rq (2 * x))) (i + 1) (wrd tp S L R rq (2 * x + 1))) (by omega) (by omega) (by rw [dep_o hx1]; omega) hT2 (by
      rw [hsl]
      refine nW_split (x := x) (by rw [← hd1]; exact hW) (fun j q1 => ?_) ?_ ?_ (fun j q1 q2 => ?_)
      · rw [upN_n _ _ (by omega), upN_n _ _ (by omega)]; exact hs1 j (by omega)
      · rw [hd2, upN_n _ _ (by omega), upN_s]
      · rw [hd2, upN_s]
      · rw [upN_n _ _ (by omega), upN_n _ _ (by omega)]; exact hs2 j (by omega) (by have q3 : (lvs sp 1).length = _ := congrArg List.length hd1; rw [List.length_append, List.length_cons] at q3; omega)) (by rw [hsl]; exact (by rw [List.getElem?_append_right (by omega), hd2, show i + 1 - i = 1 by omega]; rfl)) ((rq_kids hT hx1 hls).2) (by rw [if_neg (by rw [(show cvL S L R w (cls tp L R x) = false by unfold cvL; rw [decide_eq_false_iff_not]; omega)]; decide)] at hZ3; exact hZ3) _ _ hP hD hS ls (lv_sub hl [4, 5, 0, 6] rfl)
                      · exact (by exact absurd c52 (by decide))
                  · exact (by exact absurd c51 (by decide))
        · skip
          refine lv_iconst (v := nI 1) hx hb dX4_giveWords_74 (by decide) ?_
          refine lv_goto (tgt := 79) hx hb dX4_giveWords_75 (by decide) ?_
          refine lv_istore (lv' := [(7, .int (nI 1)), (6, .int (nI (R (cls tp L R x)))), (5, .int (nI (L (cls tp L R x)))), (4, .int (nI (cls tp L R x))), (0, .ref rm), (1, .int (nI w)), (2, .int (nI i)), (3, .int (nI 1))]) hx hb dX4_giveWords_79 hl (by decide) rfl (fun ls hl => ?_)
          refine lv_iload hx hb dX4_giveWords_81 (lv_at hl 2 rfl) ?_
          refine n_if_le (tgt := 101) hx hb dX4_giveWords_83 (by decide) (by first | assumption | omega) (fun c53 => ?_) (fun c53 => ?_)
          · exact (by exfalso; omega)
          · skip
            refine lv_aload_n hx hb dX4_giveWords_86 rfl (lv_at hl 4 rfl) ?_
            refine va_get (D := g) (ci := 4) (v := .ref a4) (C := RX4) (T := TX4) (N := 29) hx hb hts hinX4 hown hK hP 0 rfl rfl 4 (by decide) (hts (.fieldLink RX4 19 "BuddyRoofModel" "sizes" "[I") (by decide +kernel)) (fun _ h9 => h9) rfl dX4_giveWords_87 ?_
            refine lv_iload hx hb dX4_giveWords_90 (lv_at hl 1 rfl) ?_
            refine n_ald (v := nI (S (R (cls tp L R x)))) hx hb hK hP 2 0 rfl rfl (i := (R (cls tp L R x))) (by omega) (by decide) (by exact hrk.2.2.2.2.1) dX4_giveWords_92 ?_
            refine lv_iload_n hx hb dX4_giveWords_93 rfl (lv_at hl 5 rfl) ?_
            refine n_icmp_lt (tgt := 101) hx hb dX4_giveWords_94 (by decide) (by first | assumption | omega) (by first | assumption | omega) (fun c54 => ?_) (fun c54 => ?_)
            · skip
              refine lv_iconst (v := nI 0) hx hb dX4_giveWords_101 (by decide) ?_
              refine lv_istore (lv' := [(8, .int (nI 0)), (7, .int (nI 1)), (6, .int (nI (R (cls tp L R x)))), (5, .int (nI (L (cls tp L R x)))), (4, .int (nI (cls tp L R x))), (0, .ref rm), (1, .int (nI w)), (2, .int (nI i)), (3, .int (nI 1))]) hx hb dX4_giveWords_102 hl (by decide) rfl (fun ls hl => ?_)
              refine lv_iload hx hb dX4_giveWords_104 (lv_at hl 1 rfl) ?_
              refine n_if_ne (tgt := 114) hx hb dX4_giveWords_106 (by decide) (by first | assumption | omega) (fun c55 => ?_) (fun c55 => ?_)
              · skip
                refine lv_iconst (v := nI 1) hx hb dX4_giveWords_114 (by decide) ?_
                refine lv_goto (tgt := 119) hx hb dX4_giveWords_115 (by decide) ?_
                refine lv_istore_n (lv' := [(3, .int (nI 1)), (8, .int (nI 0)), (7, .int (nI 1)), (6, .int (nI (R (cls tp L R x)))), (5, .int (nI (L (cls tp L R x)))), (4, .int (nI (cls tp L R x))), (0, .ref rm), (1, .int (nI w)), (2, .int (nI i))]) hx hb dX4_giveWords_119 rfl hl (by decide) rfl (fun ls hl => ?_)
                refine lv_iload_n hx hb dX4_giveWords_120 rfl (lv_at hl 0 rfl) ?_
                refine n_if_ne (tgt := 127) hx hb dX4_giveWords_121 (by decide) (by first | assumption | omega) (fun c56 => ?_) (fun c56 => ?_)
                · skip
                  have hho : w ≤ S (L (cls tp L R x)) ∨ w ≤ S (R (cls tp L R x)) := by omega
                  have hL9 := holds_L hR hck.1 hw1 hho
                  have hT2 := TOK_split hR hT hlx hls hrx hL9
                  have hln := len_split hR hT hlx hls hrx hL9
                  have hk0 : 0 < k := by omega
                  have hZ2 := mDes_b hZ (decide_eq_false (fun q => q hho)) hk0 rfl
                  have hx1 := ex_pos hlx
                  have hok2 := aCv_ok hR hw1 (k - 1) (upB sp x true) (if cvL S L R w (cls tp L R x) then 2 * x else 2 * x + 1) (d + 1) hT2 (cv_go hlx hls).1 (cv_go2 hT hlx hls).1 (cv_go2 hT hlx hls).2
                  have hZ3 : aCv S L R (cls tp L R) w (k - 1) (upB sp x true, if cvL S L R w (cls tp L R x) then 2 * x else 2 * x + 1, d + 1) = rr := hZ2
                  rw [hZ3] at hok2
                  have hlt9 : (lvs sp 1).length < 14000 := by have := hok2.2.2.2.2.2.1; have := hok2.2.2.2.2.2.2.1; omega
                  have hd := dec_at hix
                  obtain ⟨hd1, hd2⟩ := hd
                  have hsl := lvs_split_at hR hT hlx hls hrx hL9 hd1
                  have hsk := sid_kid hx1
                  have hsb := sid_b hR hT hlx
                  have hde := dep_e hx1
                  have hdo := dep_o hx1
                  have hca := adr_lt hR hT hlx
                  have hae := adr_e (top := tp) (S := S) (L := L) (R := R) hx1
                  have hao := adr_o (top := tp) (S := S) (L := L) (R := R) hx1
                  have hce := cls_e (top := tp) (L := L) (R := R) hx1
                  have hco := cls_o (top := tp) (L := L) (R := R) hx1
                  have hkq := rq_kids hT hx1 hls
                  have hxk1 : ex (upB sp x true) (2 * x) := (ex_split hx1 hls).mpr (Or.inr (Or.inl rfl))
                  have hxk2 : ex (upB sp x true) (2 * x + 1) := (ex_split hx1 hls).mpr (Or.inr (Or.inr rfl))
                  have hc1 := cls_ok hR hT2 hxk1
                  have hc2 := cls_ok hR hT2 hxk2
                  have hl1 := adr_lt hR hT2 hxk1
                  have hl2 := adr_lt hR hT2 hxk2
                  have hp1 := sid_b hR hT2 hxk1
                  have hp2 := sid_b hR hT2 hxk2
                  rw [hce] at hc1
                  rw [hco] at hc2
                  rw [hao] at hl2
                  have hwa : enc (adr tp S L R x) 0 (L (cls tp L R x)) (dep x + 1) (2 * (x % 2 ^ dep x)) = wrd tp S L R rq (2 * x) := by unfold wrd; rw [hkq.1, if_neg (by decide), hae, hce, hsk.1, hde]
                  have hwb : enc (adr tp S L R x + S (L (cls tp L R x))) 0 (R (cls tp L R x)) (dep x + 1) (2 * (x % 2 ^ dep x) + 1) = wrd tp S L R rq (2 * x + 1) := by unfold wrd; rw [hkq.2, if_neg (by decide), hao, hco, hsk.2, hdo]
                  refine lv_aload_n hx hb dX4_giveWords_127 rfl (lv_at hl 6 rfl) ?_
                  refine va_get (D := g) (ci := 4) (v := .int (nI ((lvs sp 1).length))) (C := RX4) (T := TX4) (N := 29) hx hb hts hinX4 hown hK hP 0 rfl rfl 11 (by decide) (hts (.fieldLink RX4 96 "BuddyRoofModel" "many" "I") (by decide +kernel)) (fun _ h9 => h9) rfl dX4_giveWords_128 ?_
                  refine lv_istore (lv' := [(9, .int (nI ((lvs sp 1).length))), (3, .int (nI 1)), (8, .int (nI 0)), (7, .int (nI 1)), (6, .int (nI (R (cls tp L R x)))), (5, .int (nI (L (cls tp L R x)))), (4, .int (nI (cls tp L R x))), (0, .ref rm), (1, .int (nI w)), (2, .int (nI i))]) hx hb dX4_giveWords_131 hl (by decide) rfl (fun ls hl => ?_)
                  refine lp_X4_giveWords_133 l g cI cJ cZ rm a1 a2 a3 a4 a5 a6 a7 a8 a9 b1 b2 b3 b4 b5 b6 b7 b8 b9 cd tp bl jn sn wt wm wg wo wd sz lf rt S L R rc sp0 rq nd0 ba rv w hR hT0 hW0 hlen0 hrl hw1 hw hgb hfin hbl i x d 1 0 sp nd hi9 (by omega) ⟨hx, hb, hr, hml, hown, hts, hlocks⟩ hk hA (fun nd1 hs1 hs2 H locs hP hD hS ls hl => ?_) _ ((lvs sp 1).length) nd (Nat.lt_succ_self _) (by omega) (fun j _ => rfl) (fun j q1 q2 => by omega) _ _ hP hD hS ls (lv_sub hl [7, 8, 9, 1, 5, 4, 3, 2, 0] rfl)
                  · skip
                    refine lv_aload_n hx hb dX4_giveWords_163 rfl (lv_at hl 0 rfl) ?_
                    refine lv_dup hx hb dX4_giveWords_164 rfl ?_
                    refine va_get (D := g) (ci := 4) (v := .int (nI ((lvs sp 1).length))) (C := RX4) (T := TX4) (N := 29) hx hb hts hinX4 hown hK hP 0 rfl rfl 11 (by decide) (hts (.fieldLink RX4 96 "BuddyRoofModel" "many" "I") (by decide +kernel)) (fun _ h9 => h9) rfl dX4_giveWords_165 ?_
                    refine lv_iconst (v := nI 1) hx hb dX4_giveWords_168 (by decide) ?_
                    refine n_iadd hx hb dX4_giveWords_169 ?_
                    refine va_put (D := g) (ci := 4) (v := .int (nI (((lvs sp 1).length) + 1))) (ty := .int) (C := RX4) (T := TX4) (N := 29) hx hb hts hinX4 tyX4 tyX4_ok nmX4 hown hK hP hD hS 0 rfl rfl 11 (by decide) (hts (.fieldLink RX4 96 "BuddyRoofModel" "many" "I") (by decide +kernel)) (fun _ h9 => h9) rfl (by decide +kernel) rfl rfl (Nat.le_of_ble_eq_true rfl) dX4_giveWords_170 (fun H locs hP hD hS => ?_)
                    have hP : va_P g vwCl [(rm, .inr (4, [.int (nI cd), .ref a1, .ref a2, .ref a3, .ref a4, .ref a5, .ref a6, .ref a7, .ref a8, .ref a9, .int (nI tp), .int (nI (((lvs sp 1).length) + 1)), .ref b1, .int (nI bl), .ref b2, .ref b3, .int (nI (jn + ((lvs sp0 1).length - (lvs (gS1 S (cls tp L R) rq w sp0) 1).length))), .int (nI (sn + d)), .ref b4, .ref b5, .ref b6, .ref b7, .ref b8, .int (nI wt), .int (nI wm), .int (nI wg), .long (lN wo), .int (nI wd), .ref b9])), (b1, .inl (cJ, 14000, .inr (.inl (fun j => lN (nd1 j))))), (a4, .inl (cI, 25, .inl sz)), (a5, .inl (cI, 25, .inl lf)), (a6, .inl (cI, 25, .inl rt)), (b2, .inl (cI, 256, .inl (fun j => nI (ba j)))), (b3, .inl (cI, 256, .inl (fun j => nI (rv j))))] H := hP
                    have hD : va_D A [(rm, .inr (4, [.int (nI cd), .ref a1, .ref a2, .ref a3, .ref a4, .ref a5, .ref a6, .ref a7, .ref a8, .ref a9, .int (nI tp), .int (nI (((lvs sp 1).length) + 1)), .ref b1, .int (nI bl), .ref b2, .ref b3, .int (nI (jn + ((lvs sp0 1).length - (lvs (gS1 S (cls tp L R) rq w sp0) 1).length))), .int (nI (sn + d)), .ref b4, .ref b5, .ref b6, .ref b7, .ref b8, .int (nI wt), .int (nI wm), .int (nI wg), .long (lN wo), .int (nI wd), .ref b9])), (b1, .inl (cJ, 14000, .inr (.inl (fun j => lN (nd1 j))))), (a4, .inl (cI, 25, .inl sz)), (a5, .inl (cI, 25, .inl lf)), (a6, .inl (cI, 25, .inl rt)), (b2, .inl (cI, 256, .inl (fun j => nI (ba j)))), (b3, .inl (cI, 256, .inl (fun j => nI (rv j))))] := hD
                    refine lv_aload_n hx hb dX4_giveWords_173 rfl (lv_at hl 0 rfl) ?_
                    refine lv_iload_n hx hb dX4_giveWords_174 rfl (lv_at hl 2 rfl) ?_
                    refine k_goR (W.runV (As := [.int (nI i)]) (rest := []) ⟨hx, hb, hml, hown, hts⟩ (c_X4_address l g cI cJ cZ rm a1 a2 a3 a4 a5 a6 a7 a8 a9 b1 b2 b3 b4 b5 b6 b7 b8 b9 cd tp (((lvs sp 1).length) + 1) bl (jn + ((lvs sp0 1).length - (lvs (gS1 S (cls tp L R) rq w sp0) 1).length)) (sn + d) wt wm wg wo wd nd1 i pp_4 (by rw [hs1 i (by omega)]; exact pp_5)) (cwV 1 hts gX4_giveWords_X4_address rfl rfl rfl (by decide +kernel) ⟨Nat.le_of_ble_eq_true rfl, Nat.le_of_ble_eq_true rfl⟩) (k_preRV hk hP [0, 1] rfl (ci := 4) (q0 := 0) rfl rfl) rfl rfl hl.1 rfl (lv_room (Nat.le_of_ble_eq_true rfl)) dX4_giveWords_175 ⟨by first | exact Nat.zero_le _ | omega, by first | exact Nat.zero_le _ | omega⟩) ?_
                    refine n_top _ (nI (adr tp S L R x)) (by rw [hs1 i (by omega), pp_6]) ?_
                    refine lv_istore (lv' := [(9, .int (nI (adr tp S L R x))), (0, .ref rm), (1, .int (nI w)), (2, .int (nI i)), (3, .int (nI 1)), (5, .int (nI (L (cls tp L R x)))), (6, .int (nI (R (cls tp L R x)))), (7, .int (nI 1)), (8, .int (nI 0))]) hx hb dX4_giveWords_178 hl (by decide) rfl (fun ls hl => ?_)
                    refine lv_aload_n hx hb dX4_giveWords_180 rfl (lv_at hl 1 rfl) ?_
                    refine lv_iload_n hx hb dX4_giveWords_181 rfl (lv_at hl 3 rfl) ?_
                    refine k_goR (W.runV (As := [.int (nI i)]) (rest := []) ⟨hx, hb, hml, hown, hts⟩ (c_X4_depth l g cI cJ cZ rm a1 a2 a3 a4 a5 a6 a7 a8 a9 b1 b2 b3 b4 b5 b6 b7 b8 b9 cd tp (((lvs sp 1).length) + 1) bl (jn + ((lvs sp0 1).length - (lvs (gS1 S (cls tp L R) rq w sp0) 1).length)) (sn + d) wt wm wg wo wd nd1 i pp_4 (by rw [hs1 i (by omega)]; exact pp_5)) (cwV 1 hts gX4_giveWords_X4_depth rfl rfl rfl (by decide +kernel) ⟨Nat.le_of_ble_eq_true rfl, Nat.le_of_ble_eq_true rfl⟩) (k_preRV hk hP [0, 1] rfl (ci := 4) (q0 := 0) rfl rfl) rfl rfl hl.1 rfl (lv_room (Nat.le_of_ble_eq_true rfl)) dX4_giveWords_182 ⟨by first | exact Nat.zero_le _ | omega, by first | exact Nat.zero_le _ | omega⟩) ?_
                    refine n_top _ (nI (dep x)) (by rw [hs1 i (by omega), pp_9]) ?_
                    refine lv_iconst (v := nI 1) hx hb dX4_giveWords_185 (by decide) ?_
                    refine n_iadd hx hb dX4_giveWords_186 ?_
                    refine lv_istore (lv' := [(10, .int (nI ((dep x) + 1))), (9, .int (nI (adr tp S L R x))), (0, .ref rm), (1, .int (nI w)), (2, .int (nI i)), (3, .int (nI 1)), (5, .int (nI (L (cls tp L R x)))), (6, .int (nI (R (cls tp L R x)))), (7, .int (nI 1)), (8, .int (nI 0))]) hx hb dX4_giveWords_187 hl (by decide) rfl (fun ls hl => ?_)
                    refine lv_iconst (v := nI 2) hx hb dX4_giveWords_189 (by decide) ?_
                    refine lv_aload_n hx hb dX4_giveWords_190 rfl (lv_at hl 2 rfl) ?_
                    refine lv_iload_n hx hb dX4_giveWords_191 rfl (lv_at hl 4 rfl) ?_
                    refine k_goR (W.runV (As := [.int (nI i)]) (rest := [.int (nI 2)]) ⟨hx, hb, hml, hown, hts⟩ (c_X4_sides l g cI cJ cZ rm a1 a2 a3 a4 a5 a6 a7 a8 a9 b1 b2 b3 b4 b5 b6 b7 b8 b9 cd tp (((lvs sp 1).length) + 1) bl (jn + ((lvs sp0 1).length - (lvs (gS1 S (cls tp L R) rq w sp0) 1).length)) (sn + d) wt wm wg wo wd nd1 i pp_4 (by rw [hs1 i (by omega)]; exact pp_5)) (cwV 1 hts gX4_giveWords_X4_sides rfl rfl rfl (by decide +kernel) ⟨Nat.le_of_ble_eq_true rfl, Nat.le_of_ble_eq_true rfl⟩) (k_preRV hk hP [0, 1] rfl (ci := 4) (q0 := 0) rfl rfl) rfl rfl hl.1 rfl (lv_room (Nat.le_of_ble_eq_true rfl)) dX4_giveWords_192 ⟨by first | exact Nat.zero_le _ | omega, by first | exact Nat.zero_le _ | omega⟩) ?_
                    refine n_top _ (nI (x % 2 ^ dep x)) (by rw [hs1 i (by omega), pp_10]) ?_
                    refine n_imul hx hb dX4_giveWords_195 ?_
                    refine lv_istore (lv' := [(11, .int (nI (2 * (x % 2 ^ dep x)))), (10, .int (nI ((dep x) + 1))), (9, .int (nI (adr tp S L R x))), (0, .ref rm), (1, .int (nI w)), (2, .int (nI i)), (3, .int (nI 1)), (5, .int (nI (L (cls tp L R x)))), (6, .int (nI (R (cls tp L R x)))), (7, .int (nI 1)), (8, .int (nI 0))]) hx hb dX4_giveWords_196 hl (by decide) rfl (fun ls hl => ?_)
                    refine lv_aload_n hx hb dX4_giveWords_198 rfl (lv_at hl 3 rfl) ?_
                    refine va_get (D := g) (ci := 4) (v := .ref b1) (C := RX4) (T := TX4) (N := 29) hx hb hts hinX4 hown hK hP 0 rfl rfl 12 (by decide) (hts (.fieldLink RX4 38 "BuddyRoofModel" "node" "[J") (by decide +kernel)) (fun _ h9 => h9) rfl dX4_giveWords_199 ?_
                    refine lv_iload_n hx hb dX4_giveWords_202 rfl (lv_at hl 5 rfl) ?_
                    refine lv_iload hx hb dX4_giveWords_203 (lv_at hl 2 rfl) ?_
                    refine lv_iconst (v := nI 0) hx hb dX4_giveWords_205 (by decide) ?_
                    refine lv_iload hx hb dX4_giveWords_206 (lv_at hl 7 rfl) ?_
                    refine lv_iload hx hb dX4_giveWords_208 (lv_at hl 1 rfl) ?_
                    refine lv_iload hx hb dX4_giveWords_210 (lv_at hl 0 rfl) ?_
                    refine k_goRl (W.runS (As := [.int (nI (adr tp S L R x)), .int (nI 0), .int (nI (L (cls tp L R x))), .int (nI ((dep x) + 1)), .int (nI (2 * (x % 2 ^ dep x)))]) (rest := [.int (nI i), .ref b1]) ⟨hx, hb, hml, hown, hts⟩ (c_X4_nodeOf l g cI cJ cZ  (adr tp S L R x) 0 (L (cls tp L R x)) (dep x + 1) (2 * (x % 2 ^ dep x)) (by omega) (by decide) (by omega) (by omega) (by omega)) (va_cwS 5 hts gX4_giveWords_X4_nodeOf rfl rfl rfl (by decide +kernel) ⟨Nat.le_of_ble_eq_true rfl, Nat.le_of_ble_eq_true rfl⟩) (k_preRS hk hP [] rfl) rfl rfl hl.1 rfl (lv_room (Nat.le_of_ble_eq_true rfl)) dX4_giveWords_212 ⟨by first | exact Nat.zero_le _ | omega, by first | exact Nat.zero_le _ | omega⟩) ?_
                    refine n_topl _ (lN (wrd tp S L R rq (2 * x))) (by rw [hwa]) ?_
                    refine n_lastM hx hb hK hP hD hS 1 1 rfl rfl (i := i) (v := (wrd tp S L R rq (2 * x))) (by omega) (by decide) dX4_giveWords_215 (fun H locs hP hD hS => ?_)
                    have hP : va_P g vwCl [(rm, .inr (4, [.int (nI cd), .ref a1, .ref a2, .ref a3, .ref a4, .ref a5, .ref a6, .ref a7, .ref a8, .ref a9, .int (nI tp), .int (nI (((lvs sp 1).length) + 1)), .ref b1, .int (nI bl), .ref b2, .ref b3, .int (nI (jn + ((lvs sp0 1).length - (lvs (gS1 S (cls tp L R) rq w sp0) 1).length))), .int (nI (sn + d)), .ref b4, .ref b5, .ref b6, .ref b7, .ref b8, .int (nI wt), .int (nI wm), .int (nI wg), .long (lN wo), .int (nI wd), .ref b9])), (b1, .inl (cJ, 14000, .inr (.inl (fun j => lN ((upN nd1 i (wrd tp S L R rq (2 * x))) j))))), (a4, .inl (cI, 25, .inl sz)), (a5, .inl (cI, 25, .inl lf)), (a6, .inl (cI, 25, .inl rt)), (b2, .inl (cI, 256, .inl (fun j => nI (ba j)))), (b3, .inl (cI, 256, .inl (fun j => nI (rv j))))] H := hP
                    have hD : va_D A [(rm, .inr (4, [.int (nI cd), .ref a1, .ref a2, .ref a3, .ref a4, .ref a5, .ref a6, .ref a7, .ref a8, .ref a9, .int (nI tp), .int (nI (((lvs sp 1).length) + 1)), .ref b1, .int (nI bl), .ref b2, .ref b3, .int (nI (jn + ((lvs sp0 1).length - (lvs (gS1 S (cls tp L R) rq w sp0) 1).length))), .int (nI (sn + d)), .ref b4, .ref b5, .ref b6, .ref b7, .ref b8, .int (nI wt), .int (nI wm), .int (nI wg), .long (lN wo), .int (nI wd), .ref b9])), (b1, .inl (cJ, 14000, .inr (.inl (fun j => lN ((upN nd1 i (wrd tp S L R rq (2 * x))) j))))), (a4, .inl (cI, 25, .inl sz)), (a5, .inl (cI, 25, .inl lf)), (a6, .inl (cI, 25, .inl rt)), (b2, .inl (cI, 256, .inl (fun j => nI (ba j)))), (b3, .inl (cI, 256, .inl (fun j => nI (rv j))))] := hD
                    refine lv_aload_n hx hb dX4_giveWords_216 rfl (lv_at hl 3 rfl) ?_
                    refine va_get (D := g) (ci := 4) (v := .ref b1) (C := RX4) (T := TX4) (N := 29) hx hb hts hinX4 hown hK hP 0 rfl rfl 12 (by decide) (hts (.fieldLink RX4 38 "BuddyRoofModel" "node" "[J") (by decide +kernel)) (fun _ h9 => h9) rfl dX4_giveWords_217 ?_
                    refine lv_iload_n hx hb dX4_giveWords_220 rfl (lv_at hl 5 rfl) ?_
                    refine lv_iconst (v := nI 1) hx hb dX4_giveWords_221 (by decide) ?_
                    refine n_iadd hx hb dX4_giveWords_222 ?_
                    refine lv_iload hx hb dX4_giveWords_223 (lv_at hl 2 rfl) ?_
                    refine lv_aload_n hx hb dX4_giveWords_225 rfl (lv_at hl 3 rfl) ?_
                    refine va_get (D := g) (ci := 4) (v := .ref a4) (C := RX4) (T := TX4) (N := 29) hx hb hts hinX4 hown hK hP 0 rfl rfl 4 (by decide) (hts (.fieldLink RX4 19 "BuddyRoofModel" "sizes" "[I") (by decide +kernel)) (fun _ h9 => h9) rfl dX4_giveWords_226 ?_
                    refine lv_iload hx hb dX4_giveWords_229 (lv_at hl 7 rfl) ?_
                    refine n_ald (v := nI (S (L (cls tp L R x)))) hx hb hK hP 2 0 rfl rfl (i := (L (cls tp L R x))) (by omega) (by decide) (by exact hrk.2.2.2.1) dX4_giveWords_231 ?_
                    refine n_iadd hx hb dX4_giveWords_232 ?_
                    refine lv_iconst (v := nI 0) hx hb dX4_giveWords_233 (by decide) ?_
                    refine lv_iload hx hb dX4_giveWords_234 (lv_at hl 8 rfl) ?_
                    refine lv_iload hx hb dX4_giveWords_236 (lv_at hl 1 rfl) ?_
                    refine lv_iload hx hb dX4_giveWords_238 (lv_at hl 0 rfl) ?_
                    refine lv_iconst (v := nI 1) hx hb dX4_giveWords_240 (by decide) ?_
                    refine n_iadd hx hb dX4_giveWords_241 ?_
                    refine k_goRl (W.runS (As := [.int (nI ((adr tp S L R x) + (S (L (cls tp L R x))))), .int (nI 0), .int (nI (R (cls tp L R x))), .int (nI ((dep x) + 1)), .int (nI ((2 * (x % 2 ^ dep x)) + 1))]) (rest := [.int (nI (i + 1)), .ref b1]) ⟨hx, hb, hml, hown, hts⟩ (c_X4_nodeOf l g cI cJ cZ  (adr tp S L R x + S (L (cls tp L R x))) 0 (R (cls tp L R x)) (dep x + 1) (2 * (x % 2 ^ dep x) + 1) (by omega) (by decide) (by omega) (by omega) (by omega)) (va_cwS 5 hts gX4_giveWords_X4_nodeOf rfl rfl rfl (by decide +kernel) ⟨Nat.le_of_ble_eq_true rfl, Nat.le_of_ble_eq_true rfl⟩) (k_preRS hk hP [] rfl) rfl rfl hl.1 rfl (lv_room (Nat.le_of_ble_eq_true rfl)) dX4_giveWords_242 ⟨by first | exact Nat.zero_le _ | omega, by first | exact Nat.zero_le _ | omega⟩) ?_
                    refine n_topl _ (lN (wrd tp S L R rq (2 * x + 1))) (by rw [hwb]) ?_
                    refine n_lastM hx hb hK hP hD hS 1 1 rfl rfl (i := (i + 1)) (v := (wrd tp S L R rq (2 * x + 1))) (by omega) (by decide) dX4_giveWords_245 (fun H locs hP hD hS => ?_)
                    have hP : va_P g vwCl [(rm, .inr (4, [.int (nI cd), .ref a1, .ref a2, .ref a3, .ref a4, .ref a5, .ref a6, .ref a7, .ref a8, .ref a9, .int (nI tp), .int (nI (((lvs sp 1).length) + 1)), .ref b1, .int (nI bl), .ref b2, .ref b3, .int (nI (jn + ((lvs sp0 1).length - (lvs (gS1 S (cls tp L R) rq w sp0) 1).length))), .int (nI (sn + d)), .ref b4, .ref b5, .ref b6, .ref b7, .ref b8, .int (nI wt), .int (nI wm), .int (nI wg), .long (lN wo), .int (nI wd), .ref b9])), (b1, .inl (cJ, 14000, .inr (.inl (fun j => lN ((upN (upN nd1 i (wrd tp S L R rq (2 * x))) (i + 1) (wrd tp S L R rq (2 * x + 1))) j))))), (a4, .inl (cI, 25, .inl sz)), (a5, .inl (cI, 25, .inl lf)), (a6, .inl (cI, 25, .inl rt)), (b2, .inl (cI, 256, .inl (fun j => nI (ba j)))), (b3, .inl (cI, 256, .inl (fun j => nI (rv j))))] H := hP
                    have hD : va_D A [(rm, .inr (4, [.int (nI cd), .ref a1, .ref a2, .ref a3, .ref a4, .ref a5, .ref a6, .ref a7, .ref a8, .ref a9, .int (nI tp), .int (nI (((lvs sp 1).length) + 1)), .ref b1, .int (nI bl), .ref b2, .ref b3, .int (nI (jn + ((lvs sp0 1).length - (lvs (gS1 S (cls tp L R) rq w sp0) 1).length))), .int (nI (sn + d)), .ref b4, .ref b5, .ref b6, .ref b7, .ref b8, .int (nI wt), .int (nI wm), .int (nI wg), .long (lN wo), .int (nI wd), .ref b9])), (b1, .inl (cJ, 14000, .inr (.inl (fun j => lN ((upN (upN nd1 i (wrd tp S L R rq (2 * x))) (i + 1) (wrd tp S L R rq (2 * x + 1))) j))))), (a4, .inl (cI, 25, .inl sz)), (a5, .inl (cI, 25, .inl lf)), (a6, .inl (cI, 25, .inl rt)), (b2, .inl (cI, 256, .inl (fun j => nI (ba j)))), (b3, .inl (cI, 256, .inl (fun j => nI (rv j))))] := hD
                    refine lv_aload_n hx hb dX4_giveWords_246 rfl (lv_at hl 3 rfl) ?_
                    refine lv_dup hx hb dX4_giveWords_247 rfl ?_
                    refine va_get (D := g) (ci := 4) (v := .int (nI (sn + d))) (C := RX4) (T := TX4) (N := 29) hx hb hts hinX4 hown hK hP 0 rfl rfl 17 (by decide) (hts (.fieldLink RX4 109 "BuddyRoofModel" "splits" "I") (by decide +kernel)) (fun _ h9 => h9) rfl dX4_giveWords_248 ?_
                    refine lv_iconst (v := nI 1) hx hb dX4_giveWords_251 (by decide) ?_
                    refine n_iadd hx hb dX4_giveWords_252 ?_
                    refine va_put (D := g) (ci := 4) (v := .int (nI ((sn + d) + 1))) (ty := .int) (C := RX4) (T := TX4) (N := 29) hx hb hts hinX4 tyX4 tyX4_ok nmX4 hown hK hP hD hS 0 rfl rfl 17 (by decide) (hts (.fieldLink RX4 109 "BuddyRoofModel" "splits" "I") (by decide +kernel)) (fun _ h9 => h9) rfl (by decide +kernel) rfl rfl (Nat.le_of_ble_eq_true rfl) dX4_giveWords_253 (fun H locs hP hD hS => ?_)
                    have hP : va_P g vwCl [(rm, .inr (4, [.int (nI cd), .ref a1, .ref a2, .ref a3, .ref a4, .ref a5, .ref a6, .ref a7, .ref a8, .ref a9, .int (nI tp), .int (nI (((lvs sp 1).length) + 1)), .ref b1, .int (nI bl), .ref b2, .ref b3, .int (nI (jn + ((lvs sp0 1).length - (lvs (gS1 S (cls tp L R) rq w sp0) 1).length))), .int (nI ((sn + d) + 1)), .ref b4, .ref b5, .ref b6, .ref b7, .ref b8, .int (nI wt), .int (nI wm), .int (nI wg), .long (lN wo), .int (nI wd), .ref b9])), (b1, .inl (cJ, 14000, .inr (.inl (fun j => lN ((upN (upN nd1 i (wrd tp S L R rq (2 * x))) (i + 1) (wrd tp S L R rq (2 * x + 1))) j))))), (a4, .inl (cI, 25, .inl sz)), (a5, .inl (cI, 25, .inl lf)), (a6, .inl (cI, 25, .inl rt)), (b2, .inl (cI, 256, .inl (fun j => nI (ba j)))), (b3, .inl (cI, 256, .inl (fun j => nI (rv j))))] H := hP
                    have hD : va_D A [(rm, .inr (4, [.int (nI cd), .ref a1, .ref a2, .ref a3, .ref a4, .ref a5, .ref a6, .ref a7, .ref a8, .ref a9, .int (nI tp), .int (nI (((lvs sp 1).length) + 1)), .ref b1, .int (nI bl), .ref b2, .ref b3, .int (nI (jn + ((lvs sp0 1).length - (lvs (gS1 S (cls tp L R) rq w sp0) 1).length))), .int (nI ((sn + d) + 1)), .ref b4, .ref b5, .ref b6, .ref b7, .ref b8, .int (nI wt), .int (nI wm), .int (nI wg), .long (lN wo), .int (nI wd), .ref b9])), (b1, .inl (cJ, 14000, .inr (.inl (fun j => lN ((upN (upN nd1 i (wrd tp S L R rq (2 * x))) (i + 1) (wrd tp S L R rq (2 * x + 1))) j))))), (a4, .inl (cI, 25, .inl sz)), (a5, .inl (cI, 25, .inl lf)), (a6, .inl (cI, 25, .inl rt)), (b2, .inl (cI, 256, .inl (fun j => nI (ba j)))), (b3, .inl (cI, 256, .inl (fun j => nI (rv j))))] := hD
                    refine lv_iload hx hb dX4_giveWords_256 (lv_at hl 9 rfl) ?_
                    refine n_if_eq (tgt := 283) hx hb dX4_giveWords_258 (by decide) (by first | assumption | omega) (fun c57 => ?_) (fun c57 => ?_)
                    · exact (by exact absurd c57 (by decide))
                    · skip
                      refine lv_iload hx hb dX4_giveWords_261 (lv_at hl 10 rfl) ?_
                      refine n_if_eq (tgt := 286) hx hb dX4_giveWords_263 (by decide) (by first | assumption | omega) (fun c58 => ?_) (fun c58 => ?_)
                      · skip
                        refine lv_goto (tgt := 29) hx hb dX4_giveWords_286 (by decide) ?_
                        rw [← hln] at hP hD
                        exact ih i (2 * x) (d + 1) (k - 1) (upB sp x true) (upN (upN nd1 i (wrd tp S L R rq (2 * x))) (i + 1) (wrd tp S L R rq (2 * x + 1))) (by omega) (by omega) (by rw [dep_e hx1]; omega) hT2 (by
      rw [hsl]
      refine nW_split (x := x) (by rw [← hd1]; exact hW) (fun j q1 => ?_) ?_ ?_ (fun j q1 q2 => ?_)
      · rw [upN_n _ _ (by omega), upN_n _ _ (by omega)]; exact hs1 j (by omega)
      · rw [hd2, upN_n _ _ (by omega), upN_s]
      · rw [hd2, upN_s]
      · rw [upN_n _ _ (by omega), upN_n _ _ (by omega)]; exact hs2 j (by omega) (by have q3 : (lvs sp 1).length = _ := congrArg List.length hd1; rw [List.length_append, List.length_cons] at q3; omega)) (by rw [hsl]; exact (by rw [List.getElem?_append_right (by omega), hd2, Nat.sub_self]; rfl)) ((rq_kids hT hx1 hls).1) (by rw [if_pos (show cvL S L R w (cls tp L R x) = true by unfold cvL; rw [decide_eq_true_eq]; omega)] at hZ3; exact hZ3) _ _ hP hD hS ls (lv_sub hl [3, 4, 5, 6] rfl)
                      · exact (by exact absurd c58 (by decide))
                · exact (by exact absurd c56 (by decide))
              · exact (by exact absurd c55 (by decide))
            · skip
              refine lv_iconst (v := nI 1) hx hb dX4_giveWords_97 (by decide) ?_
              refine lv_goto (tgt := 102) hx hb dX4_giveWords_98 (by decide) ?_
              refine lv_istore (lv' := [(8, .int (nI 1)), (7, .int (nI 1)), (6, .int (nI (R (cls tp L R x)))), (5, .int (nI (L (cls tp L R x)))), (4, .int (nI (cls tp L R x))), (0, .ref rm), (1, .int (nI w)), (2, .int (nI i)), (3, .int (nI 1))]) hx hb dX4_giveWords_102 hl (by decide) rfl (fun ls hl => ?_)
              refine lv_iload hx hb dX4_giveWords_104 (lv_at hl 1 rfl) ?_
              refine n_if_ne (tgt := 114) hx hb dX4_giveWords_106 (by decide) (by first | assumption | omega) (fun c59 => ?_) (fun c59 => ?_)
              · skip
                refine lv_iconst (v := nI 1) hx hb dX4_giveWords_114 (by decide) ?_
                refine lv_goto (tgt := 119) hx hb dX4_giveWords_115 (by decide) ?_
                refine lv_istore_n (lv' := [(3, .int (nI 1)), (8, .int (nI 1)), (7, .int (nI 1)), (6, .int (nI (R (cls tp L R x)))), (5, .int (nI (L (cls tp L R x)))), (4, .int (nI (cls tp L R x))), (0, .ref rm), (1, .int (nI w)), (2, .int (nI i))]) hx hb dX4_giveWords_119 rfl hl (by decide) rfl (fun ls hl => ?_)
                refine lv_iload_n hx hb dX4_giveWords_120 rfl (lv_at hl 0 rfl) ?_
                refine n_if_ne (tgt := 127) hx hb dX4_giveWords_121 (by decide) (by first | assumption | omega) (fun c60 => ?_) (fun c60 => ?_)
                · skip
                  have hho : w ≤ S (L (cls tp L R x)) ∨ w ≤ S (R (cls tp L R x)) := by omega
                  have hL9 := holds_L hR hck.1 hw1 hho
                  have hT2 := TOK_split hR hT hlx hls hrx hL9
                  have hln := len_split hR hT hlx hls hrx hL9
                  have hk0 : 0 < k := by omega
                  have hZ2 := mDes_b hZ (decide_eq_false (fun q => q hho)) hk0 rfl
                  have hx1 := ex_pos hlx
                  have hok2 := aCv_ok hR hw1 (k - 1) (upB sp x true) (if cvL S L R w (cls tp L R x) then 2 * x else 2 * x + 1) (d + 1) hT2 (cv_go hlx hls).1 (cv_go2 hT hlx hls).1 (cv_go2 hT hlx hls).2
                  have hZ3 : aCv S L R (cls tp L R) w (k - 1) (upB sp x true, if cvL S L R w (cls tp L R x) then 2 * x else 2 * x + 1, d + 1) = rr := hZ2
                  rw [hZ3] at hok2
                  have hlt9 : (lvs sp 1).length < 14000 := by have := hok2.2.2.2.2.2.1; have := hok2.2.2.2.2.2.2.1; omega
                  have hd := dec_at hix
                  obtain ⟨hd1, hd2⟩ := hd
                  have hsl := lvs_split_at hR hT hlx hls hrx hL9 hd1
                  have hsk := sid_kid hx1
                  have hsb := sid_b hR hT hlx
                  have hde := dep_e hx1
                  have hdo := dep_o hx1
                  have hca := adr_lt hR hT hlx
                  have hae := adr_e (top := tp) (S := S) (L := L) (R := R) hx1
                  have hao := adr_o (top := tp) (S := S) (L := L) (R := R) hx1
                  have hce := cls_e (top := tp) (L := L) (R := R) hx1
                  have hco := cls_o (top := tp) (L := L) (R := R) hx1
                  have hkq := rq_kids hT hx1 hls
                  have hxk1 : ex (upB sp x true) (2 * x) := (ex_split hx1 hls).mpr (Or.inr (Or.inl rfl))
                  have hxk2 : ex (upB sp x true) (2 * x + 1) := (ex_split hx1 hls).mpr (Or.inr (Or.inr rfl))
                  have hc1 := cls_ok hR hT2 hxk1
                  have hc2 := cls_ok hR hT2 hxk2
                  have hl1 := adr_lt hR hT2 hxk1
                  have hl2 := adr_lt hR hT2 hxk2
                  have hp1 := sid_b hR hT2 hxk1
                  have hp2 := sid_b hR hT2 hxk2
                  rw [hce] at hc1
                  rw [hco] at hc2
                  rw [hao] at hl2
                  have hwa : enc (adr tp S L R x) 0 (L (cls tp L R x)) (dep x + 1) (2 * (x % 2 ^ dep x)) = wrd tp S L R rq (2 * x) := by unfold wrd; rw [hkq.1, if_neg (by decide), hae, hce, hsk.1, hde]
                  have hwb : enc (adr tp S L R x + S (L (cls tp L R x))) 0 (R (cls tp L R x)) (dep x + 1) (2 * (x % 2 ^ dep x) + 1) = wrd tp S L R rq (2 * x + 1) := by unfold wrd; rw [hkq.2, if_neg (by decide), hao, hco, hsk.2, hdo]
                  refine lv_aload_n hx hb dX4_giveWords_127 rfl (lv_at hl 6 rfl) ?_
                  refine va_get (D := g) (ci := 4) (v := .int (nI ((lvs sp 1).length))) (C := RX4) (T := TX4) (N := 29) hx hb hts hinX4 hown hK hP 0 rfl rfl 11 (by decide) (hts (.fieldLink RX4 96 "BuddyRoofModel" "many" "I") (by decide +kernel)) (fun _ h9 => h9) rfl dX4_giveWords_128 ?_
                  refine lv_istore (lv' := [(9, .int (nI ((lvs sp 1).length))), (3, .int (nI 1)), (8, .int (nI 1)), (7, .int (nI 1)), (6, .int (nI (R (cls tp L R x)))), (5, .int (nI (L (cls tp L R x)))), (4, .int (nI (cls tp L R x))), (0, .ref rm), (1, .int (nI w)), (2, .int (nI i))]) hx hb dX4_giveWords_131 hl (by decide) rfl (fun ls hl => ?_)
                  refine lp_X4_giveWords_133 l g cI cJ cZ rm a1 a2 a3 a4 a5 a6 a7 a8 a9 b1 b2 b3 b4 b5 b6 b7 b8 b9 cd tp bl jn sn wt wm wg wo wd sz lf rt S L R rc sp0 rq nd0 ba rv w hR hT0 hW0 hlen0 hrl hw1 hw hgb hfin hbl i x d 1 1 sp nd hi9 (by omega) ⟨hx, hb, hr, hml, hown, hts, hlocks⟩ hk hA (fun nd1 hs1 hs2 H locs hP hD hS ls hl => ?_) _ ((lvs sp 1).length) nd (Nat.lt_succ_self _) (by omega) (fun j _ => rfl) (fun j q1 q2 => by omega) _ _ hP hD hS ls (lv_sub hl [7, 8, 9, 1, 5, 4, 3, 2, 0] rfl)
                  · skip
                    refine lv_aload_n hx hb dX4_giveWords_163 rfl (lv_at hl 0 rfl) ?_
                    refine lv_dup hx hb dX4_giveWords_164 rfl ?_
                    refine va_get (D := g) (ci := 4) (v := .int (nI ((lvs sp 1).length))) (C := RX4) (T := TX4) (N := 29) hx hb hts hinX4 hown hK hP 0 rfl rfl 11 (by decide) (hts (.fieldLink RX4 96 "BuddyRoofModel" "many" "I") (by decide +kernel)) (fun _ h9 => h9) rfl dX4_giveWords_165 ?_
                    refine lv_iconst (v := nI 1) hx hb dX4_giveWords_168 (by decide) ?_
                    refine n_iadd hx hb dX4_giveWords_169 ?_
                    refine va_put (D := g) (ci := 4) (v := .int (nI (((lvs sp 1).length) + 1))) (ty := .int) (C := RX4) (T := TX4) (N := 29) hx hb hts hinX4 tyX4 tyX4_ok nmX4 hown hK hP hD hS 0 rfl rfl 11 (by decide) (hts (.fieldLink RX4 96 "BuddyRoofModel" "many" "I") (by decide +kernel)) (fun _ h9 => h9) rfl (by decide +kernel) rfl rfl (Nat.le_of_ble_eq_true rfl) dX4_giveWords_170 (fun H locs hP hD hS => ?_)
                    have hP : va_P g vwCl [(rm, .inr (4, [.int (nI cd), .ref a1, .ref a2, .ref a3, .ref a4, .ref a5, .ref a6, .ref a7, .ref a8, .ref a9, .int (nI tp), .int (nI (((lvs sp 1).length) + 1)), .ref b1, .int (nI bl), .ref b2, .ref b3, .int (nI (jn + ((lvs sp0 1).length - (lvs (gS1 S (cls tp L R) rq w sp0) 1).length))), .int (nI (sn + d)), .ref b4, .ref b5, .ref b6, .ref b7, .ref b8, .int (nI wt), .int (nI wm), .int (nI wg), .long (lN wo), .int (nI wd), .ref b9])), (b1, .inl (cJ, 14000, .inr (.inl (fun j => lN (nd1 j))))), (a4, .inl (cI, 25, .inl sz)), (a5, .inl (cI, 25, .inl lf)), (a6, .inl (cI, 25, .inl rt)), (b2, .inl (cI, 256, .inl (fun j => nI (ba j)))), (b3, .inl (cI, 256, .inl (fun j => nI (rv j))))] H := hP
                    have hD : va_D A [(rm, .inr (4, [.int (nI cd), .ref a1, .ref a2, .ref a3, .ref a4, .ref a5, .ref a6, .ref a7, .ref a8, .ref a9, .int (nI tp), .int (nI (((lvs sp 1).length) + 1)), .ref b1, .int (nI bl), .ref b2, .ref b3, .int (nI (jn + ((lvs sp0 1).length - (lvs (gS1 S (cls tp L R) rq w sp0) 1).length))), .int (nI (sn + d)), .ref b4, .ref b5, .ref b6, .ref b7, .ref b8, .int (nI wt), .int (nI wm), .int (nI wg), .long (lN wo), .int (nI wd), .ref b9])), (b1, .inl (cJ, 14000, .inr (.inl (fun j => lN (nd1 j))))), (a4, .inl (cI, 25, .inl sz)), (a5, .inl (cI, 25, .inl lf)), (a6, .inl (cI, 25, .inl rt)), (b2, .inl (cI, 256, .inl (fun j => nI (ba j)))), (b3, .inl (cI, 256, .inl (fun j => nI (rv j))))] := hD
                    refine lv_aload_n hx hb dX4_giveWords_173 rfl (lv_at hl 0 rfl) ?_
                    refine lv_iload_n hx hb dX4_giveWords_174 rfl (lv_at hl 2 rfl) ?_
                    refine k_goR (W.runV (As := [.int (nI i)]) (rest := []) ⟨hx, hb, hml, hown, hts⟩ (c_X4_address l g cI cJ cZ rm a1 a2 a3 a4 a5 a6 a7 a8 a9 b1 b2 b3 b4 b5 b6 b7 b8 b9 cd tp (((lvs sp 1).length) + 1) bl (jn + ((lvs sp0 1).length - (lvs (gS1 S (cls tp L R) rq w sp0) 1).length)) (sn + d) wt wm wg wo wd nd1 i pp_4 (by rw [hs1 i (by omega)]; exact pp_5)) (cwV 1 hts gX4_giveWords_X4_address rfl rfl rfl (by decide +kernel) ⟨Nat.le_of_ble_eq_true rfl, Nat.le_of_ble_eq_true rfl⟩) (k_preRV hk hP [0, 1] rfl (ci := 4) (q0 := 0) rfl rfl) rfl rfl hl.1 rfl (lv_room (Nat.le_of_ble_eq_true rfl)) dX4_giveWords_175 ⟨by first | exact Nat.zero_le _ | omega, by first | exact Nat.zero_le _ | omega⟩) ?_
                    refine n_top _ (nI (adr tp S L R x)) (by rw [hs1 i (by omega), pp_6]) ?_
                    refine lv_istore (lv' := [(9, .int (nI (adr tp S L R x))), (0, .ref rm), (1, .int (nI w)), (2, .int (nI i)), (3, .int (nI 1)), (5, .int (nI (L (cls tp L R x)))), (6, .int (nI (R (cls tp L R x)))), (7, .int (nI 1)), (8, .int (nI 1))]) hx hb dX4_giveWords_178 hl (by decide) rfl (fun ls hl => ?_)
                    refine lv_aload_n hx hb dX4_giveWords_180 rfl (lv_at hl 1 rfl) ?_
                    refine lv_iload_n hx hb dX4_giveWords_181 rfl (lv_at hl 3 rfl) ?_
                    refine k_goR (W.runV (As := [.int (nI i)]) (rest := []) ⟨hx, hb, hml, hown, hts⟩ (c_X4_depth l g cI cJ cZ rm a1 a2 a3 a4 a5 a6 a7 a8 a9 b1 b2 b3 b4 b5 b6 b7 b8 b9 cd tp (((lvs sp 1).length) + 1) bl (jn + ((lvs sp0 1).length - (lvs (gS1 S (cls tp L R) rq w sp0) 1).length)) (sn + d) wt wm wg wo wd nd1 i pp_4 (by rw [hs1 i (by omega)]; exact pp_5)) (cwV 1 hts gX4_giveWords_X4_depth rfl rfl rfl (by decide +kernel) ⟨Nat.le_of_ble_eq_true rfl, Nat.le_of_ble_eq_true rfl⟩) (k_preRV hk hP [0, 1] rfl (ci := 4) (q0 := 0) rfl rfl) rfl rfl hl.1 rfl (lv_room (Nat.le_of_ble_eq_true rfl)) dX4_giveWords_182 ⟨by first | exact Nat.zero_le _ | omega, by first | exact Nat.zero_le _ | omega⟩) ?_
                    refine n_top _ (nI (dep x)) (by rw [hs1 i (by omega), pp_9]) ?_
                    refine lv_iconst (v := nI 1) hx hb dX4_giveWords_185 (by decide) ?_
                    refine n_iadd hx hb dX4_giveWords_186 ?_
                    refine lv_istore (lv' := [(10, .int (nI ((dep x) + 1))), (9, .int (nI (adr tp S L R x))), (0, .ref rm), (1, .int (nI w)), (2, .int (nI i)), (3, .int (nI 1)), (5, .int (nI (L (cls tp L R x)))), (6, .int (nI (R (cls tp L R x)))), (7, .int (nI 1)), (8, .int (nI 1))]) hx hb dX4_giveWords_187 hl (by decide) rfl (fun ls hl => ?_)
                    refine lv_iconst (v := nI 2) hx hb dX4_giveWords_189 (by decide) ?_
                    refine lv_aload_n hx hb dX4_giveWords_190 rfl (lv_at hl 2 rfl) ?_
                    refine lv_iload_n hx hb dX4_giveWords_191 rfl (lv_at hl 4 rfl) ?_
                    refine k_goR (W.runV (As := [.int (nI i)]) (rest := [.int (nI 2)]) ⟨hx, hb, hml, hown, hts⟩ (c_X4_sides l g cI cJ cZ rm a1 a2 a3 a4 a5 a6 a7 a8 a9 b1 b2 b3 b4 b5 b6 b7 b8 b9 cd tp (((lvs sp 1).length) + 1) bl (jn + ((lvs sp0 1).length - (lvs (gS1 S (cls tp L R) rq w sp0) 1).length)) (sn + d) wt wm wg wo wd nd1 i pp_4 (by rw [hs1 i (by omega)]; exact pp_5)) (cwV 1 hts gX4_giveWords_X4_sides rfl rfl rfl (by decide +kernel) ⟨Nat.le_of_ble_eq_true rfl, Nat.le_of_ble_eq_true rfl⟩) (k_preRV hk hP [0, 1] rfl (ci := 4) (q0 := 0) rfl rfl) rfl rfl hl.1 rfl (lv_room (Nat.le_of_ble_eq_true rfl)) dX4_giveWords_192 ⟨by first | exact Nat.zero_le _ | omega, by first | exact Nat.zero_le _ | omega⟩) ?_
                    refine n_top _ (nI (x % 2 ^ dep x)) (by rw [hs1 i (by omega), pp_10]) ?_
                    refine n_imul hx hb dX4_giveWords_195 ?_
                    refine lv_istore (lv' := [(11, .int (nI (2 * (x % 2 ^ dep x)))), (10, .int (nI ((dep x) + 1))), (9, .int (nI (adr tp S L R x))), (0, .ref rm), (1, .int (nI w)), (2, .int (nI i)), (3, .int (nI 1)), (5, .int (nI (L (cls tp L R x)))), (6, .int (nI (R (cls tp L R x)))), (7, .int (nI 1)), (8, .int (nI 1))]) hx hb dX4_giveWords_196 hl (by decide) rfl (fun ls hl => ?_)
                    refine lv_aload_n hx hb dX4_giveWords_198 rfl (lv_at hl 3 rfl) ?_
                    refine va_get (D := g) (ci := 4) (v := .ref b1) (C := RX4) (T := TX4) (N := 29) hx hb hts hinX4 hown hK hP 0 rfl rfl 12 (by decide) (hts (.fieldLink RX4 38 "BuddyRoofModel" "node" "[J") (by decide +kernel)) (fun _ h9 => h9) rfl dX4_giveWords_199 ?_
                    refine lv_iload_n hx hb dX4_giveWords_202 rfl (lv_at hl 5 rfl) ?_
                    refine lv_iload hx hb dX4_giveWords_203 (lv_at hl 2 rfl) ?_
                    refine lv_iconst (v := nI 0) hx hb dX4_giveWords_205 (by decide) ?_
                    refine lv_iload hx hb dX4_giveWords_206 (lv_at hl 7 rfl) ?_
                    refine lv_iload hx hb dX4_giveWords_208 (lv_at hl 1 rfl) ?_
                    refine lv_iload hx hb dX4_giveWords_210 (lv_at hl 0 rfl) ?_
                    refine k_goRl (W.runS (As := [.int (nI (adr tp S L R x)), .int (nI 0), .int (nI (L (cls tp L R x))), .int (nI ((dep x) + 1)), .int (nI (2 * (x % 2 ^ dep x)))]) (rest := [.int (nI i), .ref b1]) ⟨hx, hb, hml, hown, hts⟩ (c_X4_nodeOf l g cI cJ cZ  (adr tp S L R x) 0 (L (cls tp L R x)) (dep x + 1) (2 * (x % 2 ^ dep x)) (by omega) (by decide) (by omega) (by omega) (by omega)) (va_cwS 5 hts gX4_giveWords_X4_nodeOf rfl rfl rfl (by decide +kernel) ⟨Nat.le_of_ble_eq_true rfl, Nat.le_of_ble_eq_true rfl⟩) (k_preRS hk hP [] rfl) rfl rfl hl.1 rfl (lv_room (Nat.le_of_ble_eq_true rfl)) dX4_giveWords_212 ⟨by first | exact Nat.zero_le _ | omega, by first | exact Nat.zero_le _ | omega⟩) ?_
                    refine n_topl _ (lN (wrd tp S L R rq (2 * x))) (by rw [hwa]) ?_
                    refine n_lastM hx hb hK hP hD hS 1 1 rfl rfl (i := i) (v := (wrd tp S L R rq (2 * x))) (by omega) (by decide) dX4_giveWords_215 (fun H locs hP hD hS => ?_)
                    have hP : va_P g vwCl [(rm, .inr (4, [.int (nI cd), .ref a1, .ref a2, .ref a3, .ref a4, .ref a5, .ref a6, .ref a7, .ref a8, .ref a9, .int (nI tp), .int (nI (((lvs sp 1).length) + 1)), .ref b1, .int (nI bl), .ref b2, .ref b3, .int (nI (jn + ((lvs sp0 1).length - (lvs (gS1 S (cls tp L R) rq w sp0) 1).length))), .int (nI (sn + d)), .ref b4, .ref b5, .ref b6, .ref b7, .ref b8, .int (nI wt), .int (nI wm), .int (nI wg), .long (lN wo), .int (nI wd), .ref b9])), (b1, .inl (cJ, 14000, .inr (.inl (fun j => lN ((upN nd1 i (wrd tp S L R rq (2 * x))) j))))), (a4, .inl (cI, 25, .inl sz)), (a5, .inl (cI, 25, .inl lf)), (a6, .inl (cI, 25, .inl rt)), (b2, .inl (cI, 256, .inl (fun j => nI (ba j)))), (b3, .inl (cI, 256, .inl (fun j => nI (rv j))))] H := hP
                    have hD : va_D A [(rm, .inr (4, [.int (nI cd), .ref a1, .ref a2, .ref a3, .ref a4, .ref a5, .ref a6, .ref a7, .ref a8, .ref a9, .int (nI tp), .int (nI (((lvs sp 1).length) + 1)), .ref b1, .int (nI bl), .ref b2, .ref b3, .int (nI (jn + ((lvs sp0 1).length - (lvs (gS1 S (cls tp L R) rq w sp0) 1).length))), .int (nI (sn + d)), .ref b4, .ref b5, .ref b6, .ref b7, .ref b8, .int (nI wt), .int (nI wm), .int (nI wg), .long (lN wo), .int (nI wd), .ref b9])), (b1, .inl (cJ, 14000, .inr (.inl (fun j => lN ((upN nd1 i (wrd tp S L R rq (2 * x))) j))))), (a4, .inl (cI, 25, .inl sz)), (a5, .inl (cI, 25, .inl lf)), (a6, .inl (cI, 25, .inl rt)), (b2, .inl (cI, 256, .inl (fun j => nI (ba j)))), (b3, .inl (cI, 256, .inl (fun j => nI (rv j))))] := hD
                    refine lv_aload_n hx hb dX4_giveWords_216 rfl (lv_at hl 3 rfl) ?_
                    refine va_get (D := g) (ci := 4) (v := .ref b1) (C := RX4) (T := TX4) (N := 29) hx hb hts hinX4 hown hK hP 0 rfl rfl 12 (by decide) (hts (.fieldLink RX4 38 "BuddyRoofModel" "node" "[J") (by decide +kernel)) (fun _ h9 => h9) rfl dX4_giveWords_217 ?_
                    refine lv_iload_n hx hb dX4_giveWords_220 rfl (lv_at hl 5 rfl) ?_
                    refine lv_iconst (v := nI 1) hx hb dX4_giveWords_221 (by decide) ?_
                    refine n_iadd hx hb dX4_giveWords_222 ?_
                    refine lv_iload hx hb dX4_giveWords_223 (lv_at hl 2 rfl) ?_
                    refine lv_aload_n hx hb dX4_giveWords_225 rfl (lv_at hl 3 rfl) ?_
                    refine va_get (D := g) (ci := 4) (v := .ref a4) (C := RX4) (T := TX4) (N := 29) hx hb hts hinX4 hown hK hP 0 rfl rfl 4 (by decide) (hts (.fieldLink RX4 19 "BuddyRoofModel" "sizes" "[I") (by decide +kernel)) (fun _ h9 => h9) rfl dX4_giveWords_226 ?_
                    refine lv_iload hx hb dX4_giveWords_229 (lv_at hl 7 rfl) ?_
                    refine n_ald (v := nI (S (L (cls tp L R x)))) hx hb hK hP 2 0 rfl rfl (i := (L (cls tp L R x))) (by omega) (by decide) (by exact hrk.2.2.2.1) dX4_giveWords_231 ?_
                    refine n_iadd hx hb dX4_giveWords_232 ?_
                    refine lv_iconst (v := nI 0) hx hb dX4_giveWords_233 (by decide) ?_
                    refine lv_iload hx hb dX4_giveWords_234 (lv_at hl 8 rfl) ?_
                    refine lv_iload hx hb dX4_giveWords_236 (lv_at hl 1 rfl) ?_
                    refine lv_iload hx hb dX4_giveWords_238 (lv_at hl 0 rfl) ?_
                    refine lv_iconst (v := nI 1) hx hb dX4_giveWords_240 (by decide) ?_
                    refine n_iadd hx hb dX4_giveWords_241 ?_
                    refine k_goRl (W.runS (As := [.int (nI ((adr tp S L R x) + (S (L (cls tp L R x))))), .int (nI 0), .int (nI (R (cls tp L R x))), .int (nI ((dep x) + 1)), .int (nI ((2 * (x % 2 ^ dep x)) + 1))]) (rest := [.int (nI (i + 1)), .ref b1]) ⟨hx, hb, hml, hown, hts⟩ (c_X4_nodeOf l g cI cJ cZ  (adr tp S L R x + S (L (cls tp L R x))) 0 (R (cls tp L R x)) (dep x + 1) (2 * (x % 2 ^ dep x) + 1) (by omega) (by decide) (by omega) (by omega) (by omega)) (va_cwS 5 hts gX4_giveWords_X4_nodeOf rfl rfl rfl (by decide +kernel) ⟨Nat.le_of_ble_eq_true rfl, Nat.le_of_ble_eq_true rfl⟩) (k_preRS hk hP [] rfl) rfl rfl hl.1 rfl (lv_room (Nat.le_of_ble_eq_true rfl)) dX4_giveWords_242 ⟨by first | exact Nat.zero_le _ | omega, by first | exact Nat.zero_le _ | omega⟩) ?_
                    refine n_topl _ (lN (wrd tp S L R rq (2 * x + 1))) (by rw [hwb]) ?_
                    refine n_lastM hx hb hK hP hD hS 1 1 rfl rfl (i := (i + 1)) (v := (wrd tp S L R rq (2 * x + 1))) (by omega) (by decide) dX4_giveWords_245 (fun H locs hP hD hS => ?_)
                    have hP : va_P g vwCl [(rm, .inr (4, [.int (nI cd), .ref a1, .ref a2, .ref a3, .ref a4, .ref a5, .ref a6, .ref a7, .ref a8, .ref a9, .int (nI tp), .int (nI (((lvs sp 1).length) + 1)), .ref b1, .int (nI bl), .ref b2, .ref b3, .int (nI (jn + ((lvs sp0 1).length - (lvs (gS1 S (cls tp L R) rq w sp0) 1).length))), .int (nI (sn + d)), .ref b4, .ref b5, .ref b6, .ref b7, .ref b8, .int (nI wt), .int (nI wm), .int (nI wg), .long (lN wo), .int (nI wd), .ref b9])), (b1, .inl (cJ, 14000, .inr (.inl (fun j => lN ((upN (upN nd1 i (wrd tp S L R rq (2 * x))) (i + 1) (wrd tp S L R rq (2 * x + 1))) j))))), (a4, .inl (cI, 25, .inl sz)), (a5, .inl (cI, 25, .inl lf)), (a6, .inl (cI, 25, .inl rt)), (b2, .inl (cI, 256, .inl (fun j => nI (ba j)))), (b3, .inl (cI, 256, .inl (fun j => nI (rv j))))] H := hP
                    have hD : va_D A [(rm, .inr (4, [.int (nI cd), .ref a1, .ref a2, .ref a3, .ref a4, .ref a5, .ref a6, .ref a7, .ref a8, .ref a9, .int (nI tp), .int (nI (((lvs sp 1).length) + 1)), .ref b1, .int (nI bl), .ref b2, .ref b3, .int (nI (jn + ((lvs sp0 1).length - (lvs (gS1 S (cls tp L R) rq w sp0) 1).length))), .int (nI (sn + d)), .ref b4, .ref b5, .ref b6, .ref b7, .ref b8, .int (nI wt), .int (nI wm), .int (nI wg), .long (lN wo), .int (nI wd), .ref b9])), (b1, .inl (cJ, 14000, .inr (.inl (fun j => lN ((upN (upN nd1 i (wrd tp S L R rq (2 * x))) (i + 1) (wrd tp S L R rq (2 * x + 1))) j))))), (a4, .inl (cI, 25, .inl sz)), (a5, .inl (cI, 25, .inl lf)), (a6, .inl (cI, 25, .inl rt)), (b2, .inl (cI, 256, .inl (fun j => nI (ba j)))), (b3, .inl (cI, 256, .inl (fun j => nI (rv j))))] := hD
                    refine lv_aload_n hx hb dX4_giveWords_246 rfl (lv_at hl 3 rfl) ?_
                    refine lv_dup hx hb dX4_giveWords_247 rfl ?_
                    refine va_get (D := g) (ci := 4) (v := .int (nI (sn + d))) (C := RX4) (T := TX4) (N := 29) hx hb hts hinX4 hown hK hP 0 rfl rfl 17 (by decide) (hts (.fieldLink RX4 109 "BuddyRoofModel" "splits" "I") (by decide +kernel)) (fun _ h9 => h9) rfl dX4_giveWords_248 ?_
                    refine lv_iconst (v := nI 1) hx hb dX4_giveWords_251 (by decide) ?_
                    refine n_iadd hx hb dX4_giveWords_252 ?_
                    refine va_put (D := g) (ci := 4) (v := .int (nI ((sn + d) + 1))) (ty := .int) (C := RX4) (T := TX4) (N := 29) hx hb hts hinX4 tyX4 tyX4_ok nmX4 hown hK hP hD hS 0 rfl rfl 17 (by decide) (hts (.fieldLink RX4 109 "BuddyRoofModel" "splits" "I") (by decide +kernel)) (fun _ h9 => h9) rfl (by decide +kernel) rfl rfl (Nat.le_of_ble_eq_true rfl) dX4_giveWords_253 (fun H locs hP hD hS => ?_)
                    have hP : va_P g vwCl [(rm, .inr (4, [.int (nI cd), .ref a1, .ref a2, .ref a3, .ref a4, .ref a5, .ref a6, .ref a7, .ref a8, .ref a9, .int (nI tp), .int (nI (((lvs sp 1).length) + 1)), .ref b1, .int (nI bl), .ref b2, .ref b3, .int (nI (jn + ((lvs sp0 1).length - (lvs (gS1 S (cls tp L R) rq w sp0) 1).length))), .int (nI ((sn + d) + 1)), .ref b4, .ref b5, .ref b6, .ref b7, .ref b8, .int (nI wt), .int (nI wm), .int (nI wg), .long (lN wo), .int (nI wd), .ref b9])), (b1, .inl (cJ, 14000, .inr (.inl (fun j => lN ((upN (upN nd1 i (wrd tp S L R rq (2 * x))) (i + 1) (wrd tp S L R rq (2 * x + 1))) j))))), (a4, .inl (cI, 25, .inl sz)), (a5, .inl (cI, 25, .inl lf)), (a6, .inl (cI, 25, .inl rt)), (b2, .inl (cI, 256, .inl (fun j => nI (ba j)))), (b3, .inl (cI, 256, .inl (fun j => nI (rv j))))] H := hP
                    have hD : va_D A [(rm, .inr (4, [.int (nI cd), .ref a1, .ref a2, .ref a3, .ref a4, .ref a5, .ref a6, .ref a7, .ref a8, .ref a9, .int (nI tp), .int (nI (((lvs sp 1).length) + 1)), .ref b1, .int (nI bl), .ref b2, .ref b3, .int (nI (jn + ((lvs sp0 1).length - (lvs (gS1 S (cls tp L R) rq w sp0) 1).length))), .int (nI ((sn + d) + 1)), .ref b4, .ref b5, .ref b6, .ref b7, .ref b8, .int (nI wt), .int (nI wm), .int (nI wg), .long (lN wo), .int (nI wd), .ref b9])), (b1, .inl (cJ, 14000, .inr (.inl (fun j => lN ((upN (upN nd1 i (wrd tp S L R rq (2 * x))) (i + 1) (wrd tp S L R rq (2 * x + 1))) j))))), (a4, .inl (cI, 25, .inl sz)), (a5, .inl (cI, 25, .inl lf)), (a6, .inl (cI, 25, .inl rt)), (b2, .inl (cI, 256, .inl (fun j => nI (ba j)))), (b3, .inl (cI, 256, .inl (fun j => nI (rv j))))] := hD
                    refine lv_iload hx hb dX4_giveWords_256 (lv_at hl 9 rfl) ?_
                    refine n_if_eq (tgt := 283) hx hb dX4_giveWords_258 (by decide) (by first | assumption | omega) (fun c61 => ?_) (fun c61 => ?_)
                    · exact (by exact absurd c61 (by decide))
                    · skip
                      refine lv_iload hx hb dX4_giveWords_261 (lv_at hl 10 rfl) ?_
                      refine n_if_eq (tgt := 286) hx hb dX4_giveWords_263 (by decide) (by first | assumption | omega) (fun c62 => ?_) (fun c62 => ?_)
                      · exact (by exact absurd c62 (by decide))
                      · skip
                        refine lv_aload_n hx hb dX4_giveWords_266 rfl (lv_at hl 3 rfl) ?_
                        refine va_get (D := g) (ci := 4) (v := .ref a4) (C := RX4) (T := TX4) (N := 29) hx hb hts hinX4 hown hK hP 0 rfl rfl 4 (by decide) (hts (.fieldLink RX4 19 "BuddyRoofModel" "sizes" "[I") (by decide +kernel)) (fun _ h9 => h9) rfl dX4_giveWords_267 ?_
                        refine lv_iload hx hb dX4_giveWords_270 (lv_at hl 8 rfl) ?_
                        refine n_ald (v := nI (S (R (cls tp L R x)))) hx hb hK hP 2 0 rfl rfl (i := (R (cls tp L R x))) (by omega) (by decide) (by exact hrk.2.2.2.2.1) dX4_giveWords_272 ?_
                        refine lv_aload_n hx hb dX4_giveWords_273 rfl (lv_at hl 3 rfl) ?_
                        refine va_get (D := g) (ci := 4) (v := .ref a4) (C := RX4) (T := TX4) (N := 29) hx hb hts hinX4 hown hK hP 0 rfl rfl 4 (by decide) (hts (.fieldLink RX4 19 "BuddyRoofModel" "sizes" "[I") (by decide +kernel)) (fun _ h9 => h9) rfl dX4_giveWords_274 ?_
                        refine lv_iload hx hb dX4_giveWords_277 (lv_at hl 7 rfl) ?_
                        refine n_ald (v := nI (S (L (cls tp L R x)))) hx hb hK hP 2 0 rfl rfl (i := (L (cls tp L R x))) (by omega) (by decide) (by exact hrk.2.2.2.1) dX4_giveWords_279 ?_
                        refine n_icmp_ge (tgt := 286) hx hb dX4_giveWords_280 (by decide) (by first | assumption | omega) (by first | assumption | omega) (fun c63 => ?_) (fun c63 => ?_)
                        · skip
                          refine lv_goto (tgt := 29) hx hb dX4_giveWords_286 (by decide) ?_
                          rw [← hln] at hP hD
                          exact ih i (2 * x) (d + 1) (k - 1) (upB sp x true) (upN (upN nd1 i (wrd tp S L R rq (2 * x))) (i + 1) (wrd tp S L R rq (2 * x + 1))) (by omega) (by omega) (by rw [dep_e hx1]; omega) hT2 (by
      rw [hsl]
      refine nW_split (x := x) (by rw [← hd1]; exact hW) (fun j q1 => ?_) ?_ ?_ (fun j q1 q2 => ?_)
      · rw [upN_n _ _ (by omega), upN_n _ _ (by omega)]; exact hs1 j (by omega)
      · rw [hd2, upN_n _ _ (by omega), upN_s]
      · rw [hd2, upN_s]
      · rw [upN_n _ _ (by omega), upN_n _ _ (by omega)]; exact hs2 j (by omega) (by have q3 : (lvs sp 1).length = _ := congrArg List.length hd1; rw [List.length_append, List.length_cons] at q3; omega)) (by rw [hsl]; exact (by rw [List.getElem?_append_right (by omega), hd2, Nat.sub_self]; rfl)) ((rq_kids hT hx1 hls).1) (by rw [if_pos (show cvL S L R w (cls tp L R x) = true by unfold cvL; rw [decide_eq_true_eq]; omega)] at hZ3; exact hZ3) _ _ hP hD hS ls (lv_sub hl [3, 4, 5, 6] rfl)
                        · skip
                          refine lv_iinc (v := nI (i + 1)) (lv' := [(2, .int (nI (i + 1))), (11, .int (nI (2 * (x % 2 ^ dep x)))), (10, .int (nI ((dep x) + 1))), (9, .int (nI (adr tp S L R x))), (0, .ref rm), (1, .int (nI w)), (3, .int (nI 1)), (5, .int (nI (L (cls tp L R x)))), (6, .int (nI (R (cls tp L R x)))), (7, .int (nI 1)), (8, .int (nI 1))]) hx hb dX4_giveWords_283 hl (k := 5) rfl (n_inc _ 1) (by decide) rfl (fun ls hl => ?_)
                          refine lv_goto (tgt := 29) hx hb dX4_giveWords_286 (by decide) ?_
                          rw [← hln] at hP hD
                          exact ih (i + 1) (2 * x + 1) (d + 1) (k - 1) (upB sp x true) (upN (upN nd1 i (wrd tp S L R rq (2 * x))) (i + 1) (wrd tp S L R rq (2 * x + 1))) (by omega) (by omega) (by rw [dep_o hx1]; omega) hT2 (by
      rw [hsl]
      refine nW_split (x := x) (by rw [← hd1]; exact hW) (fun j q1 => ?_) ?_ ?_ (fun j q1 q2 => ?_)
      · rw [upN_n _ _ (by omega), upN_n _ _ (by omega)]; exact hs1 j (by omega)
      · rw [hd2, upN_n _ _ (by omega), upN_s]
      · rw [hd2, upN_s]
      · rw [upN_n _ _ (by omega), upN_n _ _ (by omega)]; exact hs2 j (by omega) (by have q3 : (lvs sp 1).length = _ := congrArg List.length hd1; rw [List.length_append, List.length_cons] at q3; omega)) (by rw [hsl]; exact (by rw [List.getElem?_append_right (by omega), hd2, show i + 1 - i = 1 by omega]; rfl)) ((rq_kids hT hx1 hls).2) (by rw [if_neg (by rw [(show cvL S L R w (cls tp L R x) = false by unfold cvL; rw [decide_eq_false_iff_not]; omega)]; decide)] at hZ3; exact hZ3) _ _ hP hD hS ls (lv_sub hl [4, 5, 0, 6] rfl)
                · exact (by exact absurd c60 (by decide))
              · exact (by exact absurd c59 (by decide))

set_option maxHeartbeats 4000000 in
set_option maxRecDepth 100000 in
theorem c_X4_giveWords (l : Launch) (g : va_G) (cI cJ cZ : ClassId) (rm a1 a2 a3 a4 a5 a6 a7 a8 a9 b1 b2 b3 b4 b5 b6 b7 b8 b9 : Nat) (cd tp bl jn sn wt wm wg wo wd : Nat) (sz lf rt : Nat → Int32) (S L R : Nat → Nat) (rc : Nat → Bool) (sp0 : Nat → Bool) (rq nd0 : Nat → Nat) (ba rv : Nat → Nat) (w : Nat) (hR : RuleOK S L R rc tp) (hT0 : TOK tp S L R sp0 rq) (hW0 : nW tp S L R rq nd0 (lvs sp0 1)) (hlen0 : (lvs sp0 1).length ≤ 14000) (hrl : rOK S L R rc sz lf rt) (hw1 : 1 ≤ w) (hw : w < 2 ^ 31) (hgb : (gB S (cls tp L R) rq w sp0) ≠ 0) (hfin : (lvs (gC S L R (cls tp L R) rq w sp0).1 1).length ≤ 14000) (hbl : bl < 256) : kI l g (kty cI cJ cZ) yX4_giveWords wsX4_giveWords ({ frames := 3, cells := 0, slots := 0, locals := 70 }) [.ref rm, .int (nI w)] [(rm, .inr (4, [.int (nI cd), .ref a1, .ref a2, .ref a3, .ref a4, .ref a5, .ref a6, .ref a7, .ref a8, .ref a9, .int (nI tp), .int (nI ((lvs sp0 1).length)), .ref b1, .int (nI bl), .ref b2, .ref b3, .int (nI jn), .int (nI sn), .ref b4, .ref b5, .ref b6, .ref b7, .ref b8, .int (nI wt), .int (nI wm), .int (nI wg), .long (lN wo), .int (nI wd), .ref b9])), (b1, .inl (cJ, 14000, .inr (.inl (fun j => lN (nd0 j))))), (a4, .inl (cI, 25, .inl sz)), (a5, .inl (cI, 25, .inl lf)), (a6, .inl (cI, 25, .inl rt)), (b2, .inl (cI, 256, .inl (fun j => nI (ba j)))), (b3, .inl (cI, 256, .inl (fun j => nI (rv j))))] (S := Nat → Nat) (fun r u => r = nI (adr tp S L R (gC S L R (cls tp L R) rq w sp0).2.1) ∧ nW tp S L R (gQ S L R (cls tp L R) rq w sp0) u (lvs (gC S L R (cls tp L R) rq w sp0).1 1)) (fun u => [(rm, .inr (4, [.int (nI cd), .ref a1, .ref a2, .ref a3, .ref a4, .ref a5, .ref a6, .ref a7, .ref a8, .ref a9, .int (nI tp), .int (nI ((lvs (gC S L R (cls tp L R) rq w sp0).1 1).length)), .ref b1, .int (nI (bl + 1)), .ref b2, .ref b3, .int (nI (jn + ((lvs sp0 1).length - (lvs (gS1 S (cls tp L R) rq w sp0) 1).length))), .int (nI (sn + (gC S L R (cls tp L R) rq w sp0).2.2)), .ref b4, .ref b5, .ref b6, .ref b7, .ref b8, .int (nI wt), .int (nI wm), .int (nI wg), .long (lN wo), .int (nI wd), .ref b9])), (b1, .inl (cJ, 14000, .inr (.inl (fun j => lN (u j))))), (a4, .inl (cI, 25, .inl sz)), (a5, .inl (cI, 25, .inl lf)), (a6, .inl (cI, 25, .inl rt)), (b2, .inl (cI, 256, .inl (fun j => nI ((upN ba bl (adr tp S L R (gC S L R (cls tp L R) rq w sp0).2.1)) j)))), (b3, .inl (cI, 256, .inl (fun j => nI ((upN rv bl w) j))))]) 0 0 := by
  intro sz
  refine Met.ofW (cc := cX4_giveWords) (maxL := 12) (ret := (some .int)) (by decide) rfl ?_
  intro p e s m args below meth c s₁ B hml hv
  obtain ⟨rfl, hsz, hP, hk, hD0⟩ := hv
  subst hsz
  have hx := B.exec
  have hb := B.bytes
  have hr := B.returns
  have hts := atoms_spec (ws := wsX4_giveWords) B.pre
  have hown : s.vm.findClass RX4 = some m.cls := findClass_of_methodNamed B.named
  have hlocks := B.notSynchronized
  have hK := hk.1
  have hinX4 : ∀ w ∈ wsX40, w ∈ wsX4_giveWords := by decide +kernel
  obtain ⟨A, hAe⟩ : ∃ A, va_A [(rm, .inr (4, [.int (nI cd), .ref a1, .ref a2, .ref a3, .ref a4, .ref a5, .ref a6, .ref a7, .ref a8, .ref a9, .int (nI tp), .int (nI ((lvs sp0 1).length)), .ref b1, .int (nI bl), .ref b2, .ref b3, .int (nI jn), .int (nI sn), .ref b4, .ref b5, .ref b6, .ref b7, .ref b8, .int (nI wt), .int (nI wm), .int (nI wg), .long (lN wo), .int (nI wd), .ref b9])), (b1, .inl (cJ, 14000, .inr (.inl (fun j => lN (nd0 j))))), (a4, .inl (cI, 25, .inl sz)), (a5, .inl (cI, 25, .inl lf)), (a6, .inl (cI, 25, .inl rt)), (b2, .inl (cI, 256, .inl (fun j => nI (ba j)))), (b3, .inl (cI, 256, .inl (fun j => nI (rv j))))] s.heap.size = A := ⟨_, rfl⟩
  have hD := hD0.self (sz := s.heap.size)
  rw [hAe] at hD
  have hA : ∀ q : Nat, s.heap.size ≤ q → A q := fun q h => by rw [← hAe]; exact Or.inr h
  have hS : va_S A s.heap s.heap [] := va_S.rf
  have hl := lv_entry ([.ref rm, .int (nI w)]) (n := 12) (Nat.le_of_ble_eq_true rfl)
  rw [lg_entry_eq]
  generalize (lg_sl ([.ref rm, .int (nI w)]) ++ List.replicate (12 - (lg_sl ([.ref rm, .int (nI w)])).length) Slot.unset).toArray = ls at hl ⊢
  have hl : lv_has ls 12 [(0, .ref rm), (1, .int (nI w))] := hl
  refine lv_aload_n hx hb dX4_giveWords_0 rfl (lv_at hl 0 rfl) ?_
  refine lv_iload_n hx hb dX4_giveWords_1 rfl (lv_at hl 1 rfl) ?_
  refine k_goR (W.runV (As := [.int (nI w)]) (rest := []) ⟨hx, hb, hml, hown, hts⟩ (c_X4_best l g cI cJ cZ rm a1 a2 a3 a4 a5 a6 a7 a8 a9 b1 b2 b3 b4 b5 b6 b7 b8 b9 cd tp bl jn sn wt wm wg wo wd sz lf rt S L R rc sp0 rq nd0 w hR hT0 hW0 hlen0 hrl hw) (cwV 1 hts gX4_giveWords_X4_best rfl rfl rfl (by decide +kernel) ⟨Nat.le_of_ble_eq_true rfl, Nat.le_of_ble_eq_true rfl⟩) (k_preRV hk hP [0, 1, 2, 3, 4] rfl (ci := 4) (q0 := 0) rfl rfl) rfl rfl hl.1 rfl (lv_room (Nat.le_of_ble_eq_true rfl)) dX4_giveWords_2 ⟨by first | exact Nat.zero_le _ | omega, by first | exact Nat.zero_le _ | omega⟩) ?_
  refine lv_istore_n (lv' := [(2, .int (if bst S (cls tp L R) rq w (lvs sp0 1) = 0 then -1 else nI (plc (lvs sp0 1) (bst S (cls tp L R) rq w (lvs sp0 1))))), (0, .ref rm), (1, .int (nI w))]) hx hb dX4_giveWords_5 rfl hl (by decide) rfl (fun ls hl => ?_)
  refine lv_iload_n hx hb dX4_giveWords_6 rfl (lv_at hl 0 rfl) ?_
  refine lv_if_ge (tgt := 21) hx hb dX4_giveWords_7 (by decide) (fun c1 => ?_) (fun c1 => ?_)
  · skip
    have hbx : (bst S (cls tp L R) rq w (lvs sp0 1)) ≠ 0 := fun e9 => by rw [if_pos e9] at c1; exact absurd c1 (by decide)
    rw [if_neg hbx] at hl
    have hat := plc_mem (lvs_all hR hT0 (bst_leaf (w := w) hR hT0 hbx).1 (bst_leaf (w := w) hR hT0 hbx).2.1)
    have hal := at_lt hat
    have hgs := gS1_a (S := S) (L := L) (R := R) (rq := rq) (w := w) (sp := sp0) (top := tp) hbx
    refine lv_iload_n hx hb dX4_giveWords_21 rfl (lv_at hl 0 rfl) ?_
    refine n_if_ge (tgt := 27) hx hb dX4_giveWords_22 (by decide) (by omega) ?_
    refine lv_iconst (v := nI 1) hx hb dX4_giveWords_27 (by decide) ?_
    refine lv_istore_n (lv' := [(3, .int (nI 1)), (2, .int (nI (plc (lvs sp0 1) (bst S (cls tp L R) rq w (lvs sp0 1))))), (0, .ref rm), (1, .int (nI w))]) hx hb dX4_giveWords_28 rfl hl (by decide) rfl (fun ls hl => ?_)
    have hP : va_P g vwCl [(rm, .inr (4, [.int (nI cd), .ref a1, .ref a2, .ref a3, .ref a4, .ref a5, .ref a6, .ref a7, .ref a8, .ref a9, .int (nI tp), .int (nI ((lvs (gS1 S (cls tp L R) rq w sp0) 1).length)), .ref b1, .int (nI bl), .ref b2, .ref b3, .int (nI (jn + ((lvs sp0 1).length - (lvs (gS1 S (cls tp L R) rq w sp0) 1).length))), .int (nI (sn + 0)), .ref b4, .ref b5, .ref b6, .ref b7, .ref b8, .int (nI wt), .int (nI wm), .int (nI wg), .long (lN wo), .int (nI wd), .ref b9])), (b1, .inl (cJ, 14000, .inr (.inl (fun j => lN (nd0 j))))), (a4, .inl (cI, 25, .inl sz)), (a5, .inl (cI, 25, .inl lf)), (a6, .inl (cI, 25, .inl rt)), (b2, .inl (cI, 256, .inl (fun j => nI (ba j)))), (b3, .inl (cI, 256, .inl (fun j => nI (rv j))))] s.heap := by rw [hgs.1, Nat.sub_self]; exact hP
    have hD : va_D A [(rm, .inr (4, [.int (nI cd), .ref a1, .ref a2, .ref a3, .ref a4, .ref a5, .ref a6, .ref a7, .ref a8, .ref a9, .int (nI tp), .int (nI ((lvs (gS1 S (cls tp L R) rq w sp0) 1).length)), .ref b1, .int (nI bl), .ref b2, .ref b3, .int (nI (jn + ((lvs sp0 1).length - (lvs (gS1 S (cls tp L R) rq w sp0) 1).length))), .int (nI (sn + 0)), .ref b4, .ref b5, .ref b6, .ref b7, .ref b8, .int (nI wt), .int (nI wm), .int (nI wg), .long (lN wo), .int (nI wd), .ref b9])), (b1, .inl (cJ, 14000, .inr (.inl (fun j => lN (nd0 j))))), (a4, .inl (cI, 25, .inl sz)), (a5, .inl (cI, 25, .inl lf)), (a6, .inl (cI, 25, .inl rt)), (b2, .inl (cI, 256, .inl (fun j => nI (ba j)))), (b3, .inl (cI, 256, .inl (fun j => nI (rv j))))] := by rw [hgs.1, Nat.sub_self]; exact hD
    refine lp_X4_giveWords_29 l g cI cJ cZ rm a1 a2 a3 a4 a5 a6 a7 a8 a9 b1 b2 b3 b4 b5 b6 b7 b8 b9 cd tp bl jn sn wt wm wg wo wd sz lf rt S L R rc sp0 rq nd0 ba rv w hR hT0 hW0 hlen0 hrl hw1 hw hgb hfin hbl (gC S L R (cls tp L R) rq w sp0) hfin ⟨hx, hb, hr, hml, hown, hts, hlocks⟩ hk hA (fun i x d sp nd hT hW hix hrx hZ H locs hP hD hS ls hl => ?_) _ (plc (lvs sp0 1) (bst S (cls tp L R) rq w (lvs sp0 1))) (gB S (cls tp L R) rq w sp0) 0 24 (gS1 S (cls tp L R) rq w sp0) nd0 (Nat.lt_succ_self _) rfl (Nat.zero_le _) (gS1_ok hR hT0) (by rw [hgs.1]; exact hW0) (by rw [hgs.1, hgs.2]; exact hat) ((bst_leaf hR (gS1_ok hR hT0) hgb).2.2.1) (((gC_s hgb).1).symm) _ _ hP hD hS ls (lv_sub hl [2, 3, 1, 0] rfl)
    · skip
      have hi9 := at_lt hix
      have hlm := lvs_mem hR hT 1 ex_1 x (List.mem_of_getElem? hix)
      have hxe := hlm.1
      have hxs := hlm.2
      have hgk := gC_ok hR hT0 hw1 hgb
      rw [← hZ] at hgk hfin
      have hwS : w ≤ S (cls tp L R x) := hgk.2.2.2.2.1
      have hlen : (lvs sp 1).length ≤ 14000 := hfin
      refine lv_aload_n hx hb dX4_giveWords_289 rfl (lv_at hl 0 rfl) ?_
      refine va_get (D := g) (ci := 4) (v := .ref b1) (C := RX4) (T := TX4) (N := 29) hx hb hts hinX4 hown hK hP 0 rfl rfl 12 (by decide) (hts (.fieldLink RX4 38 "BuddyRoofModel" "node" "[J") (by decide +kernel)) (fun _ h9 => h9) rfl dX4_giveWords_290 ?_
      refine lv_iload_n hx hb dX4_giveWords_293 rfl (lv_at hl 2 rfl) ?_
      refine lv_dup2_11 hx hb dX4_giveWords_294 rfl rfl ?_
      refine n_lald (v := lN (nd i)) hx hb hK hP 1 1 rfl rfl (i := i) (by omega) (by decide) rfl dX4_giveWords_295 ?_
      refine lv_ldc2 hx hb (v := 34359738368) hown (hts (.constantLong RX4 149 34359738368) (by decide +kernel)) dX4_giveWords_296 ?_
      refine n_topl _ (lN 34359738368) (by decide) ?_
      refine lv_lor hx hb dX4_giveWords_299 ?_
      refine n_topl _ (lN ((nd i) ||| 34359738368)) (lx_or _ _) ?_
      refine n_topl _ (lN (wrd tp S L R (upN rq x w) x)) (by rw [hW i x hix]; exact congrArg lN (wrd_on hR hT hxe hrx hw1)) ?_
      refine n_lastM hx hb hK hP hD hS 1 1 rfl rfl (i := i) (v := (wrd tp S L R (upN rq x w) x)) (by omega) (by decide) dX4_giveWords_300 (fun H locs hP hD hS => ?_)
      have hP : va_P g vwCl [(rm, .inr (4, [.int (nI cd), .ref a1, .ref a2, .ref a3, .ref a4, .ref a5, .ref a6, .ref a7, .ref a8, .ref a9, .int (nI tp), .int (nI ((lvs sp 1).length)), .ref b1, .int (nI bl), .ref b2, .ref b3, .int (nI (jn + ((lvs sp0 1).length - (lvs (gS1 S (cls tp L R) rq w sp0) 1).length))), .int (nI (sn + d)), .ref b4, .ref b5, .ref b6, .ref b7, .ref b8, .int (nI wt), .int (nI wm), .int (nI wg), .long (lN wo), .int (nI wd), .ref b9])), (b1, .inl (cJ, 14000, .inr (.inl (fun j => lN ((upN nd i (wrd tp S L R (upN rq x w) x)) j))))), (a4, .inl (cI, 25, .inl sz)), (a5, .inl (cI, 25, .inl lf)), (a6, .inl (cI, 25, .inl rt)), (b2, .inl (cI, 256, .inl (fun j => nI (ba j)))), (b3, .inl (cI, 256, .inl (fun j => nI (rv j))))] H := hP
      have hD : va_D A [(rm, .inr (4, [.int (nI cd), .ref a1, .ref a2, .ref a3, .ref a4, .ref a5, .ref a6, .ref a7, .ref a8, .ref a9, .int (nI tp), .int (nI ((lvs sp 1).length)), .ref b1, .int (nI bl), .ref b2, .ref b3, .int (nI (jn + ((lvs sp0 1).length - (lvs (gS1 S (cls tp L R) rq w sp0) 1).length))), .int (nI (sn + d)), .ref b4, .ref b5, .ref b6, .ref b7, .ref b8, .int (nI wt), .int (nI wm), .int (nI wg), .long (lN wo), .int (nI wd), .ref b9])), (b1, .inl (cJ, 14000, .inr (.inl (fun j => lN ((upN nd i (wrd tp S L R (upN rq x w) x)) j))))), (a4, .inl (cI, 25, .inl sz)), (a5, .inl (cI, 25, .inl lf)), (a6, .inl (cI, 25, .inl rt)), (b2, .inl (cI, 256, .inl (fun j => nI (ba j)))), (b3, .inl (cI, 256, .inl (fun j => nI (rv j))))] := hD
      refine lv_aload_n hx hb dX4_giveWords_301 rfl (lv_at hl 0 rfl) ?_
      refine va_get (D := g) (ci := 4) (v := .ref b2) (C := RX4) (T := TX4) (N := 29) hx hb hts hinX4 hown hK hP 0 rfl rfl 14 (by decide) (hts (.fieldLink RX4 42 "BuddyRoofModel" "blockAt" "[I") (by decide +kernel)) (fun _ h9 => h9) rfl dX4_giveWords_302 ?_
      refine lv_aload_n hx hb dX4_giveWords_305 rfl (lv_at hl 0 rfl) ?_
      refine va_get (D := g) (ci := 4) (v := .int (nI bl)) (C := RX4) (T := TX4) (N := 29) hx hb hts hinX4 hown hK hP 0 rfl rfl 13 (by decide) (hts (.fieldLink RX4 103 "BuddyRoofModel" "blocks" "I") (by decide +kernel)) (fun _ h9 => h9) rfl dX4_giveWords_306 ?_
      refine lv_aload_n hx hb dX4_giveWords_309 rfl (lv_at hl 0 rfl) ?_
      refine lv_iload_n hx hb dX4_giveWords_310 rfl (lv_at hl 2 rfl) ?_
      have hW2 : nW tp S L R (upN rq x w) (upN nd i (wrd tp S L R (upN rq x w) x)) (lvs sp 1) := nW_set (lvs_nodup hR hT ex_1) hW hix (fun j q1 => upN_n _ _ q1) (upN_s _ _ _)
      have hT2 := TOK_set hT hxe hxs hwS
      obtain ⟨yy, yy_1, yy_2, yy_3, yy_4, yy_5, yy_6, -⟩ := nW_rd (i := i) hR hT2 hW2 hlen hi9
      obtain rfl : x = yy := by rw [hix] at yy_1; exact Option.some.inj yy_1
      refine k_goR (W.runV (As := [.int (nI i)]) (rest := [.int (nI bl), .ref b2]) ⟨hx, hb, hml, hown, hts⟩ (c_X4_address l g cI cJ cZ rm a1 a2 a3 a4 a5 a6 a7 a8 a9 b1 b2 b3 b4 b5 b6 b7 b8 b9 cd tp ((lvs sp 1).length) bl (jn + ((lvs sp0 1).length - (lvs (gS1 S (cls tp L R) rq w sp0) 1).length)) (sn + d) wt wm wg wo wd (upN nd i (wrd tp S L R (upN rq x w) x)) i yy_4 yy_5) (cwV 1 hts gX4_giveWords_X4_address rfl rfl rfl (by decide +kernel) ⟨Nat.le_of_ble_eq_true rfl, Nat.le_of_ble_eq_true rfl⟩) (k_preRV hk hP [0, 1] rfl (ci := 4) (q0 := 0) rfl rfl) rfl rfl hl.1 rfl (lv_room (Nat.le_of_ble_eq_true rfl)) dX4_giveWords_311 ⟨by first | exact Nat.zero_le _ | omega, by first | exact Nat.zero_le _ | omega⟩) ?_
      refine n_top _ (nI (adr tp S L R x)) (congrArg nI yy_6) ?_
      refine n_ast hx hb hK hP hD hS 5 0 rfl rfl (i := bl) (v := (adr tp S L R x)) (by omega) (by decide) dX4_giveWords_314 (fun H locs hP hD hS => ?_)
      have hP : va_P g vwCl [(rm, .inr (4, [.int (nI cd), .ref a1, .ref a2, .ref a3, .ref a4, .ref a5, .ref a6, .ref a7, .ref a8, .ref a9, .int (nI tp), .int (nI ((lvs sp 1).length)), .ref b1, .int (nI bl), .ref b2, .ref b3, .int (nI (jn + ((lvs sp0 1).length - (lvs (gS1 S (cls tp L R) rq w sp0) 1).length))), .int (nI (sn + d)), .ref b4, .ref b5, .ref b6, .ref b7, .ref b8, .int (nI wt), .int (nI wm), .int (nI wg), .long (lN wo), .int (nI wd), .ref b9])), (b1, .inl (cJ, 14000, .inr (.inl (fun j => lN ((upN nd i (wrd tp S L R (upN rq x w) x)) j))))), (a4, .inl (cI, 25, .inl sz)), (a5, .inl (cI, 25, .inl lf)), (a6, .inl (cI, 25, .inl rt)), (b2, .inl (cI, 256, .inl (fun j => nI ((upN ba bl (adr tp S L R x)) j)))), (b3, .inl (cI, 256, .inl (fun j => nI (rv j))))] H := hP
      have hD : va_D A [(rm, .inr (4, [.int (nI cd), .ref a1, .ref a2, .ref a3, .ref a4, .ref a5, .ref a6, .ref a7, .ref a8, .ref a9, .int (nI tp), .int (nI ((lvs sp 1).length)), .ref b1, .int (nI bl), .ref b2, .ref b3, .int (nI (jn + ((lvs sp0 1).length - (lvs (gS1 S (cls tp L R) rq w sp0) 1).length))), .int (nI (sn + d)), .ref b4, .ref b5, .ref b6, .ref b7, .ref b8, .int (nI wt), .int (nI wm), .int (nI wg), .long (lN wo), .int (nI wd), .ref b9])), (b1, .inl (cJ, 14000, .inr (.inl (fun j => lN ((upN nd i (wrd tp S L R (upN rq x w) x)) j))))), (a4, .inl (cI, 25, .inl sz)), (a5, .inl (cI, 25, .inl lf)), (a6, .inl (cI, 25, .inl rt)), (b2, .inl (cI, 256, .inl (fun j => nI ((upN ba bl (adr tp S L R x)) j)))), (b3, .inl (cI, 256, .inl (fun j => nI (rv j))))] := hD
      refine lv_aload_n hx hb dX4_giveWords_315 rfl (lv_at hl 0 rfl) ?_
      refine va_get (D := g) (ci := 4) (v := .ref b3) (C := RX4) (T := TX4) (N := 29) hx hb hts hinX4 hown hK hP 0 rfl rfl 15 (by decide) (hts (.fieldLink RX4 45 "BuddyRoofModel" "request" "[I") (by decide +kernel)) (fun _ h9 => h9) rfl dX4_giveWords_316 ?_
      refine lv_aload_n hx hb dX4_giveWords_319 rfl (lv_at hl 0 rfl) ?_
      refine va_get (D := g) (ci := 4) (v := .int (nI bl)) (C := RX4) (T := TX4) (N := 29) hx hb hts hinX4 hown hK hP 0 rfl rfl 13 (by decide) (hts (.fieldLink RX4 103 "BuddyRoofModel" "blocks" "I") (by decide +kernel)) (fun _ h9 => h9) rfl dX4_giveWords_320 ?_
      refine lv_iload_n hx hb dX4_giveWords_323 rfl (lv_at hl 1 rfl) ?_
      refine n_ast hx hb hK hP hD hS 6 0 rfl rfl (i := bl) (v := w) (by omega) (by decide) dX4_giveWords_324 (fun H locs hP hD hS => ?_)
      have hP : va_P g vwCl [(rm, .inr (4, [.int (nI cd), .ref a1, .ref a2, .ref a3, .ref a4, .ref a5, .ref a6, .ref a7, .ref a8, .ref a9, .int (nI tp), .int (nI ((lvs sp 1).length)), .ref b1, .int (nI bl), .ref b2, .ref b3, .int (nI (jn + ((lvs sp0 1).length - (lvs (gS1 S (cls tp L R) rq w sp0) 1).length))), .int (nI (sn + d)), .ref b4, .ref b5, .ref b6, .ref b7, .ref b8, .int (nI wt), .int (nI wm), .int (nI wg), .long (lN wo), .int (nI wd), .ref b9])), (b1, .inl (cJ, 14000, .inr (.inl (fun j => lN ((upN nd i (wrd tp S L R (upN rq x w) x)) j))))), (a4, .inl (cI, 25, .inl sz)), (a5, .inl (cI, 25, .inl lf)), (a6, .inl (cI, 25, .inl rt)), (b2, .inl (cI, 256, .inl (fun j => nI ((upN ba bl (adr tp S L R x)) j)))), (b3, .inl (cI, 256, .inl (fun j => nI ((upN rv bl w) j))))] H := hP
      have hD : va_D A [(rm, .inr (4, [.int (nI cd), .ref a1, .ref a2, .ref a3, .ref a4, .ref a5, .ref a6, .ref a7, .ref a8, .ref a9, .int (nI tp), .int (nI ((lvs sp 1).length)), .ref b1, .int (nI bl), .ref b2, .ref b3, .int (nI (jn + ((lvs sp0 1).length - (lvs (gS1 S (cls tp L R) rq w sp0) 1).length))), .int (nI (sn + d)), .ref b4, .ref b5, .ref b6, .ref b7, .ref b8, .int (nI wt), .int (nI wm), .int (nI wg), .long (lN wo), .int (nI wd), .ref b9])), (b1, .inl (cJ, 14000, .inr (.inl (fun j => lN ((upN nd i (wrd tp S L R (upN rq x w) x)) j))))), (a4, .inl (cI, 25, .inl sz)), (a5, .inl (cI, 25, .inl lf)), (a6, .inl (cI, 25, .inl rt)), (b2, .inl (cI, 256, .inl (fun j => nI ((upN ba bl (adr tp S L R x)) j)))), (b3, .inl (cI, 256, .inl (fun j => nI ((upN rv bl w) j))))] := hD
      refine lv_aload_n hx hb dX4_giveWords_325 rfl (lv_at hl 0 rfl) ?_
      refine lv_dup hx hb dX4_giveWords_326 rfl ?_
      refine va_get (D := g) (ci := 4) (v := .int (nI bl)) (C := RX4) (T := TX4) (N := 29) hx hb hts hinX4 hown hK hP 0 rfl rfl 13 (by decide) (hts (.fieldLink RX4 103 "BuddyRoofModel" "blocks" "I") (by decide +kernel)) (fun _ h9 => h9) rfl dX4_giveWords_327 ?_
      refine lv_iconst (v := nI 1) hx hb dX4_giveWords_330 (by decide) ?_
      refine n_iadd hx hb dX4_giveWords_331 ?_
      refine va_put (D := g) (ci := 4) (v := .int (nI (bl + 1))) (ty := .int) (C := RX4) (T := TX4) (N := 29) hx hb hts hinX4 tyX4 tyX4_ok nmX4 hown hK hP hD hS 0 rfl rfl 13 (by decide) (hts (.fieldLink RX4 103 "BuddyRoofModel" "blocks" "I") (by decide +kernel)) (fun _ h9 => h9) rfl (by decide +kernel) rfl rfl (Nat.le_of_ble_eq_true rfl) dX4_giveWords_332 (fun H locs hP hD hS => ?_)
      have hP : va_P g vwCl [(rm, .inr (4, [.int (nI cd), .ref a1, .ref a2, .ref a3, .ref a4, .ref a5, .ref a6, .ref a7, .ref a8, .ref a9, .int (nI tp), .int (nI ((lvs sp 1).length)), .ref b1, .int (nI (bl + 1)), .ref b2, .ref b3, .int (nI (jn + ((lvs sp0 1).length - (lvs (gS1 S (cls tp L R) rq w sp0) 1).length))), .int (nI (sn + d)), .ref b4, .ref b5, .ref b6, .ref b7, .ref b8, .int (nI wt), .int (nI wm), .int (nI wg), .long (lN wo), .int (nI wd), .ref b9])), (b1, .inl (cJ, 14000, .inr (.inl (fun j => lN ((upN nd i (wrd tp S L R (upN rq x w) x)) j))))), (a4, .inl (cI, 25, .inl sz)), (a5, .inl (cI, 25, .inl lf)), (a6, .inl (cI, 25, .inl rt)), (b2, .inl (cI, 256, .inl (fun j => nI ((upN ba bl (adr tp S L R x)) j)))), (b3, .inl (cI, 256, .inl (fun j => nI ((upN rv bl w) j))))] H := hP
      have hD : va_D A [(rm, .inr (4, [.int (nI cd), .ref a1, .ref a2, .ref a3, .ref a4, .ref a5, .ref a6, .ref a7, .ref a8, .ref a9, .int (nI tp), .int (nI ((lvs sp 1).length)), .ref b1, .int (nI (bl + 1)), .ref b2, .ref b3, .int (nI (jn + ((lvs sp0 1).length - (lvs (gS1 S (cls tp L R) rq w sp0) 1).length))), .int (nI (sn + d)), .ref b4, .ref b5, .ref b6, .ref b7, .ref b8, .int (nI wt), .int (nI wm), .int (nI wg), .long (lN wo), .int (nI wd), .ref b9])), (b1, .inl (cJ, 14000, .inr (.inl (fun j => lN ((upN nd i (wrd tp S L R (upN rq x w) x)) j))))), (a4, .inl (cI, 25, .inl sz)), (a5, .inl (cI, 25, .inl lf)), (a6, .inl (cI, 25, .inl rt)), (b2, .inl (cI, 256, .inl (fun j => nI ((upN ba bl (adr tp S L R x)) j)))), (b3, .inl (cI, 256, .inl (fun j => nI ((upN rv bl w) j))))] := hD
      refine lv_aload_n hx hb dX4_giveWords_335 rfl (lv_at hl 0 rfl) ?_
      refine lv_iload_n hx hb dX4_giveWords_336 rfl (lv_at hl 2 rfl) ?_
      refine k_goR (W.runV (As := [.int (nI i)]) (rest := []) ⟨hx, hb, hml, hown, hts⟩ (c_X4_address l g cI cJ cZ rm a1 a2 a3 a4 a5 a6 a7 a8 a9 b1 b2 b3 b4 b5 b6 b7 b8 b9 cd tp ((lvs sp 1).length) (bl + 1) (jn + ((lvs sp0 1).length - (lvs (gS1 S (cls tp L R) rq w sp0) 1).length)) (sn + d) wt wm wg wo wd (upN nd i (wrd tp S L R (upN rq x w) x)) i yy_4 yy_5) (cwV 1 hts gX4_giveWords_X4_address rfl rfl rfl (by decide +kernel) ⟨Nat.le_of_ble_eq_true rfl, Nat.le_of_ble_eq_true rfl⟩) (k_preRV hk hP [0, 1] rfl (ci := 4) (q0 := 0) rfl rfl) rfl rfl hl.1 rfl (lv_room (Nat.le_of_ble_eq_true rfl)) dX4_giveWords_337 ⟨by first | exact Nat.zero_le _ | omega, by first | exact Nat.zero_le _ | omega⟩) ?_
      refine n_top _ (nI (adr tp S L R x)) (congrArg nI yy_6) ?_
      have hP := hP.sub (ws' := [(rm, .inr (4, [.int (nI cd), .ref a1, .ref a2, .ref a3, .ref a4, .ref a5, .ref a6, .ref a7, .ref a8, .ref a9, .int (nI tp), .int (nI ((lvs sp 1).length)), .ref b1, .int (nI (bl + 1)), .ref b2, .ref b3, .int (nI (jn + ((lvs sp0 1).length - (lvs (gS1 S (cls tp L R) rq w sp0) 1).length))), .int (nI (sn + d)), .ref b4, .ref b5, .ref b6, .ref b7, .ref b8, .int (nI wt), .int (nI wm), .int (nI wg), .long (lN wo), .int (nI wd), .ref b9])), (b1, .inl (cJ, 14000, .inr (.inl (fun j => lN ((upN nd i (wrd tp S L R (upN rq x w) x)) j))))), (a4, .inl (cI, 25, .inl sz)), (a5, .inl (cI, 25, .inl lf)), (a6, .inl (cI, 25, .inl rt)), (b2, .inl (cI, 256, .inl (fun j => nI ((upN ba bl (adr tp S L R x)) j)))), (b3, .inl (cI, 256, .inl (fun j => nI ((upN rv bl w) j))))]) [0, 1, 2, 3, 4, 5, 6] rfl
      have hD := hD.sub (ws' := [(rm, .inr (4, [.int (nI cd), .ref a1, .ref a2, .ref a3, .ref a4, .ref a5, .ref a6, .ref a7, .ref a8, .ref a9, .int (nI tp), .int (nI ((lvs sp 1).length)), .ref b1, .int (nI (bl + 1)), .ref b2, .ref b3, .int (nI (jn + ((lvs sp0 1).length - (lvs (gS1 S (cls tp L R) rq w sp0) 1).length))), .int (nI (sn + d)), .ref b4, .ref b5, .ref b6, .ref b7, .ref b8, .int (nI wt), .int (nI wm), .int (nI wg), .long (lN wo), .int (nI wd), .ref b9])), (b1, .inl (cJ, 14000, .inr (.inl (fun j => lN ((upN nd i (wrd tp S L R (upN rq x w) x)) j))))), (a4, .inl (cI, 25, .inl sz)), (a5, .inl (cI, 25, .inl lf)), (a6, .inl (cI, 25, .inl rt)), (b2, .inl (cI, 256, .inl (fun j => nI ((upN ba bl (adr tp S L R x)) j)))), (b3, .inl (cI, 256, .inl (fun j => nI ((upN rv bl w) j))))]) [0, 1, 2, 3, 4, 5, 6] rfl rfl
      refine W.widen (k := 0) (n := 0) (by first | exact Nat.le_refl _ | omega) (by first | exact Nat.le_refl _ | omega) ?_
      exact k_retI (sz := 0) (v := nI (adr tp S L R x)) hx hb hr hlocks hAe hS hP hD (upN nd i (wrd tp S L R (upN rq x w) x)) (by rw [← hZ]) (by rw [(gC_s hgb).2, ← hZ]; exact ⟨rfl, hW2⟩) dX4_giveWords_340
  · skip
    have hb0 : (bst S (cls tp L R) rq w (lvs sp0 1)) = 0 := Classical.byContradiction fun hbx => c1 (by
      rw [if_neg hbx]
      have hat := plc_mem (lvs_all hR hT0 (bst_leaf (w := w) hR hT0 hbx).1 (bst_leaf (w := w) hR hT0 hbx).2.1)
      have hal := at_lt hat
      exact nI_pos' (by omega))
    refine lv_aload_n hx hb dX4_giveWords_10 rfl (lv_at hl 1 rfl) ?_
    refine k_goI (wr := [(b2, .inl (cI, 256, .inl (fun j => nI (ba j)))), (b3, .inl (cI, 256, .inl (fun j => nI (rv j))))]) (va_runV (As := []) (rest := []) ⟨hx, hb, hml, hown, hts⟩ (c_X4_joinAll l g cI cJ cZ rm a1 a2 a3 a4 a5 a6 a7 a8 a9 b1 b2 b3 b4 b5 b6 b7 b8 b9 cd tp bl jn sn wt wm wg wo wd sz lf rt S L R rc sp0 rq nd0  hR hT0 hW0 hlen0 hrl _) (cwV 0 hts gX4_giveWords_X4_joinAll rfl rfl rfl (by decide +kernel) ⟨Nat.le_of_ble_eq_true rfl, Nat.le_of_ble_eq_true rfl⟩) (k_preV hk hP hD [0, 1, 2, 3, 4] rfl rfl (ci := 4) (q0 := 0) rfl rfl) rfl rfl hl.1 rfl (lv_room (Nat.le_of_ble_eq_true rfl)) dX4_giveWords_11 ⟨by first | exact Nat.zero_le _ | omega, by first | exact Nat.zero_le _ | omega⟩) hP hD hS hA [0, 1, 2, 3, 4] [5, 6] rfl rfl rfl (by decide) (fun rv nd1 H locs hu hP hD hS => ?_)
    obtain ⟨hrv, hW1, hle1⟩ := hu
    subst hrv
    have hT1 := jal_ok hR hT0
    have hgs := gS1_b (S := S) (L := L) (R := R) (rq := rq) (w := w) (sp := sp0) (top := tp) hb0
    have hP : va_P g vwCl [(b2, .inl (cI, 256, .inl (fun j => nI (ba j)))), (b3, .inl (cI, 256, .inl (fun j => nI (rv j)))), (rm, .inr (4, [.int (nI cd), .ref a1, .ref a2, .ref a3, .ref a4, .ref a5, .ref a6, .ref a7, .ref a8, .ref a9, .int (nI tp), .int (nI ((lvs (jal sp0 rq) 1).length)), .ref b1, .int (nI bl), .ref b2, .ref b3, .int (nI (jn + ((lvs sp0 1).length - (lvs (jal sp0 rq) 1).length))), .int (nI sn), .ref b4, .ref b5, .ref b6, .ref b7, .ref b8, .int (nI wt), .int (nI wm), .int (nI wg), .long (lN wo), .int (nI wd), .ref b9])), (b1, .inl (cJ, 14000, .inr (.inl (fun j => lN (nd1 j))))), (a4, .inl (cI, 25, .inl sz)), (a5, .inl (cI, 25, .inl lf)), (a6, .inl (cI, 25, .inl rt))] H := hP
    have hD : va_D A [(b2, .inl (cI, 256, .inl (fun j => nI (ba j)))), (b3, .inl (cI, 256, .inl (fun j => nI (rv j)))), (rm, .inr (4, [.int (nI cd), .ref a1, .ref a2, .ref a3, .ref a4, .ref a5, .ref a6, .ref a7, .ref a8, .ref a9, .int (nI tp), .int (nI ((lvs (jal sp0 rq) 1).length)), .ref b1, .int (nI bl), .ref b2, .ref b3, .int (nI (jn + ((lvs sp0 1).length - (lvs (jal sp0 rq) 1).length))), .int (nI sn), .ref b4, .ref b5, .ref b6, .ref b7, .ref b8, .int (nI wt), .int (nI wm), .int (nI wg), .long (lN wo), .int (nI wd), .ref b9])), (b1, .inl (cJ, 14000, .inr (.inl (fun j => lN (nd1 j))))), (a4, .inl (cI, 25, .inl sz)), (a5, .inl (cI, 25, .inl lf)), (a6, .inl (cI, 25, .inl rt))] := hD
    refine lv_pop hx hb dX4_giveWords_14 rfl ?_
    refine lv_aload_n hx hb dX4_giveWords_15 rfl (lv_at hl 1 rfl) ?_
    refine lv_iload_n hx hb dX4_giveWords_16 rfl (lv_at hl 2 rfl) ?_
    refine k_goR (W.runV (As := [.int (nI w)]) (rest := []) ⟨hx, hb, hml, hown, hts⟩ (c_X4_best l g cI cJ cZ rm a1 a2 a3 a4 a5 a6 a7 a8 a9 b1 b2 b3 b4 b5 b6 b7 b8 b9 cd tp bl (jn + ((lvs sp0 1).length - (lvs (jal sp0 rq) 1).length)) sn wt wm wg wo wd sz lf rt S L R rc (jal sp0 rq) rq nd1 w hR hT1 hW1 (by omega) hrl hw) (cwV 1 hts gX4_giveWords_X4_best rfl rfl rfl (by decide +kernel) ⟨Nat.le_of_ble_eq_true rfl, Nat.le_of_ble_eq_true rfl⟩) (k_preRV hk hP [2, 3, 4, 5, 6] rfl (ci := 4) (q0 := 0) rfl rfl) rfl rfl hl.1 rfl (lv_room (Nat.le_of_ble_eq_true rfl)) dX4_giveWords_17 ⟨by first | exact Nat.zero_le _ | omega, by first | exact Nat.zero_le _ | omega⟩) ?_
    refine lv_istore_n (lv' := [(2, .int (if bst S (cls tp L R) rq w (lvs (jal sp0 rq) 1) = 0 then -1 else nI (plc (lvs (jal sp0 rq) 1) (bst S (cls tp L R) rq w (lvs (jal sp0 rq) 1))))), (0, .ref rm), (1, .int (nI w))]) hx hb dX4_giveWords_20 rfl hl (by decide) rfl (fun ls hl => ?_)
    refine lv_iload_n hx hb dX4_giveWords_21 rfl (lv_at hl 0 rfl) ?_
    refine lv_if_ge (tgt := 27) hx hb dX4_giveWords_22 (by decide) (fun c3 => ?_) (fun c3 => ?_)
    · skip
      have hbx : (bst S (cls tp L R) rq w (lvs (jal sp0 rq) 1)) ≠ 0 := fun e9 => by rw [if_pos e9] at c3; exact absurd c3 (by decide)
      rw [if_neg hbx] at hl
      have hat := plc_mem (lvs_all hR hT1 (bst_leaf (w := w) hR hT1 hbx).1 (bst_leaf (w := w) hR hT1 hbx).2.1)
      have hal := at_lt hat
      refine lv_iconst (v := nI 1) hx hb dX4_giveWords_27 (by decide) ?_
      refine lv_istore_n (lv' := [(3, .int (nI 1)), (2, .int (nI (plc (lvs (jal sp0 rq) 1) (bst S (cls tp L R) rq w (lvs (jal sp0 rq) 1))))), (0, .ref rm), (1, .int (nI w))]) hx hb dX4_giveWords_28 rfl hl (by decide) rfl (fun ls hl => ?_)
      have hP := hP.sub (ws' := [(rm, .inr (4, [.int (nI cd), .ref a1, .ref a2, .ref a3, .ref a4, .ref a5, .ref a6, .ref a7, .ref a8, .ref a9, .int (nI tp), .int (nI ((lvs (jal sp0 rq) 1).length)), .ref b1, .int (nI bl), .ref b2, .ref b3, .int (nI (jn + ((lvs sp0 1).length - (lvs (jal sp0 rq) 1).length))), .int (nI sn), .ref b4, .ref b5, .ref b6, .ref b7, .ref b8, .int (nI wt), .int (nI wm), .int (nI wg), .long (lN wo), .int (nI wd), .ref b9])), (b1, .inl (cJ, 14000, .inr (.inl (fun j => lN (nd1 j))))), (a4, .inl (cI, 25, .inl sz)), (a5, .inl (cI, 25, .inl lf)), (a6, .inl (cI, 25, .inl rt)), (b2, .inl (cI, 256, .inl (fun j => nI (ba j)))), (b3, .inl (cI, 256, .inl (fun j => nI (rv j))))]) [2, 3, 4, 5, 6, 0, 1] rfl
      have hD := hD.sub (ws' := [(rm, .inr (4, [.int (nI cd), .ref a1, .ref a2, .ref a3, .ref a4, .ref a5, .ref a6, .ref a7, .ref a8, .ref a9, .int (nI tp), .int (nI ((lvs (jal sp0 rq) 1).length)), .ref b1, .int (nI bl), .ref b2, .ref b3, .int (nI (jn + ((lvs sp0 1).length - (lvs (jal sp0 rq) 1).length))), .int (nI sn), .ref b4, .ref b5, .ref b6, .ref b7, .ref b8, .int (nI wt), .int (nI wm), .int (nI wg), .long (lN wo), .int (nI wd), .ref b9])), (b1, .inl (cJ, 14000, .inr (.inl (fun j => lN (nd1 j))))), (a4, .inl (cI, 25, .inl sz)), (a5, .inl (cI, 25, .inl lf)), (a6, .inl (cI, 25, .inl rt)), (b2, .inl (cI, 256, .inl (fun j => nI (ba j)))), (b3, .inl (cI, 256, .inl (fun j => nI (rv j))))]) [2, 3, 4, 5, 6, 0, 1] rfl rfl
      have hP : va_P g vwCl [(rm, .inr (4, [.int (nI cd), .ref a1, .ref a2, .ref a3, .ref a4, .ref a5, .ref a6, .ref a7, .ref a8, .ref a9, .int (nI tp), .int (nI ((lvs (gS1 S (cls tp L R) rq w sp0) 1).length)), .ref b1, .int (nI bl), .ref b2, .ref b3, .int (nI (jn + ((lvs sp0 1).length - (lvs (gS1 S (cls tp L R) rq w sp0) 1).length))), .int (nI (sn + 0)), .ref b4, .ref b5, .ref b6, .ref b7, .ref b8, .int (nI wt), .int (nI wm), .int (nI wg), .long (lN wo), .int (nI wd), .ref b9])), (b1, .inl (cJ, 14000, .inr (.inl (fun j => lN (nd1 j))))), (a4, .inl (cI, 25, .inl sz)), (a5, .inl (cI, 25, .inl lf)), (a6, .inl (cI, 25, .inl rt)), (b2, .inl (cI, 256, .inl (fun j => nI (ba j)))), (b3, .inl (cI, 256, .inl (fun j => nI (rv j))))] H := by rw [hgs.1]; exact hP
      have hD : va_D A [(rm, .inr (4, [.int (nI cd), .ref a1, .ref a2, .ref a3, .ref a4, .ref a5, .ref a6, .ref a7, .ref a8, .ref a9, .int (nI tp), .int (nI ((lvs (gS1 S (cls tp L R) rq w sp0) 1).length)), .ref b1, .int (nI bl), .ref b2, .ref b3, .int (nI (jn + ((lvs sp0 1).length - (lvs (gS1 S (cls tp L R) rq w sp0) 1).length))), .int (nI (sn + 0)), .ref b4, .ref b5, .ref b6, .ref b7, .ref b8, .int (nI wt), .int (nI wm), .int (nI wg), .long (lN wo), .int (nI wd), .ref b9])), (b1, .inl (cJ, 14000, .inr (.inl (fun j => lN (nd1 j))))), (a4, .inl (cI, 25, .inl sz)), (a5, .inl (cI, 25, .inl lf)), (a6, .inl (cI, 25, .inl rt)), (b2, .inl (cI, 256, .inl (fun j => nI (ba j)))), (b3, .inl (cI, 256, .inl (fun j => nI (rv j))))] := by rw [hgs.1]; exact hD
      refine lp_X4_giveWords_29 l g cI cJ cZ rm a1 a2 a3 a4 a5 a6 a7 a8 a9 b1 b2 b3 b4 b5 b6 b7 b8 b9 cd tp bl jn sn wt wm wg wo wd sz lf rt S L R rc sp0 rq nd0 ba rv w hR hT0 hW0 hlen0 hrl hw1 hw hgb hfin hbl (gC S L R (cls tp L R) rq w sp0) hfin ⟨hx, hb, hr, hml, hown, hts, hlocks⟩ hk hA (fun i x d sp nd hT hW hix hrx hZ H locs hP hD hS ls hl => ?_) _ (plc (lvs (jal sp0 rq) 1) (bst S (cls tp L R) rq w (lvs (jal sp0 rq) 1))) (gB S (cls tp L R) rq w sp0) 0 24 (gS1 S (cls tp L R) rq w sp0) nd1 (Nat.lt_succ_self _) rfl (Nat.zero_le _) (gS1_ok hR hT0) (by rw [hgs.1]; exact hW1) (by rw [hgs.1, hgs.2]; exact hat) ((bst_leaf hR (gS1_ok hR hT0) hgb).2.2.1) (((gC_s hgb).1).symm) _ _ hP hD hS ls (lv_sub hl [2, 3, 1, 0] rfl)
      · skip
        have hi9 := at_lt hix
        have hlm := lvs_mem hR hT 1 ex_1 x (List.mem_of_getElem? hix)
        have hxe := hlm.1
        have hxs := hlm.2
        have hgk := gC_ok hR hT0 hw1 hgb
        rw [← hZ] at hgk hfin
        have hwS : w ≤ S (cls tp L R x) := hgk.2.2.2.2.1
        have hlen : (lvs sp 1).length ≤ 14000 := hfin
        refine lv_aload_n hx hb dX4_giveWords_289 rfl (lv_at hl 0 rfl) ?_
        refine va_get (D := g) (ci := 4) (v := .ref b1) (C := RX4) (T := TX4) (N := 29) hx hb hts hinX4 hown hK hP 0 rfl rfl 12 (by decide) (hts (.fieldLink RX4 38 "BuddyRoofModel" "node" "[J") (by decide +kernel)) (fun _ h9 => h9) rfl dX4_giveWords_290 ?_
        refine lv_iload_n hx hb dX4_giveWords_293 rfl (lv_at hl 2 rfl) ?_
        refine lv_dup2_11 hx hb dX4_giveWords_294 rfl rfl ?_
        refine n_lald (v := lN (nd i)) hx hb hK hP 1 1 rfl rfl (i := i) (by omega) (by decide) rfl dX4_giveWords_295 ?_
        refine lv_ldc2 hx hb (v := 34359738368) hown (hts (.constantLong RX4 149 34359738368) (by decide +kernel)) dX4_giveWords_296 ?_
        refine n_topl _ (lN 34359738368) (by decide) ?_
        refine lv_lor hx hb dX4_giveWords_299 ?_
        refine n_topl _ (lN ((nd i) ||| 34359738368)) (lx_or _ _) ?_
        refine n_topl _ (lN (wrd tp S L R (upN rq x w) x)) (by rw [hW i x hix]; exact congrArg lN (wrd_on hR hT hxe hrx hw1)) ?_
        refine n_lastM hx hb hK hP hD hS 1 1 rfl rfl (i := i) (v := (wrd tp S L R (upN rq x w) x)) (by omega) (by decide) dX4_giveWords_300 (fun H locs hP hD hS => ?_)
        have hP : va_P g vwCl [(rm, .inr (4, [.int (nI cd), .ref a1, .ref a2, .ref a3, .ref a4, .ref a5, .ref a6, .ref a7, .ref a8, .ref a9, .int (nI tp), .int (nI ((lvs sp 1).length)), .ref b1, .int (nI bl), .ref b2, .ref b3, .int (nI (jn + ((lvs sp0 1).length - (lvs (gS1 S (cls tp L R) rq w sp0) 1).length))), .int (nI (sn + d)), .ref b4, .ref b5, .ref b6, .ref b7, .ref b8, .int (nI wt), .int (nI wm), .int (nI wg), .long (lN wo), .int (nI wd), .ref b9])), (b1, .inl (cJ, 14000, .inr (.inl (fun j => lN ((upN nd i (wrd tp S L R (upN rq x w) x)) j))))), (a4, .inl (cI, 25, .inl sz)), (a5, .inl (cI, 25, .inl lf)), (a6, .inl (cI, 25, .inl rt)), (b2, .inl (cI, 256, .inl (fun j => nI (ba j)))), (b3, .inl (cI, 256, .inl (fun j => nI (rv j))))] H := hP
        have hD : va_D A [(rm, .inr (4, [.int (nI cd), .ref a1, .ref a2, .ref a3, .ref a4, .ref a5, .ref a6, .ref a7, .ref a8, .ref a9, .int (nI tp), .int (nI ((lvs sp 1).length)), .ref b1, .int (nI bl), .ref b2, .ref b3, .int (nI (jn + ((lvs sp0 1).length - (lvs (gS1 S (cls tp L R) rq w sp0) 1).length))), .int (nI (sn + d)), .ref b4, .ref b5, .ref b6, .ref b7, .ref b8, .int (nI wt), .int (nI wm), .int (nI wg), .long (lN wo), .int (nI wd), .ref b9])), (b1, .inl (cJ, 14000, .inr (.inl (fun j => lN ((upN nd i (wrd tp S L R (upN rq x w) x)) j))))), (a4, .inl (cI, 25, .inl sz)), (a5, .inl (cI, 25, .inl lf)), (a6, .inl (cI, 25, .inl rt)), (b2, .inl (cI, 256, .inl (fun j => nI (ba j)))), (b3, .inl (cI, 256, .inl (fun j => nI (rv j))))] := hD
        refine lv_aload_n hx hb dX4_giveWords_301 rfl (lv_at hl 0 rfl) ?_
        refine va_get (D := g) (ci := 4) (v := .ref b2) (C := RX4) (T := TX4) (N := 29) hx hb hts hinX4 hown hK hP 0 rfl rfl 14 (by decide) (hts (.fieldLink RX4 42 "BuddyRoofModel" "blockAt" "[I") (by decide +kernel)) (fun _ h9 => h9) rfl dX4_giveWords_302 ?_
        refine lv_aload_n hx hb dX4_giveWords_305 rfl (lv_at hl 0 rfl) ?_
        refine va_get (D := g) (ci := 4) (v := .int (nI bl)) (C := RX4) (T := TX4) (N := 29) hx hb hts hinX4 hown hK hP 0 rfl rfl 13 (by decide) (hts (.fieldLink RX4 103 "BuddyRoofModel" "blocks" "I") (by decide +kernel)) (fun _ h9 => h9) rfl dX4_giveWords_306 ?_
        refine lv_aload_n hx hb dX4_giveWords_309 rfl (lv_at hl 0 rfl) ?_
        refine lv_iload_n hx hb dX4_giveWords_310 rfl (lv_at hl 2 rfl) ?_
        have hW2 : nW tp S L R (upN rq x w) (upN nd i (wrd tp S L R (upN rq x w) x)) (lvs sp 1) := nW_set (lvs_nodup hR hT ex_1) hW hix (fun j q1 => upN_n _ _ q1) (upN_s _ _ _)
        have hT2 := TOK_set hT hxe hxs hwS
        obtain ⟨yy, yy_1, yy_2, yy_3, yy_4, yy_5, yy_6, -⟩ := nW_rd (i := i) hR hT2 hW2 hlen hi9
        obtain rfl : x = yy := by rw [hix] at yy_1; exact Option.some.inj yy_1
        refine k_goR (W.runV (As := [.int (nI i)]) (rest := [.int (nI bl), .ref b2]) ⟨hx, hb, hml, hown, hts⟩ (c_X4_address l g cI cJ cZ rm a1 a2 a3 a4 a5 a6 a7 a8 a9 b1 b2 b3 b4 b5 b6 b7 b8 b9 cd tp ((lvs sp 1).length) bl (jn + ((lvs sp0 1).length - (lvs (gS1 S (cls tp L R) rq w sp0) 1).length)) (sn + d) wt wm wg wo wd (upN nd i (wrd tp S L R (upN rq x w) x)) i yy_4 yy_5) (cwV 1 hts gX4_giveWords_X4_address rfl rfl rfl (by decide +kernel) ⟨Nat.le_of_ble_eq_true rfl, Nat.le_of_ble_eq_true rfl⟩) (k_preRV hk hP [0, 1] rfl (ci := 4) (q0 := 0) rfl rfl) rfl rfl hl.1 rfl (lv_room (Nat.le_of_ble_eq_true rfl)) dX4_giveWords_311 ⟨by first | exact Nat.zero_le _ | omega, by first | exact Nat.zero_le _ | omega⟩) ?_
        refine n_top _ (nI (adr tp S L R x)) (congrArg nI yy_6) ?_
        refine n_ast hx hb hK hP hD hS 5 0 rfl rfl (i := bl) (v := (adr tp S L R x)) (by omega) (by decide) dX4_giveWords_314 (fun H locs hP hD hS => ?_)
        have hP : va_P g vwCl [(rm, .inr (4, [.int (nI cd), .ref a1, .ref a2, .ref a3, .ref a4, .ref a5, .ref a6, .ref a7, .ref a8, .ref a9, .int (nI tp), .int (nI ((lvs sp 1).length)), .ref b1, .int (nI bl), .ref b2, .ref b3, .int (nI (jn + ((lvs sp0 1).length - (lvs (gS1 S (cls tp L R) rq w sp0) 1).length))), .int (nI (sn + d)), .ref b4, .ref b5, .ref b6, .ref b7, .ref b8, .int (nI wt), .int (nI wm), .int (nI wg), .long (lN wo), .int (nI wd), .ref b9])), (b1, .inl (cJ, 14000, .inr (.inl (fun j => lN ((upN nd i (wrd tp S L R (upN rq x w) x)) j))))), (a4, .inl (cI, 25, .inl sz)), (a5, .inl (cI, 25, .inl lf)), (a6, .inl (cI, 25, .inl rt)), (b2, .inl (cI, 256, .inl (fun j => nI ((upN ba bl (adr tp S L R x)) j)))), (b3, .inl (cI, 256, .inl (fun j => nI (rv j))))] H := hP
        have hD : va_D A [(rm, .inr (4, [.int (nI cd), .ref a1, .ref a2, .ref a3, .ref a4, .ref a5, .ref a6, .ref a7, .ref a8, .ref a9, .int (nI tp), .int (nI ((lvs sp 1).length)), .ref b1, .int (nI bl), .ref b2, .ref b3, .int (nI (jn + ((lvs sp0 1).length - (lvs (gS1 S (cls tp L R) rq w sp0) 1).length))), .int (nI (sn + d)), .ref b4, .ref b5, .ref b6, .ref b7, .ref b8, .int (nI wt), .int (nI wm), .int (nI wg), .long (lN wo), .int (nI wd), .ref b9])), (b1, .inl (cJ, 14000, .inr (.inl (fun j => lN ((upN nd i (wrd tp S L R (upN rq x w) x)) j))))), (a4, .inl (cI, 25, .inl sz)), (a5, .inl (cI, 25, .inl lf)), (a6, .inl (cI, 25, .inl rt)), (b2, .inl (cI, 256, .inl (fun j => nI ((upN ba bl (adr tp S L R x)) j)))), (b3, .inl (cI, 256, .inl (fun j => nI (rv j))))] := hD
        refine lv_aload_n hx hb dX4_giveWords_315 rfl (lv_at hl 0 rfl) ?_
        refine va_get (D := g) (ci := 4) (v := .ref b3) (C := RX4) (T := TX4) (N := 29) hx hb hts hinX4 hown hK hP 0 rfl rfl 15 (by decide) (hts (.fieldLink RX4 45 "BuddyRoofModel" "request" "[I") (by decide +kernel)) (fun _ h9 => h9) rfl dX4_giveWords_316 ?_
        refine lv_aload_n hx hb dX4_giveWords_319 rfl (lv_at hl 0 rfl) ?_
        refine va_get (D := g) (ci := 4) (v := .int (nI bl)) (C := RX4) (T := TX4) (N := 29) hx hb hts hinX4 hown hK hP 0 rfl rfl 13 (by decide) (hts (.fieldLink RX4 103 "BuddyRoofModel" "blocks" "I") (by decide +kernel)) (fun _ h9 => h9) rfl dX4_giveWords_320 ?_
        refine lv_iload_n hx hb dX4_giveWords_323 rfl (lv_at hl 1 rfl) ?_
        refine n_ast hx hb hK hP hD hS 6 0 rfl rfl (i := bl) (v := w) (by omega) (by decide) dX4_giveWords_324 (fun H locs hP hD hS => ?_)
        have hP : va_P g vwCl [(rm, .inr (4, [.int (nI cd), .ref a1, .ref a2, .ref a3, .ref a4, .ref a5, .ref a6, .ref a7, .ref a8, .ref a9, .int (nI tp), .int (nI ((lvs sp 1).length)), .ref b1, .int (nI bl), .ref b2, .ref b3, .int (nI (jn + ((lvs sp0 1).length - (lvs (gS1 S (cls tp L R) rq w sp0) 1).length))), .int (nI (sn + d)), .ref b4, .ref b5, .ref b6, .ref b7, .ref b8, .int (nI wt), .int (nI wm), .int (nI wg), .long (lN wo), .int (nI wd), .ref b9])), (b1, .inl (cJ, 14000, .inr (.inl (fun j => lN ((upN nd i (wrd tp S L R (upN rq x w) x)) j))))), (a4, .inl (cI, 25, .inl sz)), (a5, .inl (cI, 25, .inl lf)), (a6, .inl (cI, 25, .inl rt)), (b2, .inl (cI, 256, .inl (fun j => nI ((upN ba bl (adr tp S L R x)) j)))), (b3, .inl (cI, 256, .inl (fun j => nI ((upN rv bl w) j))))] H := hP
        have hD : va_D A [(rm, .inr (4, [.int (nI cd), .ref a1, .ref a2, .ref a3, .ref a4, .ref a5, .ref a6, .ref a7, .ref a8, .ref a9, .int (nI tp), .int (nI ((lvs sp 1).length)), .ref b1, .int (nI bl), .ref b2, .ref b3, .int (nI (jn + ((lvs sp0 1).length - (lvs (gS1 S (cls tp L R) rq w sp0) 1).length))), .int (nI (sn + d)), .ref b4, .ref b5, .ref b6, .ref b7, .ref b8, .int (nI wt), .int (nI wm), .int (nI wg), .long (lN wo), .int (nI wd), .ref b9])), (b1, .inl (cJ, 14000, .inr (.inl (fun j => lN ((upN nd i (wrd tp S L R (upN rq x w) x)) j))))), (a4, .inl (cI, 25, .inl sz)), (a5, .inl (cI, 25, .inl lf)), (a6, .inl (cI, 25, .inl rt)), (b2, .inl (cI, 256, .inl (fun j => nI ((upN ba bl (adr tp S L R x)) j)))), (b3, .inl (cI, 256, .inl (fun j => nI ((upN rv bl w) j))))] := hD
        refine lv_aload_n hx hb dX4_giveWords_325 rfl (lv_at hl 0 rfl) ?_
        refine lv_dup hx hb dX4_giveWords_326 rfl ?_
        refine va_get (D := g) (ci := 4) (v := .int (nI bl)) (C := RX4) (T := TX4) (N := 29) hx hb hts hinX4 hown hK hP 0 rfl rfl 13 (by decide) (hts (.fieldLink RX4 103 "BuddyRoofModel" "blocks" "I") (by decide +kernel)) (fun _ h9 => h9) rfl dX4_giveWords_327 ?_
        refine lv_iconst (v := nI 1) hx hb dX4_giveWords_330 (by decide) ?_
        refine n_iadd hx hb dX4_giveWords_331 ?_
        refine va_put (D := g) (ci := 4) (v := .int (nI (bl + 1))) (ty := .int) (C := RX4) (T := TX4) (N := 29) hx hb hts hinX4 tyX4 tyX4_ok nmX4 hown hK hP hD hS 0 rfl rfl 13 (by decide) (hts (.fieldLink RX4 103 "BuddyRoofModel" "blocks" "I") (by decide +kernel)) (fun _ h9 => h9) rfl (by decide +kernel) rfl rfl (Nat.le_of_ble_eq_true rfl) dX4_giveWords_332 (fun H locs hP hD hS => ?_)
        have hP : va_P g vwCl [(rm, .inr (4, [.int (nI cd), .ref a1, .ref a2, .ref a3, .ref a4, .ref a5, .ref a6, .ref a7, .ref a8, .ref a9, .int (nI tp), .int (nI ((lvs sp 1).length)), .ref b1, .int (nI (bl + 1)), .ref b2, .ref b3, .int (nI (jn + ((lvs sp0 1).length - (lvs (gS1 S (cls tp L R) rq w sp0) 1).length))), .int (nI (sn + d)), .ref b4, .ref b5, .ref b6, .ref b7, .ref b8, .int (nI wt), .int (nI wm), .int (nI wg), .long (lN wo), .int (nI wd), .ref b9])), (b1, .inl (cJ, 14000, .inr (.inl (fun j => lN ((upN nd i (wrd tp S L R (upN rq x w) x)) j))))), (a4, .inl (cI, 25, .inl sz)), (a5, .inl (cI, 25, .inl lf)), (a6, .inl (cI, 25, .inl rt)), (b2, .inl (cI, 256, .inl (fun j => nI ((upN ba bl (adr tp S L R x)) j)))), (b3, .inl (cI, 256, .inl (fun j => nI ((upN rv bl w) j))))] H := hP
        have hD : va_D A [(rm, .inr (4, [.int (nI cd), .ref a1, .ref a2, .ref a3, .ref a4, .ref a5, .ref a6, .ref a7, .ref a8, .ref a9, .int (nI tp), .int (nI ((lvs sp 1).length)), .ref b1, .int (nI (bl + 1)), .ref b2, .ref b3, .int (nI (jn + ((lvs sp0 1).length - (lvs (gS1 S (cls tp L R) rq w sp0) 1).length))), .int (nI (sn + d)), .ref b4, .ref b5, .ref b6, .ref b7, .ref b8, .int (nI wt), .int (nI wm), .int (nI wg), .long (lN wo), .int (nI wd), .ref b9])), (b1, .inl (cJ, 14000, .inr (.inl (fun j => lN ((upN nd i (wrd tp S L R (upN rq x w) x)) j))))), (a4, .inl (cI, 25, .inl sz)), (a5, .inl (cI, 25, .inl lf)), (a6, .inl (cI, 25, .inl rt)), (b2, .inl (cI, 256, .inl (fun j => nI ((upN ba bl (adr tp S L R x)) j)))), (b3, .inl (cI, 256, .inl (fun j => nI ((upN rv bl w) j))))] := hD
        refine lv_aload_n hx hb dX4_giveWords_335 rfl (lv_at hl 0 rfl) ?_
        refine lv_iload_n hx hb dX4_giveWords_336 rfl (lv_at hl 2 rfl) ?_
        refine k_goR (W.runV (As := [.int (nI i)]) (rest := []) ⟨hx, hb, hml, hown, hts⟩ (c_X4_address l g cI cJ cZ rm a1 a2 a3 a4 a5 a6 a7 a8 a9 b1 b2 b3 b4 b5 b6 b7 b8 b9 cd tp ((lvs sp 1).length) (bl + 1) (jn + ((lvs sp0 1).length - (lvs (gS1 S (cls tp L R) rq w sp0) 1).length)) (sn + d) wt wm wg wo wd (upN nd i (wrd tp S L R (upN rq x w) x)) i yy_4 yy_5) (cwV 1 hts gX4_giveWords_X4_address rfl rfl rfl (by decide +kernel) ⟨Nat.le_of_ble_eq_true rfl, Nat.le_of_ble_eq_true rfl⟩) (k_preRV hk hP [0, 1] rfl (ci := 4) (q0 := 0) rfl rfl) rfl rfl hl.1 rfl (lv_room (Nat.le_of_ble_eq_true rfl)) dX4_giveWords_337 ⟨by first | exact Nat.zero_le _ | omega, by first | exact Nat.zero_le _ | omega⟩) ?_
        refine n_top _ (nI (adr tp S L R x)) (congrArg nI yy_6) ?_
        have hP := hP.sub (ws' := [(rm, .inr (4, [.int (nI cd), .ref a1, .ref a2, .ref a3, .ref a4, .ref a5, .ref a6, .ref a7, .ref a8, .ref a9, .int (nI tp), .int (nI ((lvs sp 1).length)), .ref b1, .int (nI (bl + 1)), .ref b2, .ref b3, .int (nI (jn + ((lvs sp0 1).length - (lvs (gS1 S (cls tp L R) rq w sp0) 1).length))), .int (nI (sn + d)), .ref b4, .ref b5, .ref b6, .ref b7, .ref b8, .int (nI wt), .int (nI wm), .int (nI wg), .long (lN wo), .int (nI wd), .ref b9])), (b1, .inl (cJ, 14000, .inr (.inl (fun j => lN ((upN nd i (wrd tp S L R (upN rq x w) x)) j))))), (a4, .inl (cI, 25, .inl sz)), (a5, .inl (cI, 25, .inl lf)), (a6, .inl (cI, 25, .inl rt)), (b2, .inl (cI, 256, .inl (fun j => nI ((upN ba bl (adr tp S L R x)) j)))), (b3, .inl (cI, 256, .inl (fun j => nI ((upN rv bl w) j))))]) [0, 1, 2, 3, 4, 5, 6] rfl
        have hD := hD.sub (ws' := [(rm, .inr (4, [.int (nI cd), .ref a1, .ref a2, .ref a3, .ref a4, .ref a5, .ref a6, .ref a7, .ref a8, .ref a9, .int (nI tp), .int (nI ((lvs sp 1).length)), .ref b1, .int (nI (bl + 1)), .ref b2, .ref b3, .int (nI (jn + ((lvs sp0 1).length - (lvs (gS1 S (cls tp L R) rq w sp0) 1).length))), .int (nI (sn + d)), .ref b4, .ref b5, .ref b6, .ref b7, .ref b8, .int (nI wt), .int (nI wm), .int (nI wg), .long (lN wo), .int (nI wd), .ref b9])), (b1, .inl (cJ, 14000, .inr (.inl (fun j => lN ((upN nd i (wrd tp S L R (upN rq x w) x)) j))))), (a4, .inl (cI, 25, .inl sz)), (a5, .inl (cI, 25, .inl lf)), (a6, .inl (cI, 25, .inl rt)), (b2, .inl (cI, 256, .inl (fun j => nI ((upN ba bl (adr tp S L R x)) j)))), (b3, .inl (cI, 256, .inl (fun j => nI ((upN rv bl w) j))))]) [0, 1, 2, 3, 4, 5, 6] rfl rfl
        refine W.widen (k := 0) (n := 0) (by first | exact Nat.le_refl _ | omega) (by first | exact Nat.le_refl _ | omega) ?_
        exact k_retI (sz := 0) (v := nI (adr tp S L R x)) hx hb hr hlocks hAe hS hP hD (upN nd i (wrd tp S L R (upN rq x w) x)) (by rw [← hZ]) (by rw [(gC_s hgb).2, ← hZ]; exact ⟨rfl, hW2⟩) dX4_giveWords_340
    · exact (by exact absurd (by rw [if_neg (by rw [← hgs.2]; exact hgb)]; exact nI_pos' (by have := at_lt (plc_mem (lvs_all hR hT1 (bst_leaf (w := w) hR hT1 (by rw [← hgs.2]; exact hgb)).1 (bst_leaf (w := w) hR hT1 (by rw [← hgs.2]; exact hgb)).2.1)); omega)) c3)
