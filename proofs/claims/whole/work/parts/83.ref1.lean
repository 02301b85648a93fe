set_option maxHeartbeats 4000000 in
set_option maxRecDepth 100000 in
theorem c_X4_thrown (l : Launch) (g : va_G) (cI cJ cZ : ClassId) (rm a1 a2 a3 a4 a5 a6 a7 a8 a9 b1 b2 b3 b4 b5 b6 b7 b8 b9 : Nat) (cd tp mn bl jn sn wt wm wg wo wd : Nat)  : kR l g (kty cI cJ cZ) yX4_thrown wsX4_thrown ({ frames := 0, cells := 0, slots := 0, locals := 0 }) [.ref rm] [(rm, .inr (4, [.int (nI cd), .ref a1, .ref a2, .ref a3, .ref a4, .ref a5, .ref a6, .ref a7, .ref a8, .ref a9, .int (nI tp), .int (nI mn), .ref b1, .int (nI bl), .ref b2, .ref b3, .int (nI jn), .int (nI sn), .ref b4, .ref b5, .ref b6, .ref b7, .ref b8, .int (nI wt), .int (nI wm), .int (nI wg), .long (lN wo), .int (nI wd), .ref b9]))] (nI cd) := by
  refine Met.ofW (cc := cX4_thrown) (maxL := 1) (ret := (some .int)) (by decide) rfl ?_
  intro p e s m args below meth c s₁ B hml hv
  obtain ⟨rfl, hP, hk⟩ := hv
  have hx := B.exec
  have hb := B.bytes
  have hr := B.returns
  have hts := atoms_spec (ws := wsX4_thrown) B.pre
  have hown : s.vm.findClass RX4 = some m.cls := findClass_of_methodNamed B.named
  have hlocks := B.notSynchronized
  have hK := hk.1
  have hinX4 : ∀ w ∈ wsX40, w ∈ wsX4_thrown := by decide +kernel
  have hl := lv_entry ([.ref rm]) (n := 1) (Nat.le_of_ble_eq_true rfl)
  rw [lg_entry_eq]
  generalize (lg_sl ([.ref rm]) ++ List.replicate (1 - (lg_sl ([.ref rm])).length) Slot.unset).toArray = ls at hl ⊢
  have hl : lv_has ls 1 [(0, .ref rm)] := hl
  refine lv_aload_n hx hb dX4_thrown_0 rfl (lv_at hl 0 rfl) ?_
  refine va_get (D := g) (ci := 4) (v := .int (nI cd)) (C := RX4) (T := TX4) (N := 29) hx hb hts hinX4 hown hK hP 0 rfl rfl 0 (by decide) (hts (.fieldLink RX4 66 "BuddyRoofModel" "code" "I") (by decide +kernel)) (fun _ h9 => h9) rfl dX4_thrown_1 ?_
  exact k_retR (v := nI cd) hx hb hr hlocks (rfl) dX4_thrown_4
set_option maxHeartbeats 4000000 in
set_option maxRecDepth 100000 in
theorem c_X4_raise (l : Launch) (g : va_G) (cI cJ cZ : ClassId) (rm a1 a2 a3 a4 a5 a6 a7 a8 a9 b1 b2 b3 b4 b5 b6 b7 b8 b9 : Nat) (cd tp mn bl jn sn wt wm wg wo wd : Nat) (kk : Nat)  : kI l g (kty cI cJ cZ) yX4_raise wsX4_raise ({ frames := 0, cells := 0, slots := 0, locals := 0 }) [.ref rm, .int (nI kk)] [(rm, .inr (4, [.int (nI cd), .ref a1, .ref a2, .ref a3, .ref a4, .ref a5, .ref a6, .ref a7, .ref a8, .ref a9, .int (nI tp), .int (nI mn), .ref b1, .int (nI bl), .ref b2, .ref b3, .int (nI jn), .int (nI sn), .ref b4, .ref b5, .ref b6, .ref b7, .ref b8, .int (nI wt), .int (nI wm), .int (nI wg), .long (lN wo), .int (nI wd), .ref b9]))] (S := Unit) (fun r _ => r = nI 0) (fun u => [(rm, .inr (4, [.int (nI kk), .ref a1, .ref a2, .ref a3, .ref a4, .ref a5, .ref a6, .ref a7, .ref a8, .ref a9, .int (nI tp), .int (nI mn), .ref b1, .int (nI bl), .ref b2, .ref b3, .int (nI jn), .int (nI sn), .ref b4, .ref b5, .ref b6, .ref b7, .ref b8, .int (nI wt), .int (nI wm), .int (nI wg), .long (lN wo), .int (nI wd), .ref b9]))]) 0 0 := by
  intro sz
  refine Met.ofW (cc := cX4_raise) (maxL := 2) (ret := (some .int)) (by decide) rfl ?_
  intro p e s m args below meth c s₁ B hml hv
  obtain ⟨rfl, hsz, hP, hk, hD0⟩ := hv
  subst hsz
  have hx := B.exec
  have hb := B.bytes
  have hr := B.returns
  have hts := atoms_spec (ws := wsX4_raise) B.pre
  have hown : s.vm.findClass RX4 = some m.cls := findClass_of_methodNamed B.named
  have hlocks := B.notSynchronized
  have hK := hk.1
  have hinX4 : ∀ w ∈ wsX40, w ∈ wsX4_raise := by decide +kernel
  obtain ⟨A, hAe⟩ : ∃ A, va_A [(rm, .inr (4, [.int (nI cd), .ref a1, .ref a2, .ref a3, .ref a4, .ref a5, .ref a6, .ref a7, .ref a8, .ref a9, .int (nI tp), .int (nI mn), .ref b1, .int (nI bl), .ref b2, .ref b3, .int (nI jn), .int (nI sn), .ref b4, .ref b5, .ref b6, .ref b7, .ref b8, .int (nI wt), .int (nI wm), .int (nI wg), .long (lN wo), .int (nI wd), .ref b9]))] s.heap.size = A := ⟨_, rfl⟩
  have hD := hD0.self (sz := s.heap.size)
  rw [hAe] at hD
  have hA : ∀ q : Nat, s.heap.size ≤ q → A q := fun q h => by rw [← hAe]; exact Or.inr h
  have hS : va_S A s.heap s.heap [] := va_S.rf
  have hl := lv_entry ([.ref rm, .int (nI kk)]) (n := 2) (Nat.le_of_ble_eq_true rfl)
  rw [lg_entry_eq]
  generalize (lg_sl ([.ref rm, .int (nI kk)]) ++ List.replicate (2 - (lg_sl ([.ref rm, .int (nI kk)])).length) Slot.unset).toArray = ls at hl ⊢
  have hl : lv_has ls 2 [(0, .ref rm), (1, .int (nI kk))] := hl
  refine lv_aload_n hx hb dX4_raise_0 rfl (lv_at hl 0 rfl) ?_
  refine lv_iload_n hx hb dX4_raise_1 rfl (lv_at hl 1 rfl) ?_
  refine va_put (D := g) (ci := 4) (v := .int (nI kk)) (ty := .int) (C := RX4) (T := TX4) (N := 29) hx hb hts hinX4 tyX4 tyX4_ok nmX4 hown hK hP hD hS 0 rfl rfl 0 (by decide) (hts (.fieldLink RX4 66 "BuddyRoofModel" "code" "I") (by decide +kernel)) (fun _ h9 => h9) rfl (by decide +kernel) rfl rfl (Nat.le_of_ble_eq_true rfl) dX4_raise_2 (fun H locs hP hD hS => ?_)
  have hP : va_P g vwCl [(rm, .inr (4, [.int (nI kk), .ref a1, .ref a2, .ref a3, .ref a4, .ref a5, .ref a6, .ref a7, .ref a8, .ref a9, .int (nI tp), .int (nI mn), .ref b1, .int (nI bl), .ref b2, .ref b3, .int (nI jn), .int (nI sn), .ref b4, .ref b5, .ref b6, .ref b7, .ref b8, .int (nI wt), .int (nI wm), .int (nI wg), .long (lN wo), .int (nI wd), .ref b9]))] H := hP
  have hD : va_D A [(rm, .inr (4, [.int (nI kk), .ref a1, .ref a2, .ref a3, .ref a4, .ref a5, .ref a6, .ref a7, .ref a8, .ref a9, .int (nI tp), .int (nI mn), .ref b1, .int (nI bl), .ref b2, .ref b3, .int (nI jn), .int (nI sn), .ref b4, .ref b5, .ref b6, .ref b7, .ref b8, .int (nI wt), .int (nI wm), .int (nI wg), .long (lN wo), .int (nI wd), .ref b9]))] := hD
  refine lv_iconst (v := nI 0) hx hb dX4_raise_5 (by decide) ?_
  refine W.widen (k := 0) (n := 0) (by first | exact Nat.le_refl _ | omega) (by first | exact Nat.le_refl _ | omega) ?_
  exact k_retI (sz := 0) (v := nI 0) hx hb hr hlocks hAe hS hP hD () (rfl) (rfl) dX4_raise_6
set_option maxHeartbeats 4000000 in
set_option maxRecDepth 100000 in
theorem c_X4_in (l : Launch) (g : va_G) (cI cJ cZ : ClassId) (v lo hi : Int64)  : kR l g (kty cI cJ cZ) yX4_in wsX4_in ({ frames := 0, cells := 0, slots := 0, locals := 0 }) [.long v, .long lo, .long hi] [] (bI (lo ≤ v ∧ v ≤ hi)) := by
  refine Met.ofW (cc := cX4_in) (maxL := 6) (ret := (some .boolean)) (by decide) rfl ?_
  intro p e s m args below meth c s₁ B hml hv
  obtain ⟨rfl, hP, hk⟩ := hv
  have hx := B.exec
  have hb := B.bytes
  have hr := B.returns
  have hts := atoms_spec (ws := wsX4_in) B.pre
  have hown : s.vm.findClass RX4 = some m.cls := findClass_of_methodNamed B.named
  have hlocks := B.notSynchronized
  have hK := hk.1
  have hl := lv_entry ([.long v, .long lo, .long hi]) (n := 6) (Nat.le_of_ble_eq_true rfl)
  rw [lg_entry_eq]
  generalize (lg_sl ([.long v, .long lo, .long hi]) ++ List.replicate (6 - (lg_sl ([.long v, .long lo, .long hi])).length) Slot.unset).toArray = ls at hl ⊢
  have hl : lv_has ls 6 [(0, .long v), (2, .long lo), (4, .long hi)] := hl
  refine lv_lload_n hx hb dX4_in_0 rfl (lv_at hl 0 rfl) ?_
  refine lv_lload_n hx hb dX4_in_1 rfl (lv_at hl 1 rfl) ?_
  refine W.lcmp hx hb dX4_in_2 ?_
  refine lv_if_lt (tgt := 17) hx hb dX4_in_3 (by decide) (fun c1 => ?_) (fun c1 => ?_)
  · skip
    refine lv_iconst (v := nI 0) hx hb dX4_in_17 (by decide) ?_
    exact k_retRZ (v := nI 0) hx hb hr hlocks (by decide) (by rw [bI_f (fun q => Int64.not_le.mpr ((lc_lt _ _).mp c1) q.1)]) dX4_in_18
  · skip
    refine lv_lload_n hx hb dX4_in_6 rfl (lv_at hl 0 rfl) ?_
    refine lv_lload hx hb dX4_in_7 (lv_at hl 2 rfl) ?_
    refine W.lcmp hx hb dX4_in_9 ?_
    refine lv_if_gt (tgt := 17) hx hb dX4_in_10 (by decide) (fun c2 => ?_) (fun c2 => ?_)
    · skip
      refine lv_iconst (v := nI 0) hx hb dX4_in_17 (by decide) ?_
      exact k_retRZ (v := nI 0) hx hb hr hlocks (by decide) (by rw [bI_f (fun q => (fun h9 => absurd ((lc_le _ _).mpr q.2) (Int32.not_le.mpr h9)) c2)]) dX4_in_18
    · skip
      refine lv_iconst (v := nI 1) hx hb dX4_in_13 (by decide) ?_
      refine lv_goto (tgt := 18) hx hb dX4_in_14 (by decide) ?_
      exact k_retRZ (v := nI 1) hx hb hr hlocks (by decide) (by rw [bI_t ⟨Int64.not_lt.mp (fun q => c1 ((lc_lt _ _).mpr q)), (lc_le _ _).mp (Int32.not_lt.mp c2)⟩]) dX4_in_18
theorem bI_c {P Q : Prop} [Decidable P] [Decidable Q] (h : P ↔ Q) : bI P = bI Q := by
  by_cases c : P
  · rw [bI_t c, bI_t (h.mp c)]
  · rw [bI_f c, bI_f (fun q => c (h.mpr q))]
theorem in_i {v : Int32} {lo hi : Nat} (h1 : lo < 2 ^ 31) (h2 : hi < 2 ^ 31) : (lN lo ≤ v.toInt64 ∧ v.toInt64 ≤ lN hi) ↔ (nI lo ≤ v ∧ v ≤ nI hi) := by
  rw [Int64.le_iff_toInt_le, Int64.le_iff_toInt_le, Int32.le_iff_toInt_le, Int32.le_iff_toInt_le, lN_toInt h1, lN_toInt h2, nI_toInt h1, nI_toInt h2, Int32.toInt_toInt64]
theorem in_n {i lo hi : Nat} (h0 : i < 2 ^ 31) (h1 : lo < 2 ^ 31) (h2 : hi < 2 ^ 31) : (lN lo ≤ lN i ∧ lN i ≤ lN hi) ↔ (lo ≤ i ∧ i ≤ hi) := by
  rw [lN_le h1 h0, lN_le h0 h2]
set_option maxHeartbeats 4000000 in
set_option maxRecDepth 100000 in
theorem c_X4_row (l : Launch) (g : va_G) (cI cJ cZ : ClassId) (rm a1 a2 a3 a4 a5 a6 a7 a8 a9 b1 b2 b3 b4 b5 b6 b7 b8 b9 : Nat) (cd tp mn bl jn sn wt wm wg wo wd : Nat) (tz tl ty : Nat → Int32) (i : Nat) (x1 x2 x3 : Int32) (hi : 1 ≤ i ∧ i ≤ 24) : kV l g (kty cI cJ cZ) yX4_row wsX4_row ({ frames := 1, cells := 0, slots := 0, locals := 25 }) [.ref rm, .int (nI i), .int x1, .int x2, .int x3] [(rm, .inr (4, [.int (nI cd), .ref a1, .ref a2, .ref a3, .ref a4, .ref a5, .ref a6, .ref a7, .ref a8, .ref a9, .int (nI tp), .int (nI mn), .ref b1, .int (nI bl), .ref b2, .ref b3, .int (nI jn), .int (nI sn), .ref b4, .ref b5, .ref b6, .ref b7, .ref b8, .int (nI wt), .int (nI wm), .int (nI wg), .long (lN wo), .int (nI wd), .ref b9])), (a1, .inl (cI, 25, .inl tz)), (a2, .inl (cI, 25, .inl tl)), (a3, .inl (cI, 25, .inl ty))] (S := Unit) (fun _ => True) (fun u => [(rm, .inr (4, [.int (nI 0), .ref a1, .ref a2, .ref a3, .ref a4, .ref a5, .ref a6, .ref a7, .ref a8, .ref a9, .int (nI tp), .int (nI mn), .ref b1, .int (nI bl), .ref b2, .ref b3, .int (nI jn), .int (nI sn), .ref b4, .ref b5, .ref b6, .ref b7, .ref b8, .int (nI wt), .int (nI wm), .int (nI wg), .long (lN wo), .int (nI wd), .ref b9])), (a1, .inl (cI, 25, .inl (upd tz i x1))), (a2, .inl (cI, 25, .inl (upd tl i x2))), (a3, .inl (cI, 25, .inl (upd ty i x3)))]) 0 0 := by
  intro sz
  refine Met.ofW (cc := cX4_row) (maxL := 5) (ret := none) (by decide) rfl ?_
  intro p e s m args below meth c s₁ B hml hv
  obtain ⟨rfl, hsz, hP, hk, hD0⟩ := hv
  subst hsz
  have hx := B.exec
  have hb := B.bytes
  have hr := B.returns
  have hts := atoms_spec (ws := wsX4_row) B.pre
  have hown : s.vm.findClass RX4 = some m.cls := findClass_of_methodNamed B.named
  have hlocks := B.notSynchronized
  have hK := hk.1
  have hinX4 : ∀ w ∈ wsX40, w ∈ wsX4_row := by decide +kernel
  obtain ⟨A, hAe⟩ : ∃ A, va_A [(rm, .inr (4, [.int (nI cd), .ref a1, .ref a2, .ref a3, .ref a4, .ref a5, .ref a6, .ref a7, .ref a8, .ref a9, .int (nI tp), .int (nI mn), .ref b1, .int (nI bl), .ref b2, .ref b3, .int (nI jn), .int (nI sn), .ref b4, .ref b5, .ref b6, .ref b7, .ref b8, .int (nI wt), .int (nI wm), .int (nI wg), .long (lN wo), .int (nI wd), .ref b9])), (a1, .inl (cI, 25, .inl tz)), (a2, .inl (cI, 25, .inl tl)), (a3, .inl (cI, 25, .inl ty))] s.heap.size = A := ⟨_, rfl⟩
  have hD := hD0.self (sz := s.heap.size)
  rw [hAe] at hD
  have hA : ∀ q : Nat, s.heap.size ≤ q → A q := fun q h => by rw [← hAe]; exact Or.inr h
  have hS : va_S A s.heap s.heap [] := va_S.rf
  have hl := lv_entry ([.ref rm, .int (nI i), .int x1, .int x2, .int x3]) (n := 5) (Nat.le_of_ble_eq_true rfl)
  rw [lg_entry_eq]
  generalize (lg_sl ([.ref rm, .int (nI i), .int x1, .int x2, .int x3]) ++ List.replicate (5 - (lg_sl ([.ref rm, .int (nI i), .int x1, .int x2, .int x3])).length) Slot.unset).toArray = ls at hl ⊢
  have hl : lv_has ls 5 [(0, .ref rm), (1, .int (nI i)), (2, .int x1), (3, .int x2), (4, .int x3)] := hl
  refine lv_aload_n hx hb dX4_row_0 rfl (lv_at hl 0 rfl) ?_
  refine lv_iload_n hx hb dX4_row_1 rfl (lv_at hl 1 rfl) ?_
  refine lv_i2l hx hb dX4_row_2 (nI_l (by first | assumption | omega)) ?_
  refine lv_lconst (v := lN 1) hx hb dX4_row_3 (by decide) ?_
  refine lv_ldc2 hx hb (v := 24) hown (hts (.constantLong RX4 70 24) (by decide +kernel)) dX4_row_4 ?_
  refine n_topl _ (lN 24) (by decide) ?_
  refine k_goR (W.runS (As := [.long (lN i), .long (lN 1), .long (lN 24)]) (rest := [.ref rm]) ⟨hx, hb, hml, hown, hts⟩ (c_X4_in l g cI cJ cZ  (lN i) (lN 1) (lN 24) ) (va_cwS 3 hts gX4_row_X4_in rfl rfl rfl (by decide +kernel) ⟨Nat.le_of_ble_eq_true rfl, Nat.le_of_ble_eq_true rfl⟩) (k_preRS hk hP [] rfl) rfl rfl hl.1 rfl (lv_room (Nat.le_of_ble_eq_true rfl)) dX4_row_7 ⟨by first | exact Nat.zero_le _ | omega, by first | exact Nat.zero_le _ | omega⟩) ?_
  refine n_top _ (bI (1 ≤ i ∧ i ≤ 24)) (bI_c (in_n (by omega) (by decide) (by decide))) ?_
  refine k_ifeq (tgt := 17) hx hb dX4_row_10 (by decide) (fun c1 => ?_) (fun c1 => ?_)
  · exact (by exact absurd hi c1)
  · skip
    refine lv_iconst (v := nI 0) hx hb dX4_row_13 (by decide) ?_
    refine lv_goto (tgt := 18) hx hb dX4_row_14 (by decide) ?_
    refine va_put (D := g) (ci := 4) (v := .int (nI 0)) (ty := .int) (C := RX4) (T := TX4) (N := 29) hx hb hts hinX4 tyX4 tyX4_ok nmX4 hown hK hP hD hS 0 rfl rfl 0 (by decide) (hts (.fieldLink RX4 66 "BuddyRoofModel" "code" "I") (by decide +kernel)) (fun _ h9 => h9) rfl (by decide +kernel) rfl rfl (Nat.le_of_ble_eq_true rfl) dX4_row_18 (fun H locs hP hD hS => ?_)
    have hP : va_P g vwCl [(rm, .inr (4, [.int (nI 0), .ref a1, .ref a2, .ref a3, .ref a4, .ref a5, .ref a6, .ref a7, .ref a8, .ref a9, .int (nI tp), .int (nI mn), .ref b1, .int (nI bl), .ref b2, .ref b3, .int (nI jn), .int (nI sn), .ref b4, .ref b5, .ref b6, .ref b7, .ref b8, .int (nI wt), .int (nI wm), .int (nI wg), .long (lN wo), .int (nI wd), .ref b9])), (a1, .inl (cI, 25, .inl tz)), (a2, .inl (cI, 25, .inl tl)), (a3, .inl (cI, 25, .inl ty))] H := hP
    have hD : va_D A [(rm, .inr (4, [.int (nI 0), .ref a1, .ref a2, .ref a3, .ref a4, .ref a5, .ref a6, .ref a7, .ref a8, .ref a9, .int (nI tp), .int (nI mn), .ref b1, .int (nI bl), .ref b2, .ref b3, .int (nI jn), .int (nI sn), .ref b4, .ref b5, .ref b6, .ref b7, .ref b8, .int (nI wt), .int (nI wm), .int (nI wg), .long (lN wo), .int (nI wd), .ref b9])), (a1, .inl (cI, 25, .inl tz)), (a2, .inl (cI, 25, .inl tl)), (a3, .inl (cI, 25, .inl ty))] := hD
    refine lv_aload_n hx hb dX4_row_21 rfl (lv_at hl 0 rfl) ?_
    refine va_get (D := g) (ci := 4) (v := .int (nI 0)) (C := RX4) (T := TX4) (N := 29) hx hb hts hinX4 hown hK hP 0 rfl rfl 0 (by decide) (hts (.fieldLink RX4 66 "BuddyRoofModel" "code" "I") (by decide +kernel)) (fun _ h9 => h9) rfl dX4_row_22 ?_
    refine n_if_le (tgt := 29) hx hb dX4_row_25 (by decide) (by first | assumption | omega) (fun c2 => ?_) (fun c2 => ?_)
    · skip
      refine lv_aload_n hx hb dX4_row_29 rfl (lv_at hl 0 rfl) ?_
      refine va_get (D := g) (ci := 4) (v := .ref a1) (C := RX4) (T := TX4) (N := 29) hx hb hts hinX4 hown hK hP 0 rfl rfl 1 (by decide) (hts (.fieldLink RX4 7 "BuddyRoofModel" "toldSize" "[I") (by decide +kernel)) (fun _ h9 => h9) rfl dX4_row_30 ?_
      refine lv_iload_n hx hb dX4_row_33 rfl (lv_at hl 1 rfl) ?_
      refine lv_iload_n hx hb dX4_row_34 rfl (lv_at hl 2 rfl) ?_
      refine n_astI hx hb hK hP hD hS 1 0 rfl rfl (i := i) (v := x1) (by omega) (by decide) dX4_row_35 (fun H locs hP hD hS => ?_)
      have hP : va_P g vwCl [(rm, .inr (4, [.int (nI 0), .ref a1, .ref a2, .ref a3, .ref a4, .ref a5, .ref a6, .ref a7, .ref a8, .ref a9, .int (nI tp), .int (nI mn), .ref b1, .int (nI bl), .ref b2, .ref b3, .int (nI jn), .int (nI sn), .ref b4, .ref b5, .ref b6, .ref b7, .ref b8, .int (nI wt), .int (nI wm), .int (nI wg), .long (lN wo), .int (nI wd), .ref b9])), (a1, .inl (cI, 25, .inl (upd tz i x1))), (a2, .inl (cI, 25, .inl tl)), (a3, .inl (cI, 25, .inl ty))] H := hP
      have hD : va_D A [(rm, .inr (4, [.int (nI 0), .ref a1, .ref a2, .ref a3, .ref a4, .ref a5, .ref a6, .ref a7, .ref a8, .ref a9, .int (nI tp), .int (nI mn), .ref b1, .int (nI bl), .ref b2, .ref b3, .int (nI jn), .int (nI sn), .ref b4, .ref b5, .ref b6, .ref b7, .ref b8, .int (nI wt), .int (nI wm), .int (nI wg), .long (lN wo), .int (nI wd), .ref b9])), (a1, .inl (cI, 25, .inl (upd tz i x1))), (a2, .inl (cI, 25, .inl tl)), (a3, .inl (cI, 25, .inl ty))] := hD
      refine lv_aload_n hx hb dX4_row_36 rfl (lv_at hl 0 rfl) ?_
      refine va_get (D := g) (ci := 4) (v := .ref a2) (C := RX4) (T := TX4) (N := 29) hx hb hts hinX4 hown hK hP 0 rfl rfl 2 (by decide) (hts (.fieldLink RX4 13 "BuddyRoofModel" "toldLeft" "[I") (by decide +kernel)) (fun _ h9 => h9) rfl dX4_row_37 ?_
      refine lv_iload_n hx hb dX4_row_40 rfl (lv_at hl 1 rfl) ?_
      refine lv_iload_n hx hb dX4_row_41 rfl (lv_at hl 3 rfl) ?_
      refine n_astI hx hb hK hP hD hS 2 0 rfl rfl (i := i) (v := x2) (by omega) (by decide) dX4_row_42 (fun H locs hP hD hS => ?_)
      have hP : va_P g vwCl [(rm, .inr (4, [.int (nI 0), .ref a1, .ref a2, .ref a3, .ref a4, .ref a5, .ref a6, .ref a7, .ref a8, .ref a9, .int (nI tp), .int (nI mn), .ref b1, .int (nI bl), .ref b2, .ref b3, .int (nI jn), .int (nI sn), .ref b4, .ref b5, .ref b6, .ref b7, .ref b8, .int (nI wt), .int (nI wm), .int (nI wg), .long (lN wo), .int (nI wd), .ref b9])), (a1, .inl (cI, 25, .inl (upd tz i x1))), (a2, .inl (cI, 25, .inl (upd tl i x2))), (a3, .inl (cI, 25, .inl ty))] H := hP
      have hD : va_D A [(rm, .inr (4, [.int (nI 0), .ref a1, .ref a2, .ref a3, .ref a4, .ref a5, .ref a6, .ref a7, .ref a8, .ref a9, .int (nI tp), .int (nI mn), .ref b1, .int (nI bl), .ref b2, .ref b3, .int (nI jn), .int (nI sn), .ref b4, .ref b5, .ref b6, .ref b7, .ref b8, .int (nI wt), .int (nI wm), .int (nI wg), .long (lN wo), .int (nI wd), .ref b9])), (a1, .inl (cI, 25, .inl (upd tz i x1))), (a2, .inl (cI, 25, .inl (upd tl i x2))), (a3, .inl (cI, 25, .inl ty))] := hD
      refine lv_aload_n hx hb dX4_row_43 rfl (lv_at hl 0 rfl) ?_
      refine va_get (D := g) (ci := 4) (v := .ref a3) (C := RX4) (T := TX4) (N := 29) hx hb hts hinX4 hown hK hP 0 rfl rfl 3 (by decide) (hts (.fieldLink RX4 16 "BuddyRoofModel" "toldRight" "[I") (by decide +kernel)) (fun _ h9 => h9) rfl dX4_row_44 ?_
      refine lv_iload_n hx hb dX4_row_47 rfl (lv_at hl 1 rfl) ?_
      refine lv_iload hx hb dX4_row_48 (lv_at hl 4 rfl) ?_
      refine n_astI hx hb hK hP hD hS 3 0 rfl rfl (i := i) (v := x3) (by omega) (by decide) dX4_row_50 (fun H locs hP hD hS => ?_)
      have hP : va_P g vwCl [(rm, .inr (4, [.int (nI 0), .ref a1, .ref a2, .ref a3, .ref a4, .ref a5, .ref a6, .ref a7, .ref a8, .ref a9, .int (nI tp), .int (nI mn), .ref b1, .int (nI bl), .ref b2, .ref b3, .int (nI jn), .int (nI sn), .ref b4, .ref b5, .ref b6, .ref b7, .ref b8, .int (nI wt), .int (nI wm), .int (nI wg), .long (lN wo), .int (nI wd), .ref b9])), (a1, .inl (cI, 25, .inl (upd tz i x1))), (a2, .inl (cI, 25, .inl (upd tl i x2))), (a3, .inl (cI, 25, .inl (upd ty i x3)))] H := hP
      have hD : va_D A [(rm, .inr (4, [.int (nI 0), .ref a1, .ref a2, .ref a3, .ref a4, .ref a5, .ref a6, .ref a7, .ref a8, .ref a9, .int (nI tp), .int (nI mn), .ref b1, .int (nI bl), .ref b2, .ref b3, .int (nI jn), .int (nI sn), .ref b4, .ref b5, .ref b6, .ref b7, .ref b8, .int (nI wt), .int (nI wm), .int (nI wg), .long (lN wo), .int (nI wd), .ref b9])), (a1, .inl (cI, 25, .inl (upd tz i x1))), (a2, .inl (cI, 25, .inl (upd tl i x2))), (a3, .inl (cI, 25, .inl (upd ty i x3)))] := hD
      refine W.widen (k := 0) (n := 0) (by first | exact Nat.le_refl _ | omega) (by first | exact Nat.le_refl _ | omega) ?_
      exact k_retV (sz := 0) hx hb hr hlocks hAe hS hP hD () (rfl) (trivial) dX4_row_51
    · exact (by exfalso; omega)
set_option maxHeartbeats 4000000 in
set_option maxRecDepth 100000 in
theorem c_X4_row_t (l : Launch) (g : va_G) (cI cJ cZ : ClassId) (rm a1 a2 a3 a4 a5 a6 a7 a8 a9 b1 b2 b3 b4 b5 b6 b7 b8 b9 : Nat) (cd tp mn bl jn sn wt wm wg wo wd : Nat) (v x1 x2 x3 : Int32) (hv : ¬ (nI 1 ≤ v ∧ v ≤ nI 24)) : kV l g (kty cI cJ cZ) yX4_row wsX4_row ({ frames := 1, cells := 0, slots := 0, locals := 25 }) [.ref rm, .int v, .int x1, .int x2, .int x3] [(rm, .inr (4, [.int (nI cd), .ref a1, .ref a2, .ref a3, .ref a4, .ref a5, .ref a6, .ref a7, .ref a8, .ref a9, .int (nI tp), .int (nI mn), .ref b1, .int (nI bl), .ref b2, .ref b3, .int (nI jn), .int (nI sn), .ref b4, .ref b5, .ref b6, .ref b7, .ref b8, .int (nI wt), .int (nI wm), .int (nI wg), .long (lN wo), .int (nI wd), .ref b9]))] (S := Unit) (fun _ => True) (fun u => [(rm, .inr (4, [.int (nI 1), .ref a1, .ref a2, .ref a3, .ref a4, .ref a5, .ref a6, .ref a7, .ref a8, .ref a9, .int (nI tp), .int (nI mn), .ref b1, .int (nI bl), .ref b2, .ref b3, .int (nI jn), .int (nI sn), .ref b4, .ref b5, .ref b6, .ref b7, .ref b8, .int (nI wt), .int (nI wm), .int (nI wg), .long (lN wo), .int (nI wd), .ref b9]))]) 0 0 := by
  intro sz
  refine Met.ofW (cc := cX4_row) (maxL := 5) (ret := none) (by decide) rfl ?_
  intro p e s m args below meth c s₁ B hml hv
  obtain ⟨rfl, hsz, hP, hk, hD0⟩ := hv
  subst hsz
  have hx := B.exec
  have hb := B.bytes
  have hr := B.returns
  have hts := atoms_spec (ws := wsX4_row) B.pre
  have hown : s.vm.findClass RX4 = some m.cls := findClass_of_methodNamed B.named
  have hlocks := B.notSynchronized
  have hK := hk.1
  have hinX4 : ∀ w ∈ wsX40, w ∈ wsX4_row := by decide +kernel
  obtain ⟨A, hAe⟩ : ∃ A, va_A [(rm, .inr (4, [.int (nI cd), .ref a1, .ref a2, .ref a3, .ref a4, .ref a5, .ref a6, .ref a7, .ref a8, .ref a9, .int (nI tp), .int (nI mn), .ref b1, .int (nI bl), .ref b2, .ref b3, .int (nI jn), .int (nI sn), .ref b4, .ref b5, .ref b6, .ref b7, .ref b8, .int (nI wt), .int (nI wm), .int (nI wg), .long (lN wo), .int (nI wd), .ref b9]))] s.heap.size = A := ⟨_, rfl⟩
  have hD := hD0.self (sz := s.heap.size)
  rw [hAe] at hD
  have hA : ∀ q : Nat, s.heap.size ≤ q → A q := fun q h => by rw [← hAe]; exact Or.inr h
  have hS : va_S A s.heap s.heap [] := va_S.rf
  have hl := lv_entry ([.ref rm, .int v, .int x1, .int x2, .int x3]) (n := 5) (Nat.le_of_ble_eq_true rfl)
  rw [lg_entry_eq]
  generalize (lg_sl ([.ref rm, .int v, .int x1, .int x2, .int x3]) ++ List.replicate (5 - (lg_sl ([.ref rm, .int v, .int x1, .int x2, .int x3])).length) Slot.unset).toArray = ls at hl ⊢
  have hl : lv_has ls 5 [(0, .ref rm), (1, .int v), (2, .int x1), (3, .int x2), (4, .int x3)] := hl
  refine lv_aload_n hx hb dX4_row_0 rfl (lv_at hl 0 rfl) ?_
  refine lv_iload_n hx hb dX4_row_1 rfl (lv_at hl 1 rfl) ?_
  refine lv_i2l hx hb dX4_row_2 rfl ?_
  refine lv_lconst (v := lN 1) hx hb dX4_row_3 (by decide) ?_
  refine lv_ldc2 hx hb (v := 24) hown (hts (.constantLong RX4 70 24) (by decide +kernel)) dX4_row_4 ?_
  refine n_topl _ (lN 24) (by decide) ?_
  refine k_goR (W.runS (As := [.long ((v).toInt64), .long (lN 1), .long (lN 24)]) (rest := [.ref rm]) ⟨hx, hb, hml, hown, hts⟩ (c_X4_in l g cI cJ cZ  (v).toInt64 (lN 1) (lN 24) ) (va_cwS 3 hts gX4_row_X4_in rfl rfl rfl (by decide +kernel) ⟨Nat.le_of_ble_eq_true rfl, Nat.le_of_ble_eq_true rfl⟩) (k_preRS hk hP [] rfl) rfl rfl hl.1 rfl (lv_room (Nat.le_of_ble_eq_true rfl)) dX4_row_7 ⟨by first | exact Nat.zero_le _ | omega, by first | exact Nat.zero_le _ | omega⟩) ?_
  refine n_top _ (bI (nI 1 ≤ v ∧ v ≤ nI 24)) (bI_c (in_i (by decide) (by decide))) ?_
  refine k_ifeq (tgt := 17) hx hb dX4_row_10 (by decide) (fun c1 => ?_) (fun c1 => ?_)
  · skip
    refine lv_iconst (v := nI 1) hx hb dX4_row_17 (by decide) ?_
    refine va_put (D := g) (ci := 4) (v := .int (nI 1)) (ty := .int) (C := RX4) (T := TX4) (N := 29) hx hb hts hinX4 tyX4 tyX4_ok nmX4 hown hK hP hD hS 0 rfl rfl 0 (by decide) (hts (.fieldLink RX4 66 "BuddyRoofModel" "code" "I") (by decide +kernel)) (fun _ h9 => h9) rfl (by decide +kernel) rfl rfl (Nat.le_of_ble_eq_true rfl) dX4_row_18 (fun H locs hP hD hS => ?_)
    have hP : va_P g vwCl [(rm, .inr (4, [.int (nI 1), .ref a1, .ref a2, .ref a3, .ref a4, .ref a5, .ref a6, .ref a7, .ref a8, .ref a9, .int (nI tp), .int (nI mn), .ref b1, .int (nI bl), .ref b2, .ref b3, .int (nI jn), .int (nI sn), .ref b4, .ref b5, .ref b6, .ref b7, .ref b8, .int (nI wt), .int (nI wm), .int (nI wg), .long (lN wo), .int (nI wd), .ref b9]))] H := hP
    have hD : va_D A [(rm, .inr (4, [.int (nI 1), .ref a1, .ref a2, .ref a3, .ref a4, .ref a5, .ref a6, .ref a7, .ref a8, .ref a9, .int (nI tp), .int (nI mn), .ref b1, .int (nI bl), .ref b2, .ref b3, .int (nI jn), .int (nI sn), .ref b4, .ref b5, .ref b6, .ref b7, .ref b8, .int (nI wt), .int (nI wm), .int (nI wg), .long (lN wo), .int (nI wd), .ref b9]))] := hD
    refine lv_aload_n hx hb dX4_row_21 rfl (lv_at hl 0 rfl) ?_
    refine va_get (D := g) (ci := 4) (v := .int (nI 1)) (C := RX4) (T := TX4) (N := 29) hx hb hts hinX4 hown hK hP 0 rfl rfl 0 (by decide) (hts (.fieldLink RX4 66 "BuddyRoofModel" "code" "I") (by decide +kernel)) (fun _ h9 => h9) rfl dX4_row_22 ?_
    refine n_if_le (tgt := 29) hx hb dX4_row_25 (by decide) (by first | assumption | omega) (fun c2 => ?_) (fun c2 => ?_)
    · exact (by exfalso; omega)
    · skip
      refine W.widen (k := 0) (n := 0) (by first | exact Nat.le_refl _ | omega) (by first | exact Nat.le_refl _ | omega) ?_
      exact k_retV (sz := 0) hx hb hr hlocks hAe hS hP hD () (rfl) (trivial) dX4_row_28
  · exact (by exact absurd c1 hv)
set_option maxHeartbeats 4000000 in
set_option maxRecDepth 100000 in
theorem c_X4_nodeOf (l : Launch) (g : va_G) (cI cJ cZ : ClassId) (a v k d s0 : Nat) (ha : a < 4194304) (hv : v < 2) (hk9 : k < 32) (hd9 : d < 32) (hs9 : s0 < 33554432) : kRl l g (kty cI cJ cZ) yX4_nodeOf wsX4_nodeOf ({ frames := 0, cells := 0, slots := 0, locals := 0 }) [.int (nI a), .int (nI v), .int (nI k), .int (nI d), .int (nI s0)] [] (lN (enc a v k d s0)) := by
  refine Met.ofW (cc := cX4_nodeOf) (maxL := 5) (ret := (some .long)) (by decide) rfl ?_
  intro p e s m args below meth c s₁ B hml hv
  obtain ⟨rfl, hP, hk⟩ := hv
  have hx := B.exec
  have hb := B.bytes
  have hr := B.returns
  have hts := atoms_spec (ws := wsX4_nodeOf) B.pre
  have hown : s.vm.findClass RX4 = some m.cls := findClass_of_methodNamed B.named
  have hlocks := B.notSynchronized
  have hK := hk.1
  have hl := lv_entry ([.int (nI a), .int (nI v), .int (nI k), .int (nI d), .int (nI s0)]) (n := 5) (Nat.le_of_ble_eq_true rfl)
  rw [lg_entry_eq]
  generalize (lg_sl ([.int (nI a), .int (nI v), .int (nI k), .int (nI d), .int (nI s0)]) ++ List.replicate (5 - (lg_sl ([.int (nI a), .int (nI v), .int (nI k), .int (nI d), .int (nI s0)])).length) Slot.unset).toArray = ls at hl ⊢
  have hl : lv_has ls 5 [(0, .int (nI a)), (1, .int (nI v)), (2, .int (nI k)), (3, .int (nI d)), (4, .int (nI s0))] := hl
  refine lv_iload_n hx hb dX4_nodeOf_0 rfl (lv_at hl 0 rfl) ?_
  refine lv_i2l hx hb dX4_nodeOf_1 (nI_l (by first | assumption | omega)) ?_
  refine lv_bipush (v := nI 36) hx hb dX4_nodeOf_2 (by decide) ?_
  refine lv_lshl hx hb dX4_nodeOf_4 (lx_shl (a := a) (k := 36) (by decide) (by first | assumption | omega)) ?_
  refine lv_iload_n hx hb dX4_nodeOf_5 rfl (lv_at hl 1 rfl) ?_
  refine lv_i2l hx hb dX4_nodeOf_6 (nI_l (by first | assumption | omega)) ?_
  refine lv_bipush (v := nI 35) hx hb dX4_nodeOf_7 (by decide) ?_
  refine lv_lshl hx hb dX4_nodeOf_9 (lx_shl (a := v) (k := 35) (by decide) (by first | assumption | omega)) ?_
  refine lv_lor hx hb dX4_nodeOf_10 ?_
  refine n_topl _ (lN ((a * 2 ^ 36) ||| (v * 2 ^ 35))) (lx_or _ _) ?_
  refine lv_iload_n hx hb dX4_nodeOf_11 rfl (lv_at hl 2 rfl) ?_
  refine lv_i2l hx hb dX4_nodeOf_12 (nI_l (by first | assumption | omega)) ?_
  refine lv_bipush (v := nI 30) hx hb dX4_nodeOf_13 (by decide) ?_
  refine lv_lshl hx hb dX4_nodeOf_15 (lx_shl (a := k) (k := 30) (by decide) (by first | assumption | omega)) ?_
  refine lv_lor hx hb dX4_nodeOf_16 ?_
  refine n_topl _ (lN (((a * 2 ^ 36) ||| (v * 2 ^ 35)) ||| (k * 2 ^ 30))) (lx_or _ _) ?_
  refine lv_iload_n hx hb dX4_nodeOf_17 rfl (lv_at hl 3 rfl) ?_
  refine lv_i2l hx hb dX4_nodeOf_18 (nI_l (by first | assumption | omega)) ?_
  refine lv_bipush (v := nI 25) hx hb dX4_nodeOf_19 (by decide) ?_
  refine lv_lshl hx hb dX4_nodeOf_21 (lx_shl (a := d) (k := 25) (by decide) (by first | assumption | omega)) ?_
  refine lv_lor hx hb dX4_nodeOf_22 ?_
  refine n_topl _ (lN ((((a * 2 ^ 36) ||| (v * 2 ^ 35)) ||| (k * 2 ^ 30)) ||| (d * 2 ^ 25))) (lx_or _ _) ?_
  refine lv_iload hx hb dX4_nodeOf_23 (lv_at hl 4 rfl) ?_
  refine lv_i2l hx hb dX4_nodeOf_25 (nI_l (by first | assumption | omega)) ?_
  refine lv_lor hx hb dX4_nodeOf_26 ?_
  refine n_topl _ (lN (((((a * 2 ^ 36) ||| (v * 2 ^ 35)) ||| (k * 2 ^ 30)) ||| (d * 2 ^ 25)) ||| s0)) (lx_or _ _) ?_
  exact k_retRL (v := lN (((((a * 2 ^ 36) ||| (v * 2 ^ 35)) ||| (k * 2 ^ 30)) ||| (d * 2 ^ 25)) ||| s0)) hx hb hr hlocks (by rw [enc_or hv hk9 hd9 hs9]) dX4_nodeOf_27
set_option maxHeartbeats 4000000 in
set_option maxRecDepth 100000 in
theorem c_X4_address (l : Launch) (g : va_G) (cI cJ cZ : ClassId) (rm a1 a2 a3 a4 a5 a6 a7 a8 a9 b1 b2 b3 b4 b5 b6 b7 b8 b9 : Nat) (cd tp mn bl jn sn wt wm wg wo wd : Nat) (nd : Nat → Nat) (i : Nat) (hi : i < 14000) (hnd : nd i < 2 ^ 63) : kR l g (kty cI cJ cZ) yX4_address wsX4_address ({ frames := 0, cells := 0, slots := 0, locals := 0 }) [.ref rm, .int (nI i)] [(rm, .inr (4, [.int (nI cd), .ref a1, .ref a2, .ref a3, .ref a4, .ref a5, .ref a6, .ref a7, .ref a8, .ref a9, .int (nI tp), .int (nI mn), .ref b1, .int (nI bl), .ref b2, .ref b3, .int (nI jn), .int (nI sn), .ref b4, .ref b5, .ref b6, .ref b7, .ref b8, .int (nI wt), .int (nI wm), .int (nI wg), .long (lN wo), .int (nI wd), .ref b9])), (b1, .inl (cJ, 14000, .inr (.inl (fun j => lN (nd j)))))] (nI (nd i / 2 ^ 36)) := by
  refine Met.ofW (cc := cX4_address) (maxL := 2) (ret := (some .int)) (by decide) rfl ?_
  intro p e s m args below meth c s₁ B hml hv
  obtain ⟨rfl, hP, hk⟩ := hv
  have hx := B.exec
  have hb := B.bytes
  have hr := B.returns
  have hts := atoms_spec (ws := wsX4_address) B.pre
  have hown : s.vm.findClass RX4 = some m.cls := findClass_of_methodNamed B.named
  have hlocks := B.notSynchronized
  have hK := hk.1
  have hinX4 : ∀ w ∈ wsX40, w ∈ wsX4_address := by decide +kernel
  have hl := lv_entry ([.ref rm, .int (nI i)]) (n := 2) (Nat.le_of_ble_eq_true rfl)
  rw [lg_entry_eq]
  generalize (lg_sl ([.ref rm, .int (nI i)]) ++ List.replicate (2 - (lg_sl ([.ref rm, .int (nI i)])).length) Slot.unset).toArray = ls at hl ⊢
  have hl : lv_has ls 2 [(0, .ref rm), (1, .int (nI i))] := hl
  refine lv_aload_n hx hb dX4_address_0 rfl (lv_at hl 0 rfl) ?_
  refine va_get (D := g) (ci := 4) (v := .ref b1) (C := RX4) (T := TX4) (N := 29) hx hb hts hinX4 hown hK hP 0 rfl rfl 12 (by decide) (hts (.fieldLink RX4 38 "BuddyRoofModel" "node" "[J") (by decide +kernel)) (fun _ h9 => h9) rfl dX4_address_1 ?_
  refine lv_iload_n hx hb dX4_address_4 rfl (lv_at hl 1 rfl) ?_
  refine n_lald (v := lN (nd i)) hx hb hK hP 1 1 rfl rfl (i := i) (by first | assumption | omega) (by decide) rfl dX4_address_5 ?_
  refine lv_bipush (v := nI 36) hx hb dX4_address_6 (by decide) ?_
  refine lv_lshr hx hb dX4_address_8 (lx_shr (a := nd i) (k := 36) (by decide) (by first | assumption | omega)) ?_
  refine lv_l2i hx hb dX4_address_9 (lN_i _) ?_
  exact k_retR (v := nI ((nd i) / 2 ^ 36)) hx hb hr hlocks (rfl) dX4_address_10
set_option maxHeartbeats 4000000 in
set_option maxRecDepth 100000 in
theorem c_X4_isLive (l : Launch) (g : va_G) (cI cJ cZ : ClassId) (rm a1 a2 a3 a4 a5 a6 a7 a8 a9 b1 b2 b3 b4 b5 b6 b7 b8 b9 : Nat) (cd tp mn bl jn sn wt wm wg wo wd : Nat) (nd : Nat → Nat) (i : Nat) (hi : i < 14000) (hnd : nd i < 2 ^ 63) : kR l g (kty cI cJ cZ) yX4_isLive wsX4_isLive ({ frames := 0, cells := 0, slots := 0, locals := 0 }) [.ref rm, .int (nI i)] [(rm, .inr (4, [.int (nI cd), .ref a1, .ref a2, .ref a3, .ref a4, .ref a5, .ref a6, .ref a7, .ref a8, .ref a9, .int (nI tp), .int (nI mn), .ref b1, .int (nI bl), .ref b2, .ref b3, .int (nI jn), .int (nI sn), .ref b4, .ref b5, .ref b6, .ref b7, .ref b8, .int (nI wt), .int (nI wm), .int (nI wg), .long (lN wo), .int (nI wd), .ref b9])), (b1, .inl (cJ, 14000, .inr (.inl (fun j => lN (nd j)))))] (bI (nd i / 2 ^ 35 &&& 1 = 1)) := by
  refine Met.ofW (cc := cX4_isLive) (maxL := 2) (ret := (some .boolean)) (by decide) rfl ?_
  intro p e s m args below meth c s₁ B hml hv
  obtain ⟨rfl, hP, hk⟩ := hv
  have hx := B.exec
  have hb := B.bytes
  have hr := B.returns
  have hts := atoms_spec (ws := wsX4_isLive) B.pre
  have hown : s.vm.findClass RX4 = some m.cls := findClass_of_methodNamed B.named
  have hlocks := B.notSynchronized
  have hK := hk.1
  have hinX4 : ∀ w ∈ wsX40, w ∈ wsX4_isLive := by decide +kernel
  have hl := lv_entry ([.ref rm, .int (nI i)]) (n := 2) (Nat.le_of_ble_eq_true rfl)
  rw [lg_entry_eq]
  generalize (lg_sl ([.ref rm, .int (nI i)]) ++ List.replicate (2 - (lg_sl ([.ref rm, .int (nI i)])).length) Slot.unset).toArray = ls at hl ⊢
  have hl : lv_has ls 2 [(0, .ref rm), (1, .int (nI i))] := hl
  refine lv_aload_n hx hb dX4_isLive_0 rfl (lv_at hl 0 rfl) ?_
  refine va_get (D := g) (ci := 4) (v := .ref b1) (C := RX4) (T := TX4) (N := 29) hx hb hts hinX4 hown hK hP 0 rfl rfl 12 (by decide) (hts (.fieldLink RX4 38 "BuddyRoofModel" "node" "[J") (by decide +kernel)) (fun _ h9 => h9) rfl dX4_isLive_1 ?_
  refine lv_iload_n hx hb dX4_isLive_4 rfl (lv_at hl 1 rfl) ?_
  refine n_lald (v := lN (nd i)) hx hb hK hP 1 1 rfl rfl (i := i) (by first | assumption | omega) (by decide) rfl dX4_isLive_5 ?_
  refine lv_bipush (v := nI 35) hx hb dX4_isLive_6 (by decide) ?_
  refine lv_lshr hx hb dX4_isLive_8 (lx_shr (a := nd i) (k := 35) (by decide) (by first | assumption | omega)) ?_
  refine lv_lconst (v := lN 1) hx hb dX4_isLive_9 (by decide) ?_
  refine lv_land hx hb dX4_isLive_10 ?_
  refine n_topl _ (lN (((nd i) / 2 ^ 35) &&& 1)) (lx_and _ _) ?_
  refine lv_lconst (v := lN 1) hx hb dX4_isLive_11 (by decide) ?_
  refine W.lcmp hx hb dX4_isLive_12 ?_
  refine n_lc_ne (tgt := 20) hx hb dX4_isLive_13 (by decide) (by exact Nat.lt_of_le_of_lt Nat.and_le_right (by decide)) (by decide) (fun c1 => ?_) (fun c1 => ?_)
  · skip
    refine lv_iconst (v := nI 0) hx hb dX4_isLive_20 (by decide) ?_
    exact k_retRZ (v := nI 0) hx hb hr hlocks (by decide) (by unfold bI; split <;> first | rfl | (exfalso; omega)) dX4_isLive_21
  · skip
    refine lv_iconst (v := nI 1) hx hb dX4_isLive_16 (by decide) ?_
    refine lv_goto (tgt := 21) hx hb dX4_isLive_17 (by decide) ?_
    exact k_retRZ (v := nI 1) hx hb hr hlocks (by decide) (by unfold bI; split <;> first | rfl | (exfalso; omega)) dX4_isLive_21
set_option maxHeartbeats 4000000 in
set_option maxRecDepth 100000 in
theorem c_X4_classOf (l : Launch) (g : va_G) (cI cJ cZ : ClassId) (rm a1 a2 a3 a4 a5 a6 a7 a8 a9 b1 b2 b3 b4 b5 b6 b7 b8 b9 : Nat) (cd tp mn bl jn sn wt wm wg wo wd : Nat) (nd : Nat → Nat) (i : Nat) (hi : i < 14000) (hnd : nd i < 2 ^ 63) : kR l g (kty cI cJ cZ) yX4_classOf wsX4_classOf ({ frames := 0, cells := 0, slots := 0, locals := 0 }) [.ref rm, .int (nI i)] [(rm, .inr (4, [.int (nI cd), .ref a1, .ref a2, .ref a3, .ref a4, .ref a5, .ref a6, .ref a7, .ref a8, .ref a9, .int (nI tp), .int (nI mn), .ref b1, .int (nI bl), .ref b2, .ref b3, .int (nI jn), .int (nI sn), .ref b4, .ref b5, .ref b6, .ref b7, .ref b8, .int (nI wt), .int (nI wm), .int (nI wg), .long (lN wo), .int (nI wd), .ref b9])), (b1, .inl (cJ, 14000, .inr (.inl (fun j => lN (nd j)))))] (nI (nd i / 2 ^ 30 &&& 31)) := by
  refine Met.ofW (cc := cX4_classOf) (maxL := 2) (ret := (some .int)) (by decide) rfl ?_
  intro p e s m args below meth c s₁ B hml hv
  obtain ⟨rfl, hP, hk⟩ := hv
  have hx := B.exec
  have hb := B.bytes
  have hr := B.returns
  have hts := atoms_spec (ws := wsX4_classOf) B.pre
  have hown : s.vm.findClass RX4 = some m.cls := findClass_of_methodNamed B.named
  have hlocks := B.notSynchronized
  have hK := hk.1
  have hinX4 : ∀ w ∈ wsX40, w ∈ wsX4_classOf := by decide +kernel
  have hl := lv_entry ([.ref rm, .int (nI i)]) (n := 2) (Nat.le_of_ble_eq_true rfl)
  rw [lg_entry_eq]
  generalize (lg_sl ([.ref rm, .int (nI i)]) ++ List.replicate (2 - (lg_sl ([.ref rm, .int (nI i)])).length) Slot.unset).toArray = ls at hl ⊢
  have hl : lv_has ls 2 [(0, .ref rm), (1, .int (nI i))] := hl
  refine lv_aload_n hx hb dX4_classOf_0 rfl (lv_at hl 0 rfl) ?_
  refine va_get (D := g) (ci := 4) (v := .ref b1) (C := RX4) (T := TX4) (N := 29) hx hb hts hinX4 hown hK hP 0 rfl rfl 12 (by decide) (hts (.fieldLink RX4 38 "BuddyRoofModel" "node" "[J") (by decide +kernel)) (fun _ h9 => h9) rfl dX4_classOf_1 ?_
  refine lv_iload_n hx hb dX4_classOf_4 rfl (lv_at hl 1 rfl) ?_
  refine n_lald (v := lN (nd i)) hx hb hK hP 1 1 rfl rfl (i := i) (by first | assumption | omega) (by decide) rfl dX4_classOf_5 ?_
  refine lv_bipush (v := nI 30) hx hb dX4_classOf_6 (by decide) ?_
  refine lv_lshr hx hb dX4_classOf_8 (lx_shr (a := nd i) (k := 30) (by decide) (by first | assumption | omega)) ?_
  refine lv_ldc2 hx hb (v := 31) hown (hts (.constantLong RX4 112 31) (by decide +kernel)) dX4_classOf_9 ?_
  refine n_topl _ (lN 31) (by decide) ?_
  refine lv_land hx hb dX4_classOf_12 ?_
  refine n_topl _ (lN (((nd i) / 2 ^ 30) &&& 31)) (lx_and _ _) ?_
  refine lv_l2i hx hb dX4_classOf_13 (lN_i _) ?_
  exact k_retR (v := nI (((nd i) / 2 ^ 30) &&& 31)) hx hb hr hlocks (rfl) dX4_classOf_14
set_option maxHeartbeats 4000000 in
set_option maxRecDepth 100000 in
theorem c_X4_depth (l : Launch) (g : va_G) (cI cJ cZ : ClassId) (rm a1 a2 a3 a4 a5 a6 a7 a8 a9 b1 b2 b3 b4 b5 b6 b7 b8 b9 : Nat) (cd tp mn bl jn sn wt wm wg wo wd : Nat) (nd : Nat → Nat) (i : Nat) (hi : i < 14000) (hnd : nd i < 2 ^ 63) : kR l g (kty cI cJ cZ) yX4_depth wsX4_depth ({ frames := 0, cells := 0, slots := 0, locals := 0 }) [.ref rm, .int (nI i)] [(rm, .inr (4, [.int (nI cd), .ref a1, .ref a2, .ref a3, .ref a4, .ref a5, .ref a6, .ref a7, .ref a8, .ref a9, .int (nI tp), .int (nI mn), .ref b1, .int (nI bl), .ref b2, .ref b3, .int (nI jn), .int (nI sn), .ref b4, .ref b5, .ref b6, .ref b7, .ref b8, .int (nI wt), .int (nI wm), .int (nI wg), .long (lN wo), .int (nI wd), .ref b9])), (b1, .inl (cJ, 14000, .inr (.inl (fun j => lN (nd j)))))] (nI (nd i / 2 ^ 25 &&& 31)) := by
  refine Met.ofW (cc := cX4_depth) (maxL := 2) (ret := (some .int)) (by decide) rfl ?_
  intro p e s m args below meth c s₁ B hml hv
  obtain ⟨rfl, hP, hk⟩ := hv
  have hx := B.exec
  have hb := B.bytes
  have hr := B.returns
  have hts := atoms_spec (ws := wsX4_depth) B.pre
  have hown : s.vm.findClass RX4 = some m.cls := findClass_of_methodNamed B.named
  have hlocks := B.notSynchronized
  have hK := hk.1
  have hinX4 : ∀ w ∈ wsX40, w ∈ wsX4_depth := by decide +kernel
  have hl := lv_entry ([.ref rm, .int (nI i)]) (n := 2) (Nat.le_of_ble_eq_true rfl)
  rw [lg_entry_eq]
  generalize (lg_sl ([.ref rm, .int (nI i)]) ++ List.replicate (2 - (lg_sl ([.ref rm, .int (nI i)])).length) Slot.unset).toArray = ls at hl ⊢
  have hl : lv_has ls 2 [(0, .ref rm), (1, .int (nI i))] := hl
  refine lv_aload_n hx hb dX4_depth_0 rfl (lv_at hl 0 rfl) ?_
  refine va_get (D := g) (ci := 4) (v := .ref b1) (C := RX4) (T := TX4) (N := 29) hx hb hts hinX4 hown hK hP 0 rfl rfl 12 (by decide) (hts (.fieldLink RX4 38 "BuddyRoofModel" "node" "[J") (by decide +kernel)) (fun _ h9 => h9) rfl dX4_depth_1 ?_
  refine lv_iload_n hx hb dX4_depth_4 rfl (lv_at hl 1 rfl) ?_
  refine n_lald (v := lN (nd i)) hx hb hK hP 1 1 rfl rfl (i := i) (by first | assumption | omega) (by decide) rfl dX4_depth_5 ?_
  refine lv_bipush (v := nI 25) hx hb dX4_depth_6 (by decide) ?_
  refine lv_lshr hx hb dX4_depth_8 (lx_shr (a := nd i) (k := 25) (by decide) (by first | assumption | omega)) ?_
  refine lv_ldc2 hx hb (v := 31) hown (hts (.constantLong RX4 112 31) (by decide +kernel)) dX4_depth_9 ?_
  refine n_topl _ (lN 31) (by decide) ?_
  refine lv_land hx hb dX4_depth_12 ?_
  refine n_topl _ (lN (((nd i) / 2 ^ 25) &&& 31)) (lx_and _ _) ?_
  refine lv_l2i hx hb dX4_depth_13 (lN_i _) ?_
  exact k_retR (v := nI (((nd i) / 2 ^ 25) &&& 31)) hx hb hr hlocks (rfl) dX4_depth_14
set_option maxHeartbeats 4000000 in
set_option maxRecDepth 100000 in
theorem c_X4_sides (l : Launch) (g : va_G) (cI cJ cZ : ClassId) (rm a1 a2 a3 a4 a5 a6 a7 a8 a9 b1 b2 b3 b4 b5 b6 b7 b8 b9 : Nat) (cd tp mn bl jn sn wt wm wg wo wd : Nat) (nd : Nat → Nat) (i : Nat) (hi : i < 14000) (hnd : nd i < 2 ^ 63) : kR l g (kty cI cJ cZ) yX4_sides wsX4_sides ({ frames := 0, cells := 0, slots := 0, locals := 0 }) [.ref rm, .int (nI i)] [(rm, .inr (4, [.int (nI cd), .ref a1, .ref a2, .ref a3, .ref a4, .ref a5, .ref a6, .ref a7, .ref a8, .ref a9, .int (nI tp), .int (nI mn), .ref b1, .int (nI bl), .ref b2, .ref b3, .int (nI jn), .int (nI sn), .ref b4, .ref b5, .ref b6, .ref b7, .ref b8, .int (nI wt), .int (nI wm), .int (nI wg), .long (lN wo), .int (nI wd), .ref b9])), (b1, .inl (cJ, 14000, .inr (.inl (fun j => lN (nd j)))))] (nI (nd i &&& 33554431)) := by
  refine Met.ofW (cc := cX4_sides) (maxL := 2) (ret := (some .int)) (by decide) rfl ?_
  intro p e s m args below meth c s₁ B hml hv
  obtain ⟨rfl, hP, hk⟩ := hv
  have hx := B.exec
  have hb := B.bytes
  have hr := B.returns
  have hts := atoms_spec (ws := wsX4_sides) B.pre
  have hown : s.vm.findClass RX4 = some m.cls := findClass_of_methodNamed B.named
  have hlocks := B.notSynchronized
  have hK := hk.1
  have hinX4 : ∀ w ∈ wsX40, w ∈ wsX4_sides := by decide +kernel
  have hl := lv_entry ([.ref rm, .int (nI i)]) (n := 2) (Nat.le_of_ble_eq_true rfl)
  rw [lg_entry_eq]
  generalize (lg_sl ([.ref rm, .int (nI i)]) ++ List.replicate (2 - (lg_sl ([.ref rm, .int (nI i)])).length) Slot.unset).toArray = ls at hl ⊢
  have hl : lv_has ls 2 [(0, .ref rm), (1, .int (nI i))] := hl
  refine lv_aload_n hx hb dX4_sides_0 rfl (lv_at hl 0 rfl) ?_
  refine va_get (D := g) (ci := 4) (v := .ref b1) (C := RX4) (T := TX4) (N := 29) hx hb hts hinX4 hown hK hP 0 rfl rfl 12 (by decide) (hts (.fieldLink RX4 38 "BuddyRoofModel" "node" "[J") (by decide +kernel)) (fun _ h9 => h9) rfl dX4_sides_1 ?_
  refine lv_iload_n hx hb dX4_sides_4 rfl (lv_at hl 1 rfl) ?_
  refine n_lald (v := lN (nd i)) hx hb hK hP 1 1 rfl rfl (i := i) (by first | assumption | omega) (by decide) rfl dX4_sides_5 ?_
  refine lv_ldc2 hx hb (v := 33554431) hown (hts (.constantLong RX4 114 33554431) (by decide +kernel)) dX4_sides_6 ?_
  refine n_topl _ (lN 33554431) (by decide) ?_
  refine lv_land hx hb dX4_sides_9 ?_
  refine n_topl _ (lN ((nd i) &&& 33554431)) (lx_and _ _) ?_
  refine lv_l2i hx hb dX4_sides_10 (lN_i _) ?_
  exact k_retR (v := nI ((nd i) &&& 33554431)) hx hb hr hlocks (rfl) dX4_sides_11
