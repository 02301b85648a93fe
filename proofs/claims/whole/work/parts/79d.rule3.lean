set_option maxHeartbeats 4000000 in
set_option maxRecDepth 100000 in
theorem c_X1_leafSize (l : Launch) (g : va_G) (cI cJ cZ : ClassId) (kd kk a bn : Nat) (b : Int32) (hkd : kd ≤ 2) (hkk : kk < 100) (hbn : kd = 1 → b = nI bn) : kR l g (kty cI cJ cZ) yX1_leafSize wsX1_leafSize ({ frames := 0, cells := 0, slots := 0, locals := 0 }) [.int (nI kd), .int (nI kk), .int (nI a), .int b] [] (nI (fLf kd a bn kk)) := by
  refine Met.ofW (cc := cX1_leafSize) (maxL := 4) (ret := (some .int)) (by decide) rfl ?_
  intro p e s m args below meth c s₁ B hml hv
  obtain ⟨rfl, hP, hk⟩ := hv
  have hx := B.exec
  have hb := B.bytes
  have hr := B.returns
  have hts := atoms_spec (ws := wsX1_leafSize) B.pre
  have hown : s.vm.findClass RX1 = some m.cls := findClass_of_methodNamed B.named
  have hlocks := B.notSynchronized
  have hK := hk.1
  have hl := lv_entry ([.int (nI kd), .int (nI kk), .int (nI a), .int b]) (n := 4) (Nat.le_of_ble_eq_true rfl)
  rw [lg_entry_eq]
  generalize (lg_sl ([.int (nI kd), .int (nI kk), .int (nI a), .int b]) ++ List.replicate (4 - (lg_sl ([.int (nI kd), .int (nI kk), .int (nI a), .int b])).length) Slot.unset).toArray = ls at hl ⊢
  have hl : lv_has ls 4 [(0, .int (nI kd)), (1, .int (nI kk)), (2, .int (nI a)), (3, .int b)] := hl
  refine lv_iload_n hx hb dX1_leafSize_0 rfl (lv_at hl 0 rfl) ?_
  refine lv_iconst (v := nI 1) hx hb dX1_leafSize_1 (by decide) ?_
  refine n_icmp_ne (tgt := 16) hx hb dX1_leafSize_2 (by decide) (by first | assumption | omega) (by first | assumption | omega) (fun c1 => ?_) (fun c1 => ?_)
  · skip
    refine lv_iload_n hx hb dX1_leafSize_16 rfl (lv_at hl 1 rfl) ?_
    refine lv_iload_n hx hb dX1_leafSize_17 rfl (lv_at hl 2 rfl) ?_
    refine n_imul hx hb dX1_leafSize_18 ?_
    exact k_retR (v := nI (kk * a)) hx hb hr hlocks (by unfold fLf; rw [if_neg c1]) dX1_leafSize_19
  · skip
    refine lv_iload_n hx hb dX1_leafSize_5 rfl (lv_at hl 1 rfl) ?_
    refine lv_iconst (v := nI 1) hx hb dX1_leafSize_6 (by decide) ?_
    refine n_icmp_ne (tgt := 14) hx hb dX1_leafSize_7 (by decide) (by first | assumption | omega) (by first | assumption | omega) (fun c2 => ?_) (fun c2 => ?_)
    · skip
      refine lv_iload_n hx hb dX1_leafSize_14 rfl (lv_at hl 3 rfl) ?_
      exact k_retR (v := b) hx hb hr hlocks (by unfold fLf; rw [if_pos (by omega), if_neg (by omega)]; exact hbn (by omega)) dX1_leafSize_15
    · skip
      refine lv_iload_n hx hb dX1_leafSize_10 rfl (lv_at hl 2 rfl) ?_
      refine lv_goto (tgt := 15) hx hb dX1_leafSize_11 (by decide) ?_
      exact k_retR (v := nI a) hx hb hr hlocks (by unfold fLf; rw [if_pos (by omega), if_pos (by omega)]) dX1_leafSize_15
set_option maxHeartbeats 4000000 in
set_option maxRecDepth 100000 in
theorem c_X1_familyRight (l : Launch) (g : va_G) (cI cJ cZ : ClassId) (kd kk : Nat) (hkd : kd ≤ 2) (hkk : kd + 1 < kk ∧ kk < 100) : kR l g (kty cI cJ cZ) yX1_familyRight wsX1_familyRight ({ frames := 0, cells := 0, slots := 0, locals := 0 }) [.int (nI kd), .int (nI kk)] [] (nI (fR kd kk)) := by
  refine Met.ofW (cc := cX1_familyRight) (maxL := 2) (ret := (some .int)) (by decide) rfl ?_
  intro p e s m args below meth c s₁ B hml hv
  obtain ⟨rfl, hP, hk⟩ := hv
  have hx := B.exec
  have hb := B.bytes
  have hr := B.returns
  have hts := atoms_spec (ws := wsX1_familyRight) B.pre
  have hown : s.vm.findClass RX1 = some m.cls := findClass_of_methodNamed B.named
  have hlocks := B.notSynchronized
  have hK := hk.1
  have hl := lv_entry ([.int (nI kd), .int (nI kk)]) (n := 2) (Nat.le_of_ble_eq_true rfl)
  rw [lg_entry_eq]
  generalize (lg_sl ([.int (nI kd), .int (nI kk)]) ++ List.replicate (2 - (lg_sl ([.int (nI kd), .int (nI kk)])).length) Slot.unset).toArray = ls at hl ⊢
  have hl : lv_has ls 2 [(0, .int (nI kd)), (1, .int (nI kk))] := hl
  refine lv_iload_n hx hb dX1_familyRight_0 rfl (lv_at hl 0 rfl) ?_
  refine lv_iconst (v := nI 2) hx hb dX1_familyRight_1 (by decide) ?_
  refine n_icmp_ge (tgt := 11) hx hb dX1_familyRight_2 (by decide) (by first | assumption | omega) (by first | assumption | omega) (fun c1 => ?_) (fun c1 => ?_)
  · skip
    refine lv_iload_n hx hb dX1_familyRight_11 rfl (lv_at hl 1 rfl) ?_
    refine lv_iconst (v := nI 4) hx hb dX1_familyRight_12 (by decide) ?_
    refine n_icmp_ne (tgt := 18) hx hb dX1_familyRight_13 (by decide) (by first | assumption | omega) (by first | assumption | omega) (fun c2 => ?_) (fun c2 => ?_)
    · skip
      refine lv_iload_n hx hb dX1_familyRight_18 rfl (lv_at hl 1 rfl) ?_
      refine lv_iconst (v := nI 2) hx hb dX1_familyRight_19 (by decide) ?_
      refine n_irem hx hb dX1_familyRight_20 (by first | assumption | omega) (by first | assumption | omega) (by first | assumption | omega) ?_
      refine lv_iconst (v := nI 1) hx hb dX1_familyRight_21 (by decide) ?_
      refine n_icmp_ne (tgt := 31) hx hb dX1_familyRight_22 (by decide) (by first | assumption | omega) (by first | assumption | omega) (fun c3 => ?_) (fun c3 => ?_)
      · skip
        refine lv_iload_n hx hb dX1_familyRight_31 rfl (lv_at hl 1 rfl) ?_
        refine lv_iconst (v := nI 4) hx hb dX1_familyRight_32 (by decide) ?_
        refine n_isub hx hb dX1_familyRight_33 (by first | assumption | omega) ?_
        exact k_retR (v := nI (kk - 4)) hx hb hr hlocks (by unfold fR; exact congrArg nI (by split <;> (try split) <;> (try split) <;> omega)) dX1_familyRight_34
      · skip
        refine lv_iload_n hx hb dX1_familyRight_25 rfl (lv_at hl 1 rfl) ?_
        refine lv_iconst (v := nI 3) hx hb dX1_familyRight_26 (by decide) ?_
        refine n_isub hx hb dX1_familyRight_27 (by first | assumption | omega) ?_
        refine lv_goto (tgt := 34) hx hb dX1_familyRight_28 (by decide) ?_
        exact k_retR (v := nI (kk - 3)) hx hb hr hlocks (by unfold fR; exact congrArg nI (by split <;> (try split) <;> (try split) <;> omega)) dX1_familyRight_34
    · skip
      refine lv_iconst (v := nI 1) hx hb dX1_familyRight_16 (by decide) ?_
      exact k_retR (v := nI 1) hx hb hr hlocks (by unfold fR; exact congrArg nI (by split <;> (try split) <;> (try split) <;> omega)) dX1_familyRight_17
  · skip
    refine lv_iload_n hx hb dX1_familyRight_5 rfl (lv_at hl 1 rfl) ?_
    refine lv_iconst (v := nI 1) hx hb dX1_familyRight_6 (by decide) ?_
    refine n_isub hx hb dX1_familyRight_7 (by first | assumption | omega) ?_
    refine lv_iload_n hx hb dX1_familyRight_8 rfl (lv_at hl 0 rfl) ?_
    refine n_isub hx hb dX1_familyRight_9 (by first | assumption | omega) ?_
    exact k_retR (v := nI ((kk - 1) - kd)) hx hb hr hlocks (by unfold fR; exact congrArg nI (by split <;> (try split) <;> (try split) <;> omega)) dX1_familyRight_10
set_option maxHeartbeats 4000000 in
set_option maxRecDepth 100000 in
theorem lp_X1_tellFamily_3 {p : Program} {e : Env} {s : State} {m : MethodId} {args : Array Value} {below : List Frame} {meth : Method} {c : Code} {Q : State → Prop} (l : Launch) (g : va_G) (cI cJ cZ : ClassId) (k r1 r2 r3 r4 : Nat) (sz lf rt tr : Nat → Int32) (kd n a bn : Nat) (b : Int32) (hkd : kd ≤ 2) (hn : 1 ≤ n ∧ n ≤ 24) (ha : a ≤ 4194304) (hbn : kd = 1 → b = nI bn ∧ bn ≤ 4194304)  (C0 : cM p s m args meth c cX1_tellFamily 6 (some .boolean) wsX1_tellFamily RX1) (hk : kK g (kty cI cJ cZ) s) {A : Nat → Prop} {H0 : Heap} (hA : ∀ q : Nat, H0.size ≤ q → A q) (kk0 : (∀ i, 1 ≤ i → i ≤ n → (fmi tr (fun i => nI (fz kd a bn i)) (n + 1)) i = nI (fz kd a bn i) ∧ fz kd a bn i ≤ 4194304) → ∀ (H : Heap) (locs : List Loc), va_P g vwCl [(k, .inr (1, [.ref r1, .ref r2, .ref r3, .ref r4])), (r1, .inl (cI, 25, .inl (fmi sz (fmS kd a bn n sz) 1))), (r2, .inl (cI, 25, .inl (fmi lf (fmL kd n lf) 1))), (r3, .inl (cI, 25, .inl (fmi rt (fmR kd n rt) 1))), (r4, .inl (cI, 25, .inl (fmi tr (fun i => nI (fz kd a bn i)) (n + 1))))] H → va_D A [(k, .inr (1, [.ref r1, .ref r2, .ref r3, .ref r4])), (r1, .inl (cI, 25, .inl (fmi sz (fmS kd a bn n sz) 1))), (r2, .inl (cI, 25, .inl (fmi lf (fmL kd n lf) 1))), (r3, .inl (cI, 25, .inl (fmi rt (fmR kd n rt) 1))), (r4, .inl (cI, 25, .inl (fmi tr (fun i => nI (fz kd a bn i)) (n + 1))))] → va_S A H0 H locs → ∀ (ls : Array Slot), lv_has ls 6 [(0, .ref k), (1, .int (nI kd)), (2, .int (nI n)), (3, .int (nI a)), (4, .int b)] → W p l e (headSpec wsX1_tellFamily ({ frames := 1, cells := 0, slots := 0, locals := 24 })).room s m args below meth c H locs 0 0 Q (F0 m 77 ls [])) (kk1 : (fOK kd a bn n = false) → ∀ (H : Heap) (locs : List Loc), va_P g vwCl [(k, .inr (1, [.ref r1, .ref r2, .ref r3, .ref r4])), (r1, .inl (cI, 25, .inl sz)), (r2, .inl (cI, 25, .inl lf)), (r3, .inl (cI, 25, .inl rt)), (r4, .inl (cI, 25, .inl (fmi tr (fun i => nI (fz kd a bn i)) (lwF (fun i => decide (4194304 < fz kd a bn i)) n 1 + 1))))] H → va_D A [(k, .inr (1, [.ref r1, .ref r2, .ref r3, .ref r4])), (r1, .inl (cI, 25, .inl sz)), (r2, .inl (cI, 25, .inl lf)), (r3, .inl (cI, 25, .inl rt)), (r4, .inl (cI, 25, .inl (fmi tr (fun i => nI (fz kd a bn i)) (lwF (fun i => decide (4194304 < fz kd a bn i)) n 1 + 1))))] → va_S A H0 H locs → ∀ (ls : Array Slot), lv_has ls 6 [(0, .ref k)] → W p l e (headSpec wsX1_tellFamily ({ frames := 1, cells := 0, slots := 0, locals := 24 })).room s m args below meth c H locs 0 0 Q (F0 m 69 ls [])) :
    ∀ (K : Nat) (j : Nat), (n + 1 - j) < K → (1 ≤ j ∧ j ≤ n + 1) → (∀ i, 1 ≤ i → i < j → fz kd a bn i ≤ 4194304) → (lwF (fun i => decide (4194304 < fz kd a bn i)) n 1 = lwF (fun i => decide (4194304 < fz kd a bn i)) (n + 1 - j) j) → ∀ (H : Heap) (locs : List Loc), va_P g vwCl [(k, .inr (1, [.ref r1, .ref r2, .ref r3, .ref r4])), (r1, .inl (cI, 25, .inl sz)), (r2, .inl (cI, 25, .inl lf)), (r3, .inl (cI, 25, .inl rt)), (r4, .inl (cI, 25, .inl (fmi tr (fun i => nI (fz kd a bn i)) j)))] H → va_D A [(k, .inr (1, [.ref r1, .ref r2, .ref r3, .ref r4])), (r1, .inl (cI, 25, .inl sz)), (r2, .inl (cI, 25, .inl lf)), (r3, .inl (cI, 25, .inl rt)), (r4, .inl (cI, 25, .inl (fmi tr (fun i => nI (fz kd a bn i)) j)))] → va_S A H0 H locs →∀ (ls : Array Slot), lv_has ls 6 [(0, .ref k), (1, .int (nI kd)), (2, .int (nI n)), (3, .int (nI a)), (4, .int b), (5, .int (nI j))] → W p l e (headSpec wsX1_tellFamily ({ frames := 1, cells := 0, slots := 0, locals := 24 })).room s m args below meth c H locs 0 0 Q (F0 m 3 ls []) := by
  obtain ⟨hx, hb, hr, hml, hown, hts, hlocks⟩ := C0
  have hK := hk.1
  have hinX1 : ∀ w ∈ wsX10, w ∈ wsX1_tellFamily := by decide +kernel
  intro K
  induction K with
  | zero =>
    intro j h0
    exact absurd h0 (Nat.not_lt_zero _)
  | succ K ih =>
    intro j hmu hj hT hlw H locs hP hD hS ls hl
    refine lv_iload hx hb dX1_tellFamily_3 (lv_at hl 5 rfl) ?_
    refine lv_iload_n hx hb dX1_tellFamily_5 rfl (lv_at hl 2 rfl) ?_
    refine n_icmp_gt (tgt := 77) hx hb dX1_tellFamily_6 (by decide) (by first | assumption | omega) (by first | assumption | omega) (fun c8 => ?_) (fun c8 => ?_)
    · skip
      obtain rfl : j = n + 1 := by omega
      have hP : va_P g vwCl [(k, .inr (1, [.ref r1, .ref r2, .ref r3, .ref r4])), (r1, .inl (cI, 25, .inl (fmi sz (fmS kd a bn n sz) 1))), (r2, .inl (cI, 25, .inl (fmi lf (fmL kd n lf) 1))), (r3, .inl (cI, 25, .inl (fmi rt (fmR kd n rt) 1))), (r4, .inl (cI, 25, .inl (fmi tr (fun i => nI (fz kd a bn i)) (n + 1))))] H := by rw [fmi_1, fmi_1, fmi_1]; exact hP
      have hD : va_D A [(k, .inr (1, [.ref r1, .ref r2, .ref r3, .ref r4])), (r1, .inl (cI, 25, .inl (fmi sz (fmS kd a bn n sz) 1))), (r2, .inl (cI, 25, .inl (fmi lf (fmL kd n lf) 1))), (r3, .inl (cI, 25, .inl (fmi rt (fmR kd n rt) 1))), (r4, .inl (cI, 25, .inl (fmi tr (fun i => nI (fz kd a bn i)) (n + 1))))] := by rw [fmi_1, fmi_1, fmi_1]; exact hD
      exact kk0  (fun i q1 q2 => ⟨fmi_in q1 (by omega), hT i q1 (by omega)⟩) _ _ hP hD hS ls (lv_sub hl [0, 1, 2, 3, 4] rfl)
    · skip
      refine lv_aload_n hx hb dX1_tellFamily_9 rfl (lv_at hl 0 rfl) ?_
      refine va_get (D := g) (ci := 1) (v := .ref r4) (C := RX1) (T := TX1) (N := 4) hx hb hts hinX1 hown hK hP 0 rfl rfl 3 (by decide) (hts (.fieldLink RX1 21 "BuddyRoof$Rule" "trial" "[I") (by decide +kernel)) (fun _ h9 => h9) rfl dX1_tellFamily_10 ?_
      refine lv_iload hx hb dX1_tellFamily_13 (lv_at hl 5 rfl) ?_
      refine lv_iload hx hb dX1_tellFamily_15 (lv_at hl 5 rfl) ?_
      refine lv_iload_n hx hb dX1_tellFamily_17 rfl (lv_at hl 1 rfl) ?_
      refine lv_iconst (v := nI 1) hx hb dX1_tellFamily_18 (by decide) ?_
      refine n_iadd hx hb dX1_tellFamily_19 ?_
      refine n_icmp_gt (tgt := 35) hx hb dX1_tellFamily_20 (by decide) (by first | assumption | omega) (by first | assumption | omega) (fun c9 => ?_) (fun c9 => ?_)
      · skip
        refine lv_aload_n hx hb dX1_tellFamily_35 rfl (lv_at hl 0 rfl) ?_
        refine va_get (D := g) (ci := 1) (v := .ref r4) (C := RX1) (T := TX1) (N := 4) hx hb hts hinX1 hown hK hP 0 rfl rfl 3 (by decide) (hts (.fieldLink RX1 21 "BuddyRoof$Rule" "trial" "[I") (by decide +kernel)) (fun _ h9 => h9) rfl dX1_tellFamily_36 ?_
        refine lv_iload hx hb dX1_tellFamily_39 (lv_at hl 5 rfl) ?_
        refine lv_iconst (v := nI 1) hx hb dX1_tellFamily_41 (by decide) ?_
        refine n_isub hx hb dX1_tellFamily_42 (by first | assumption | omega) ?_
        refine n_ald (v := nI (fz kd a bn (j - 1))) hx hb hK hP 4 0 rfl rfl (i := (j - 1)) (by first | assumption | omega) (by first | assumption | omega) (by exact fmi_in (by omega) (by omega)) dX1_tellFamily_43 ?_
        refine lv_aload_n hx hb dX1_tellFamily_44 rfl (lv_at hl 0 rfl) ?_
        refine va_get (D := g) (ci := 1) (v := .ref r4) (C := RX1) (T := TX1) (N := 4) hx hb hts hinX1 hown hK hP 0 rfl rfl 3 (by decide) (hts (.fieldLink RX1 21 "BuddyRoof$Rule" "trial" "[I") (by decide +kernel)) (fun _ h9 => h9) rfl dX1_tellFamily_45 ?_
        refine lv_iload_n hx hb dX1_tellFamily_48 rfl (lv_at hl 1 rfl) ?_
        refine lv_iload hx hb dX1_tellFamily_49 (lv_at hl 5 rfl) ?_
        refine k_goR (W.runS (As := [.int (nI kd), .int (nI j)]) (rest := [.ref r4, .int (nI (fz kd a bn (j - 1))), .int (nI j), .ref r4]) ⟨hx, hb, hml, hown, hts⟩ (c_X1_familyRight l g cI cJ cZ  kd j hkd (by omega)) (va_cwS 2 hts gX1_tellFamily_X1_familyRight rfl rfl rfl (by decide +kernel) ⟨Nat.le_of_ble_eq_true rfl, Nat.le_of_ble_eq_true rfl⟩) (k_preRS hk hP [] rfl) rfl rfl hl.1 rfl (lv_room (Nat.le_of_ble_eq_true rfl)) dX1_tellFamily_51 ⟨by first | exact Nat.zero_le _ | omega, by first | exact Nat.zero_le _ | omega⟩) ?_
        refine n_ald (v := nI (fz kd a bn (fR kd j))) hx hb hK hP 4 0 rfl rfl (i := (fR kd j)) (by have := fR_b hkd (show kd + 1 < j by omega); omega) (by first | assumption | omega) (by exact fmi_in (fR_b hkd (by omega)).1 (fR_b hkd (by omega)).2) dX1_tellFamily_54 ?_
        refine n_iadd hx hb dX1_tellFamily_55 ?_
        refine n_top _ (nI (fz kd a bn j)) (by rw [fz_s (k := j) (by omega)]) ?_
        refine n_astI hx hb hK hP hD hS 4 0 rfl rfl (i := j) (v := (nI (fz kd a bn j))) (by first | assumption | omega) (by first | assumption | omega) dX1_tellFamily_56 (fun H locs hP hD hS => ?_)
        have hP : va_P g vwCl [(k, .inr (1, [.ref r1, .ref r2, .ref r3, .ref r4])), (r1, .inl (cI, 25, .inl sz)), (r2, .inl (cI, 25, .inl lf)), (r3, .inl (cI, 25, .inl rt)), (r4, .inl (cI, 25, .inl (upd (fmi tr (fun i => nI (fz kd a bn i)) j) j (nI (fz kd a bn j)))))] H := hP
        have hD : va_D A [(k, .inr (1, [.ref r1, .ref r2, .ref r3, .ref r4])), (r1, .inl (cI, 25, .inl sz)), (r2, .inl (cI, 25, .inl lf)), (r3, .inl (cI, 25, .inl rt)), (r4, .inl (cI, 25, .inl (upd (fmi tr (fun i => nI (fz kd a bn i)) j) j (nI (fz kd a bn j)))))] := hD
        refine lv_aload_n hx hb dX1_tellFamily_57 rfl (lv_at hl 0 rfl) ?_
        refine va_get (D := g) (ci := 1) (v := .ref r4) (C := RX1) (T := TX1) (N := 4) hx hb hts hinX1 hown hK hP 0 rfl rfl 3 (by decide) (hts (.fieldLink RX1 21 "BuddyRoof$Rule" "trial" "[I") (by decide +kernel)) (fun _ h9 => h9) rfl dX1_tellFamily_58 ?_
        refine lv_iload hx hb dX1_tellFamily_61 (lv_at hl 5 rfl) ?_
        refine n_ald (v := nI (fz kd a bn j)) hx hb hK hP 4 0 rfl rfl (i := j) (by first | assumption | omega) (by first | assumption | omega) (by simp [upd]) dX1_tellFamily_63 ?_
        refine lv_ldc hx hb (v := 4194304) hown (hts (.constant RX1 38 4194304) (by decide +kernel)) dX1_tellFamily_64 ?_
        refine n_top _ (nI 4194304) (by decide) ?_
        refine n_icmp_le (tgt := 71) hx hb dX1_tellFamily_66 (by decide) (by have := fz_b hkd ha (fun q => (hbn q).2) hj.1 (fun i q1 q2 => hT i q1 q2); omega) (by first | assumption | omega) (fun c10 => ?_) (fun c10 => ?_)
        · skip
          rw [fmi_s (v := nI (fz kd a bn j)) hj.1 rfl] at hP hD
          refine lv_iinc (v := nI (j + 1)) (lv' := [(5, .int (nI (j + 1))), (0, .ref k), (1, .int (nI kd)), (2, .int (nI n)), (3, .int (nI a)), (4, .int b)]) hx hb dX1_tellFamily_71 hl (k := 5) rfl (n_inc _ 1) (by decide) rfl (fun ls hl => ?_)
          refine lv_goto (tgt := 3) hx hb dX1_tellFamily_74 (by decide) ?_
          exact ih (j + 1) (by omega) (by omega) (fun i q1 q2 => by
    by_cases e9 : i = j
    · subst e9; exact c10
    · exact hT i q1 (by omega)) (by rw [hlw, show n + 1 - j = (n + 1 - (j + 1)) + 1 by omega]; exact lwF_s (by rw [decide_eq_false_iff_not]; omega)) _ _ hP hD hS ls (lv_sub hl [1, 2, 3, 4, 5, 0] rfl)
        · skip
          have e8 : lwF (fun i => decide (4194304 < fz kd a bn i)) n 1 = j := by rw [hlw, show n + 1 - j = (n + 1 - (j + 1)) + 1 by omega]; exact lwF_e (by rw [decide_eq_true_eq]; exact c10)
          rw [fmi_s (v := nI (fz kd a bn j)) hj.1 rfl] at hP hD
          have hP : va_P g vwCl [(k, .inr (1, [.ref r1, .ref r2, .ref r3, .ref r4])), (r1, .inl (cI, 25, .inl sz)), (r2, .inl (cI, 25, .inl lf)), (r3, .inl (cI, 25, .inl rt)), (r4, .inl (cI, 25, .inl (fmi tr (fun i => nI (fz kd a bn i)) (lwF (fun i => decide (4194304 < fz kd a bn i)) n 1 + 1))))] H := by rw [e8]; exact hP
          have hD : va_D A [(k, .inr (1, [.ref r1, .ref r2, .ref r3, .ref r4])), (r1, .inl (cI, 25, .inl sz)), (r2, .inl (cI, 25, .inl lf)), (r3, .inl (cI, 25, .inl rt)), (r4, .inl (cI, 25, .inl (fmi tr (fun i => nI (fz kd a bn i)) (lwF (fun i => decide (4194304 < fz kd a bn i)) n 1 + 1))))] := by rw [e8]; exact hD
          exact kk1  (fOK_f hj.1 (by omega) c10) _ _ hP hD hS ls (lv_sub hl [0] rfl)
      · skip
        refine lv_iload_n hx hb dX1_tellFamily_23 rfl (lv_at hl 1 rfl) ?_
        refine lv_iload hx hb dX1_tellFamily_24 (lv_at hl 5 rfl) ?_
        refine lv_iload_n hx hb dX1_tellFamily_26 rfl (lv_at hl 3 rfl) ?_
        refine lv_iload hx hb dX1_tellFamily_27 (lv_at hl 4 rfl) ?_
        refine k_goR (W.runS (As := [.int (nI kd), .int (nI j), .int (nI a), .int b]) (rest := [.int (nI j), .ref r4]) ⟨hx, hb, hml, hown, hts⟩ (c_X1_leafSize l g cI cJ cZ  kd j a bn b hkd (by omega) (fun q => (hbn q).1)) (va_cwS 4 hts gX1_tellFamily_X1_leafSize rfl rfl rfl (by decide +kernel) ⟨Nat.le_of_ble_eq_true rfl, Nat.le_of_ble_eq_true rfl⟩) (k_preRS hk hP [] rfl) rfl rfl hl.1 rfl (lv_room (Nat.le_of_ble_eq_true rfl)) dX1_tellFamily_29 ⟨by first | exact Nat.zero_le _ | omega, by first | exact Nat.zero_le _ | omega⟩) ?_
        refine n_top _ (nI (fz kd a bn j)) (by rw [fz_l (k := j) (by omega)]) ?_
        refine lv_goto (tgt := 56) hx hb dX1_tellFamily_32 (by decide) ?_
        refine n_astI hx hb hK hP hD hS 4 0 rfl rfl (i := j) (v := (nI (fz kd a bn j))) (by first | assumption | omega) (by first | assumption | omega) dX1_tellFamily_56 (fun H locs hP hD hS => ?_)
        have hP : va_P g vwCl [(k, .inr (1, [.ref r1, .ref r2, .ref r3, .ref r4])), (r1, .inl (cI, 25, .inl sz)), (r2, .inl (cI, 25, .inl lf)), (r3, .inl (cI, 25, .inl rt)), (r4, .inl (cI, 25, .inl (upd (fmi tr (fun i => nI (fz kd a bn i)) j) j (nI (fz kd a bn j)))))] H := hP
        have hD : va_D A [(k, .inr (1, [.ref r1, .ref r2, .ref r3, .ref r4])), (r1, .inl (cI, 25, .inl sz)), (r2, .inl (cI, 25, .inl lf)), (r3, .inl (cI, 25, .inl rt)), (r4, .inl (cI, 25, .inl (upd (fmi tr (fun i => nI (fz kd a bn i)) j) j (nI (fz kd a bn j)))))] := hD
        refine lv_aload_n hx hb dX1_tellFamily_57 rfl (lv_at hl 0 rfl) ?_
        refine va_get (D := g) (ci := 1) (v := .ref r4) (C := RX1) (T := TX1) (N := 4) hx hb hts hinX1 hown hK hP 0 rfl rfl 3 (by decide) (hts (.fieldLink RX1 21 "BuddyRoof$Rule" "trial" "[I") (by decide +kernel)) (fun _ h9 => h9) rfl dX1_tellFamily_58 ?_
        refine lv_iload hx hb dX1_tellFamily_61 (lv_at hl 5 rfl) ?_
        refine n_ald (v := nI (fz kd a bn j)) hx hb hK hP 4 0 rfl rfl (i := j) (by first | assumption | omega) (by first | assumption | omega) (by simp [upd]) dX1_tellFamily_63 ?_
        refine lv_ldc hx hb (v := 4194304) hown (hts (.constant RX1 38 4194304) (by decide +kernel)) dX1_tellFamily_64 ?_
        refine n_top _ (nI 4194304) (by decide) ?_
        refine n_icmp_le (tgt := 71) hx hb dX1_tellFamily_66 (by decide) (by have := fz_b hkd ha (fun q => (hbn q).2) hj.1 (fun i q1 q2 => hT i q1 q2); omega) (by first | assumption | omega) (fun c11 => ?_) (fun c11 => ?_)
        · skip
          rw [fmi_s (v := nI (fz kd a bn j)) hj.1 rfl] at hP hD
          refine lv_iinc (v := nI (j + 1)) (lv' := [(5, .int (nI (j + 1))), (0, .ref k), (1, .int (nI kd)), (2, .int (nI n)), (3, .int (nI a)), (4, .int b)]) hx hb dX1_tellFamily_71 hl (k := 5) rfl (n_inc _ 1) (by decide) rfl (fun ls hl => ?_)
          refine lv_goto (tgt := 3) hx hb dX1_tellFamily_74 (by decide) ?_
          exact ih (j + 1) (by omega) (by omega) (fun i q1 q2 => by
    by_cases e9 : i = j
    · subst e9; exact c11
    · exact hT i q1 (by omega)) (by rw [hlw, show n + 1 - j = (n + 1 - (j + 1)) + 1 by omega]; exact lwF_s (by rw [decide_eq_false_iff_not]; omega)) _ _ hP hD hS ls (lv_sub hl [1, 2, 3, 4, 5, 0] rfl)
        · skip
          have e8 : lwF (fun i => decide (4194304 < fz kd a bn i)) n 1 = j := by rw [hlw, show n + 1 - j = (n + 1 - (j + 1)) + 1 by omega]; exact lwF_e (by rw [decide_eq_true_eq]; exact c11)
          rw [fmi_s (v := nI (fz kd a bn j)) hj.1 rfl] at hP hD
          have hP : va_P g vwCl [(k, .inr (1, [.ref r1, .ref r2, .ref r3, .ref r4])), (r1, .inl (cI, 25, .inl sz)), (r2, .inl (cI, 25, .inl lf)), (r3, .inl (cI, 25, .inl rt)), (r4, .inl (cI, 25, .inl (fmi tr (fun i => nI (fz kd a bn i)) (lwF (fun i => decide (4194304 < fz kd a bn i)) n 1 + 1))))] H := by rw [e8]; exact hP
          have hD : va_D A [(k, .inr (1, [.ref r1, .ref r2, .ref r3, .ref r4])), (r1, .inl (cI, 25, .inl sz)), (r2, .inl (cI, 25, .inl lf)), (r3, .inl (cI, 25, .inl rt)), (r4, .inl (cI, 25, .inl (fmi tr (fun i => nI (fz kd a bn i)) (lwF (fun i => decide (4194304 < fz kd a bn i)) n 1 + 1))))] := by rw [e8]; exact hD
          exact kk1  (fOK_f hj.1 (by omega) c11) _ _ hP hD hS ls (lv_sub hl [0] rfl)

set_option maxHeartbeats 4000000 in
set_option maxRecDepth 100000 in
theorem lp_X1_tellFamily_80 {p : Program} {e : Env} {s : State} {m : MethodId} {args : Array Value} {below : List Frame} {meth : Method} {c : Code} {Q : State → Prop} (l : Launch) (g : va_G) (cI cJ cZ : ClassId) (k r1 r2 r3 r4 : Nat) (sz lf rt tr : Nat → Int32) (kd n a bn : Nat) (b : Int32) (hkd : kd ≤ 2) (hn : 1 ≤ n ∧ n ≤ 24) (ha : a ≤ 4194304) (hbn : kd = 1 → b = nI bn ∧ bn ≤ 4194304) (ta : Nat → Int32) (hT : ∀ i, 1 ≤ i → i ≤ n → ta i = nI (fz kd a bn i) ∧ fz kd a bn i ≤ 4194304) (C0 : cM p s m args meth c cX1_tellFamily 6 (some .boolean) wsX1_tellFamily RX1) (hk : kK g (kty cI cJ cZ) s) {A : Nat → Prop} {H0 : Heap} (hA : ∀ q : Nat, H0.size ≤ q → A q) (kk0 :  ∀ (H : Heap) (locs : List Loc), va_P g vwCl [(k, .inr (1, [.ref r1, .ref r2, .ref r3, .ref r4])), (r1, .inl (cI, 25, .inl (fmi sz (fmS kd a bn n sz) 25))), (r2, .inl (cI, 25, .inl (fmi lf (fmL kd n lf) 25))), (r3, .inl (cI, 25, .inl (fmi rt (fmR kd n rt) 25))), (r4, .inl (cI, 25, .inl ta))] H → va_D A [(k, .inr (1, [.ref r1, .ref r2, .ref r3, .ref r4])), (r1, .inl (cI, 25, .inl (fmi sz (fmS kd a bn n sz) 25))), (r2, .inl (cI, 25, .inl (fmi lf (fmL kd n lf) 25))), (r3, .inl (cI, 25, .inl (fmi rt (fmR kd n rt) 25))), (r4, .inl (cI, 25, .inl ta))] → va_S A H0 H locs → ∀ (ls : Array Slot), lv_has ls 6 [(0, .ref k)] → W p l e (headSpec wsX1_tellFamily ({ frames := 1, cells := 0, slots := 0, locals := 24 })).room s m args below meth c H locs 0 0 Q (F0 m 160 ls [])) :
    ∀ (K : Nat) (j : Nat), (25 - j) < K → (1 ≤ j ∧ j ≤ 25) → ∀ (H : Heap) (locs : List Loc), va_P g vwCl [(k, .inr (1, [.ref r1, .ref r2, .ref r3, .ref r4])), (r1, .inl (cI, 25, .inl (fmi sz (fmS kd a bn n sz) j))), (r2, .inl (cI, 25, .inl (fmi lf (fmL kd n lf) j))), (r3, .inl (cI, 25, .inl (fmi rt (fmR kd n rt) j))), (r4, .inl (cI, 25, .inl ta))] H → va_D A [(k, .inr (1, [.ref r1, .ref r2, .ref r3, .ref r4])), (r1, .inl (cI, 25, .inl (fmi sz (fmS kd a bn n sz) j))), (r2, .inl (cI, 25, .inl (fmi lf (fmL kd n lf) j))), (r3, .inl (cI, 25, .inl (fmi rt (fmR kd n rt) j))), (r4, .inl (cI, 25, .inl ta))] → va_S A H0 H locs →∀ (ls : Array Slot), lv_has ls 6 [(0, .ref k), (1, .int (nI kd)), (2, .int (nI n)), (3, .int (nI a)), (4, .int b), (5, .int (nI j))] → W p l e (headSpec wsX1_tellFamily ({ frames := 1, cells := 0, slots := 0, locals := 24 })).room s m args below meth c H locs 0 0 Q (F0 m 80 ls []) := by
  obtain ⟨hx, hb, hr, hml, hown, hts, hlocks⟩ := C0
  have hK := hk.1
  have hinX1 : ∀ w ∈ wsX10, w ∈ wsX1_tellFamily := by decide +kernel
  intro K
  induction K with
  | zero =>
    intro j h0
    exact absurd h0 (Nat.not_lt_zero _)
  | succ K ih =>
    intro j hmu hj H locs hP hD hS ls hl
    refine lv_iload hx hb dX1_tellFamily_80 (lv_at hl 5 rfl) ?_
    refine lv_bipush (v := nI 24) hx hb dX1_tellFamily_82 (by decide) ?_
    refine n_icmp_gt (tgt := 160) hx hb dX1_tellFamily_84 (by decide) (by first | assumption | omega) (by first | assumption | omega) (fun c12 => ?_) (fun c12 => ?_)
    · skip
      obtain rfl : j = 25 := by omega
      exact kk0   _ _ hP hD hS ls (lv_sub hl [0] rfl)
    · skip
      refine lv_iload hx hb dX1_tellFamily_87 (lv_at hl 5 rfl) ?_
      refine lv_iload_n hx hb dX1_tellFamily_89 rfl (lv_at hl 2 rfl) ?_
      refine n_icmp_le (tgt := 105) hx hb dX1_tellFamily_90 (by decide) (by first | assumption | omega) (by first | assumption | omega) (fun c13 => ?_) (fun c13 => ?_)
      · skip
        refine lv_iload hx hb dX1_tellFamily_105 (lv_at hl 5 rfl) ?_
        refine lv_iload_n hx hb dX1_tellFamily_107 rfl (lv_at hl 1 rfl) ?_
        refine lv_iconst (v := nI 1) hx hb dX1_tellFamily_108 (by decide) ?_
        refine n_iadd hx hb dX1_tellFamily_109 ?_
        refine n_icmp_gt (tgt := 131) hx hb dX1_tellFamily_110 (by decide) (by first | assumption | omega) (by first | assumption | omega) (fun c14 => ?_) (fun c14 => ?_)
        · skip
          refine lv_aload_n hx hb dX1_tellFamily_131 rfl (lv_at hl 0 rfl) ?_
          refine lv_iload hx hb dX1_tellFamily_132 (lv_at hl 5 rfl) ?_
          refine lv_aload_n hx hb dX1_tellFamily_134 rfl (lv_at hl 0 rfl) ?_
          refine va_get (D := g) (ci := 1) (v := .ref r4) (C := RX1) (T := TX1) (N := 4) hx hb hts hinX1 hown hK hP 0 rfl rfl 3 (by decide) (hts (.fieldLink RX1 21 "BuddyRoof$Rule" "trial" "[I") (by decide +kernel)) (fun _ h9 => h9) rfl dX1_tellFamily_135 ?_
          refine lv_iload hx hb dX1_tellFamily_138 (lv_at hl 5 rfl) ?_
          refine n_ald (v := nI (fz kd a bn j)) hx hb hK hP 4 0 rfl rfl (i := j) (by first | assumption | omega) (by first | assumption | omega) (by exact (hT _ (by omega) (by omega)).1) dX1_tellFamily_140 ?_
          refine lv_iload hx hb dX1_tellFamily_141 (lv_at hl 5 rfl) ?_
          refine lv_iconst (v := nI 1) hx hb dX1_tellFamily_143 (by decide) ?_
          refine n_isub hx hb dX1_tellFamily_144 (by first | assumption | omega) ?_
          refine lv_iload_n hx hb dX1_tellFamily_145 rfl (lv_at hl 1 rfl) ?_
          refine lv_iload hx hb dX1_tellFamily_146 (lv_at hl 5 rfl) ?_
          refine k_goR (W.runS (As := [.int (nI kd), .int (nI j)]) (rest := [.int (nI (j - 1)), .int (nI (fz kd a bn j)), .int (nI j), .ref k]) ⟨hx, hb, hml, hown, hts⟩ (c_X1_familyRight l g cI cJ cZ  kd j hkd (by omega)) (va_cwS 2 hts gX1_tellFamily_X1_familyRight rfl rfl rfl (by decide +kernel) ⟨Nat.le_of_ble_eq_true rfl, Nat.le_of_ble_eq_true rfl⟩) (k_preRS hk hP [] rfl) rfl rfl hl.1 rfl (lv_room (Nat.le_of_ble_eq_true rfl)) dX1_tellFamily_148 ⟨by first | exact Nat.zero_le _ | omega, by first | exact Nat.zero_le _ | omega⟩) ?_
          obtain ⟨f1, f2, f3⟩ := fm_s (sz := sz) (lf := lf) (rt := rt) (a := a) (b := bn) (kd := kd) (n := n) hj.1 (by omega) (by omega) (by omega)
          refine k_goV (wr := []) (va_runV (As := [.int (nI j), .int (nI (fz kd a bn j)), .int (nI (j - 1)), .int (nI (fR kd j))]) (rest := []) ⟨hx, hb, hml, hown, hts⟩ (c_X1_tell l g cI cJ cZ k r1 r2 r3 r4 (fmi sz (fmS kd a bn n sz) j) (fmi lf (fmL kd n lf) j) (fmi rt (fmR kd n rt) j) ta j (nI (fz kd a bn j)) (nI (j - 1)) (nI (fR kd j)) (by omega) _) (cwV 4 hts gX1_tellFamily_X1_tell rfl rfl rfl (by decide +kernel) ⟨Nat.le_of_ble_eq_true rfl, Nat.le_of_ble_eq_true rfl⟩) (k_preV hk hP hD [0, 1, 2, 3, 4] rfl rfl (ci := 1) (q0 := 0) rfl rfl) rfl rfl hl.1 rfl (lv_room (Nat.le_of_ble_eq_true rfl)) dX1_tellFamily_151 ⟨by first | exact Nat.zero_le _ | omega, by first | exact Nat.zero_le _ | omega⟩) hP hD hS hA [0, 1, 2, 3, 4] [] rfl rfl rfl (by decide) (fun _ H locs hu hP hD hS => ?_)
          rw [fmi_s hj.1 f1, fmi_s hj.1 f2, fmi_s hj.1 f3] at hP hD
          have hP : va_P g vwCl [(k, .inr (1, [.ref r1, .ref r2, .ref r3, .ref r4])), (r1, .inl (cI, 25, .inl (fmi sz (fmS kd a bn n sz) (j + 1)))), (r2, .inl (cI, 25, .inl (fmi lf (fmL kd n lf) (j + 1)))), (r3, .inl (cI, 25, .inl (fmi rt (fmR kd n rt) (j + 1)))), (r4, .inl (cI, 25, .inl ta))] H := hP
          have hD : va_D A [(k, .inr (1, [.ref r1, .ref r2, .ref r3, .ref r4])), (r1, .inl (cI, 25, .inl (fmi sz (fmS kd a bn n sz) (j + 1)))), (r2, .inl (cI, 25, .inl (fmi lf (fmL kd n lf) (j + 1)))), (r3, .inl (cI, 25, .inl (fmi rt (fmR kd n rt) (j + 1)))), (r4, .inl (cI, 25, .inl ta))] := hD
          refine lv_iinc (v := nI (j + 1)) (lv' := [(5, .int (nI (j + 1))), (0, .ref k), (1, .int (nI kd)), (2, .int (nI n)), (3, .int (nI a)), (4, .int b)]) hx hb dX1_tellFamily_154 hl (k := 5) rfl (n_inc _ 1) (by decide) rfl (fun ls hl => ?_)
          refine lv_goto (tgt := 80) hx hb dX1_tellFamily_157 (by decide) ?_
          exact ih (j + 1) (by omega) (by omega) _ _ hP hD hS ls (lv_sub hl [1, 2, 3, 4, 5, 0] rfl)
        · skip
          refine lv_aload_n hx hb dX1_tellFamily_113 rfl (lv_at hl 0 rfl) ?_
          refine lv_iload hx hb dX1_tellFamily_114 (lv_at hl 5 rfl) ?_
          refine lv_aload_n hx hb dX1_tellFamily_116 rfl (lv_at hl 0 rfl) ?_
          refine va_get (D := g) (ci := 1) (v := .ref r4) (C := RX1) (T := TX1) (N := 4) hx hb hts hinX1 hown hK hP 0 rfl rfl 3 (by decide) (hts (.fieldLink RX1 21 "BuddyRoof$Rule" "trial" "[I") (by decide +kernel)) (fun _ h9 => h9) rfl dX1_tellFamily_117 ?_
          refine lv_iload hx hb dX1_tellFamily_120 (lv_at hl 5 rfl) ?_
          refine n_ald (v := nI (fz kd a bn j)) hx hb hK hP 4 0 rfl rfl (i := j) (by first | assumption | omega) (by first | assumption | omega) (by exact (hT _ (by omega) (by omega)).1) dX1_tellFamily_122 ?_
          refine lv_iconst (v := nI 0) hx hb dX1_tellFamily_123 (by decide) ?_
          refine lv_iconst (v := nI 0) hx hb dX1_tellFamily_124 (by decide) ?_
          obtain ⟨f1, f2, f3⟩ := fm_l (sz := sz) (lf := lf) (rt := rt) (a := a) (b := bn) (kd := kd) (n := n) hj.1 (by omega) (by omega) (by omega)
          refine k_goV (wr := []) (va_runV (As := [.int (nI j), .int (nI (fz kd a bn j)), .int (nI 0), .int (nI 0)]) (rest := []) ⟨hx, hb, hml, hown, hts⟩ (c_X1_tell l g cI cJ cZ k r1 r2 r3 r4 (fmi sz (fmS kd a bn n sz) j) (fmi lf (fmL kd n lf) j) (fmi rt (fmR kd n rt) j) ta j (nI (fz kd a bn j)) (nI 0) (nI 0) (by omega) _) (cwV 4 hts gX1_tellFamily_X1_tell rfl rfl rfl (by decide +kernel) ⟨Nat.le_of_ble_eq_true rfl, Nat.le_of_ble_eq_true rfl⟩) (k_preV hk hP hD [0, 1, 2, 3, 4] rfl rfl (ci := 1) (q0 := 0) rfl rfl) rfl rfl hl.1 rfl (lv_room (Nat.le_of_ble_eq_true rfl)) dX1_tellFamily_125 ⟨by first | exact Nat.zero_le _ | omega, by first | exact Nat.zero_le _ | omega⟩) hP hD hS hA [0, 1, 2, 3, 4] [] rfl rfl rfl (by decide) (fun _ H locs hu hP hD hS => ?_)
          rw [fmi_s hj.1 f1, fmi_s hj.1 f2, fmi_s hj.1 f3] at hP hD
          have hP : va_P g vwCl [(k, .inr (1, [.ref r1, .ref r2, .ref r3, .ref r4])), (r1, .inl (cI, 25, .inl (fmi sz (fmS kd a bn n sz) (j + 1)))), (r2, .inl (cI, 25, .inl (fmi lf (fmL kd n lf) (j + 1)))), (r3, .inl (cI, 25, .inl (fmi rt (fmR kd n rt) (j + 1)))), (r4, .inl (cI, 25, .inl ta))] H := hP
          have hD : va_D A [(k, .inr (1, [.ref r1, .ref r2, .ref r3, .ref r4])), (r1, .inl (cI, 25, .inl (fmi sz (fmS kd a bn n sz) (j + 1)))), (r2, .inl (cI, 25, .inl (fmi lf (fmL kd n lf) (j + 1)))), (r3, .inl (cI, 25, .inl (fmi rt (fmR kd n rt) (j + 1)))), (r4, .inl (cI, 25, .inl ta))] := hD
          refine lv_goto (tgt := 154) hx hb dX1_tellFamily_128 (by decide) ?_
          refine lv_iinc (v := nI (j + 1)) (lv' := [(5, .int (nI (j + 1))), (0, .ref k), (1, .int (nI kd)), (2, .int (nI n)), (3, .int (nI a)), (4, .int b)]) hx hb dX1_tellFamily_154 hl (k := 5) rfl (n_inc _ 1) (by decide) rfl (fun ls hl => ?_)
          refine lv_goto (tgt := 80) hx hb dX1_tellFamily_157 (by decide) ?_
          exact ih (j + 1) (by omega) (by omega) _ _ hP hD hS ls (lv_sub hl [1, 2, 3, 4, 5, 0] rfl)
      · skip
        refine lv_aload_n hx hb dX1_tellFamily_93 rfl (lv_at hl 0 rfl) ?_
        refine lv_iload hx hb dX1_tellFamily_94 (lv_at hl 5 rfl) ?_
        refine lv_iconst (v := nI 0) hx hb dX1_tellFamily_96 (by decide) ?_
        refine lv_iconst (v := nI 0) hx hb dX1_tellFamily_97 (by decide) ?_
        refine lv_iconst (v := nI 0) hx hb dX1_tellFamily_98 (by decide) ?_
        obtain ⟨f1, f2, f3⟩ := fm_g (sz := sz) (lf := lf) (rt := rt) (a := a) (b := bn) (kd := kd) (n := n) hj.1 (by omega) (by omega)
        refine k_goV (wr := []) (va_runV (As := [.int (nI j), .int (nI 0), .int (nI 0), .int (nI 0)]) (rest := []) ⟨hx, hb, hml, hown, hts⟩ (c_X1_tell l g cI cJ cZ k r1 r2 r3 r4 (fmi sz (fmS kd a bn n sz) j) (fmi lf (fmL kd n lf) j) (fmi rt (fmR kd n rt) j) ta j (nI 0) (nI 0) (nI 0) (by omega) _) (cwV 4 hts gX1_tellFamily_X1_tell rfl rfl rfl (by decide +kernel) ⟨Nat.le_of_ble_eq_true rfl, Nat.le_of_ble_eq_true rfl⟩) (k_preV hk hP hD [0, 1, 2, 3, 4] rfl rfl (ci := 1) (q0 := 0) rfl rfl) rfl rfl hl.1 rfl (lv_room (Nat.le_of_ble_eq_true rfl)) dX1_tellFamily_99 ⟨by first | exact Nat.zero_le _ | omega, by first | exact Nat.zero_le _ | omega⟩) hP hD hS hA [0, 1, 2, 3, 4] [] rfl rfl rfl (by decide) (fun _ H locs hu hP hD hS => ?_)
        rw [fmi_s hj.1 f1, fmi_s hj.1 f2, fmi_s hj.1 f3] at hP hD
        have hP : va_P g vwCl [(k, .inr (1, [.ref r1, .ref r2, .ref r3, .ref r4])), (r1, .inl (cI, 25, .inl (fmi sz (fmS kd a bn n sz) (j + 1)))), (r2, .inl (cI, 25, .inl (fmi lf (fmL kd n lf) (j + 1)))), (r3, .inl (cI, 25, .inl (fmi rt (fmR kd n rt) (j + 1)))), (r4, .inl (cI, 25, .inl ta))] H := hP
        have hD : va_D A [(k, .inr (1, [.ref r1, .ref r2, .ref r3, .ref r4])), (r1, .inl (cI, 25, .inl (fmi sz (fmS kd a bn n sz) (j + 1)))), (r2, .inl (cI, 25, .inl (fmi lf (fmL kd n lf) (j + 1)))), (r3, .inl (cI, 25, .inl (fmi rt (fmR kd n rt) (j + 1)))), (r4, .inl (cI, 25, .inl ta))] := hD
        refine lv_goto (tgt := 154) hx hb dX1_tellFamily_102 (by decide) ?_
        refine lv_iinc (v := nI (j + 1)) (lv' := [(5, .int (nI (j + 1))), (0, .ref k), (1, .int (nI kd)), (2, .int (nI n)), (3, .int (nI a)), (4, .int b)]) hx hb dX1_tellFamily_154 hl (k := 5) rfl (n_inc _ 1) (by decide) rfl (fun ls hl => ?_)
        refine lv_goto (tgt := 80) hx hb dX1_tellFamily_157 (by decide) ?_
        exact ih (j + 1) (by omega) (by omega) _ _ hP hD hS ls (lv_sub hl [1, 2, 3, 4, 5, 0] rfl)

set_option maxHeartbeats 4000000 in
set_option maxRecDepth 100000 in
theorem c_X1_tellFamily (l : Launch) (g : va_G) (cI cJ cZ : ClassId) (k r1 r2 r3 r4 : Nat) (sz lf rt tr : Nat → Int32) (kd n a bn : Nat) (b : Int32) (hkd : kd ≤ 2) (hn : 1 ≤ n ∧ n ≤ 24) (ha : a ≤ 4194304) (hbn : kd = 1 → b = nI bn ∧ bn ≤ 4194304) : kI l g (kty cI cJ cZ) yX1_tellFamily wsX1_tellFamily ({ frames := 1, cells := 0, slots := 0, locals := 24 }) [.ref k, .int (nI kd), .int (nI n), .int (nI a), .int b] [(k, .inr (1, [.ref r1, .ref r2, .ref r3, .ref r4])), (r1, .inl (cI, 25, .inl sz)), (r2, .inl (cI, 25, .inl lf)), (r3, .inl (cI, 25, .inl rt)), (r4, .inl (cI, 25, .inl tr))] (S := (Nat → Int32) × (Nat → Int32) × (Nat → Int32) × (Nat → Int32)) (fun x u => (fOK kd a bn n = true ∧ x = nI 1 ∧ u.1 = fmS kd a bn n sz ∧ u.2.1 = fmL kd n lf ∧ u.2.2.1 = fmR kd n rt) ∨ (fOK kd a bn n = false ∧ x = nI 0 ∧ u.1 = sz ∧ u.2.1 = lf ∧ u.2.2.1 = rt ∧ u.2.2.2 = fmi tr (fun i => nI (fz kd a bn i)) (lwF (fun i => decide (4194304 < fz kd a bn i)) n 1 + 1))) (fun u => [(k, .inr (1, [.ref r1, .ref r2, .ref r3, .ref r4])), (r1, .inl (cI, 25, .inl (u.1))), (r2, .inl (cI, 25, .inl (u.2.1))), (r3, .inl (cI, 25, .inl (u.2.2.1))), (r4, .inl (cI, 25, .inl (u.2.2.2)))]) 0 0 := by
  intro sz
  refine Met.ofW (cc := cX1_tellFamily) (maxL := 6) (ret := (some .boolean)) (by decide) rfl ?_
  intro p e s m args below meth c s₁ B hml hv
  obtain ⟨rfl, hsz, hP, hk, hD0⟩ := hv
  subst hsz
  have hx := B.exec
  have hb := B.bytes
  have hr := B.returns
  have hts := atoms_spec (ws := wsX1_tellFamily) B.pre
  have hown : s.vm.findClass RX1 = some m.cls := findClass_of_methodNamed B.named
  have hlocks := B.notSynchronized
  have hK := hk.1
  have hinX1 : ∀ w ∈ wsX10, w ∈ wsX1_tellFamily := by decide +kernel
  obtain ⟨A, hAe⟩ : ∃ A, va_A [(k, .inr (1, [.ref r1, .ref r2, .ref r3, .ref r4])), (r1, .inl (cI, 25, .inl sz)), (r2, .inl (cI, 25, .inl lf)), (r3, .inl (cI, 25, .inl rt)), (r4, .inl (cI, 25, .inl tr))] s.heap.size = A := ⟨_, rfl⟩
  have hD := hD0.self (sz := s.heap.size)
  rw [hAe] at hD
  have hA : ∀ q : Nat, s.heap.size ≤ q → A q := fun q h => by rw [← hAe]; exact Or.inr h
  have hS : va_S A s.heap s.heap [] := va_S.rf
  have hl := lv_entry ([.ref k, .int (nI kd), .int (nI n), .int (nI a), .int b]) (n := 6) (Nat.le_of_ble_eq_true rfl)
  rw [lg_entry_eq]
  generalize (lg_sl ([.ref k, .int (nI kd), .int (nI n), .int (nI a), .int b]) ++ List.replicate (6 - (lg_sl ([.ref k, .int (nI kd), .int (nI n), .int (nI a), .int b])).length) Slot.unset).toArray = ls at hl ⊢
  have hl : lv_has ls 6 [(0, .ref k), (1, .int (nI kd)), (2, .int (nI n)), (3, .int (nI a)), (4, .int b)] := hl
  rw [← fmi_1 tr (fun i => nI (fz kd a bn i))] at hP hD
  refine lv_iconst (v := nI 1) hx hb dX1_tellFamily_0 (by decide) ?_
  refine lv_istore (lv' := [(5, .int (nI 1)), (0, .ref k), (1, .int (nI kd)), (2, .int (nI n)), (3, .int (nI a)), (4, .int b)]) hx hb dX1_tellFamily_1 hl (by decide) rfl (fun ls hl => ?_)
  refine lp_X1_tellFamily_3 l g cI cJ cZ k r1 r2 r3 r4 sz lf rt tr kd n a bn b hkd hn ha hbn  ⟨hx, hb, hr, hml, hown, hts, hlocks⟩ hk hA (fun  hT H locs hP hD hS ls hl => ?_) (fun  hF H locs hP hD hS ls hl => ?_) _ 1 (Nat.lt_succ_self _) (by omega) (fun i q1 q2 => by omega) (by rw [Nat.add_sub_cancel]) _ _ hP hD hS ls (lv_sub hl [1, 2, 3, 4, 5, 0] rfl)
  · skip
    refine lv_iconst (v := nI 1) hx hb dX1_tellFamily_77 (by decide) ?_
    refine lv_istore (lv' := [(5, .int (nI 1)), (0, .ref k), (1, .int (nI kd)), (2, .int (nI n)), (3, .int (nI a)), (4, .int b)]) hx hb dX1_tellFamily_78 hl (by decide) rfl (fun ls hl => ?_)
    refine lp_X1_tellFamily_80 l g cI cJ cZ k r1 r2 r3 r4 sz lf rt tr kd n a bn b hkd hn ha hbn (fmi tr (fun i => nI (fz kd a bn i)) (n + 1)) hT ⟨hx, hb, hr, hml, hown, hts, hlocks⟩ hk hA (fun   H locs hP hD hS ls hl => ?_) _ 1 (Nat.lt_succ_self _) (by decide) _ _ hP hD hS ls (lv_sub hl [1, 2, 3, 4, 5, 0] rfl)
    · skip
      refine lv_iconst (v := nI 1) hx hb dX1_tellFamily_160 (by decide) ?_
      refine W.widen (k := 0) (n := 0) (by first | exact Nat.le_refl _ | omega) (by first | exact Nat.le_refl _ | omega) ?_
      exact k_retZ (sz := 0) (v := nI 1) hx hb hr hlocks hAe hS hP hD ((fmi sz (fmS kd a bn n sz) 25), (fmi lf (fmL kd n lf) 25), (fmi rt (fmR kd n rt) 25), (fmi tr (fun i => nI (fz kd a bn i)) (n + 1))) (rfl) (by decide) (Or.inl ⟨fOK_t.mpr (fun i q1 q2 => (hT i q1 q2).2), rfl, (fm_e kd a bn n sz lf rt).1, (fm_e kd a bn n sz lf rt).2.1, (fm_e kd a bn n sz lf rt).2.2⟩) dX1_tellFamily_161
  · skip
    refine lv_iconst (v := nI 0) hx hb dX1_tellFamily_69 (by decide) ?_
    refine W.widen (k := 0) (n := 0) (by first | exact Nat.le_refl _ | omega) (by first | exact Nat.le_refl _ | omega) ?_
    exact k_retZ (sz := 0) (v := nI 0) hx hb hr hlocks hAe hS hP hD (sz, lf, rt, (fmi tr (fun i => nI (fz kd a bn i)) (lwF (fun i => decide (4194304 < fz kd a bn i)) n 1 + 1))) (rfl) (by decide) (Or.inr ⟨hF, rfl, rfl, rfl, rfl, rfl⟩) dX1_tellFamily_70
