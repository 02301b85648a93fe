set_option maxHeartbeats 4000000 in
set_option maxRecDepth 100000 in
theorem c_X2_setRequest (l : Launch) (g : va_G) (cI cJ cZ : ClassId) (h q1 q2 q3 q4 q5 q6 q7 n : Nat) (pa ch kd ad rq su un : Nat → Nat) (mk sp : Nat) (i w : Nat) (hn : n < 2 ^ 31) (hi : i < n) (hkd : ∀ i, kd i ≤ 24) (hw : w < 2 ^ 31) : kV l g (kty cI cJ cZ) yX2_setRequest wsX2_setRequest ({ frames := 0, cells := 0, slots := 0, locals := 0 }) [.ref h, .int (nI i), .int (nI w)] [(h, .inr (2, [.ref q1, .ref q2, .ref q3, .ref q4, .ref q5, .ref q6, .ref q7, .int (nI mk), .int (nI sp)])), (q1, .inl (cI, n, .inl (fun j => nI (pa j)))), (q2, .inl (cI, n, .inl (fun j => nI (ch j)))), (q3, .inl (cI, n, .inl (fun j => nI (kd j)))), (q4, .inl (cI, n, .inl (fun j => nI (ad j)))), (q5, .inl (cI, n, .inl (fun j => nI (rq j)))), (q6, .inl (cI, n, .inl (fun j => nI (su j)))), (q7, .inl (cI, n, .inl (fun j => nI (un j))))] (S := Unit) (fun _ => True) (fun u => [(h, .inr (2, [.ref q1, .ref q2, .ref q3, .ref q4, .ref q5, .ref q6, .ref q7, .int (nI mk), .int (nI sp)])), (q1, .inl (cI, n, .inl (fun j => nI (pa j)))), (q2, .inl (cI, n, .inl (fun j => nI (ch j)))), (q3, .inl (cI, n, .inl (fun j => nI (kd j)))), (q4, .inl (cI, n, .inl (fun j => nI (ad j)))), (q5, .inl (cI, n, .inl (fun j => nI ((upN rq i w) j)))), (q6, .inl (cI, n, .inl (fun j => nI ((upN su i (if w = 0 then 1 * 2 ^ kd i else 33554432)) j)))), (q7, .inl (cI, n, .inl (fun j => nI (un j))))]) 0 0 := by
  intro sz
  refine Met.ofW (cc := cX2_setRequest) (maxL := 3) (ret := none) (by decide) rfl ?_
  intro p e s m args below meth c s₁ B hml hv
  obtain ⟨rfl, hsz, hP, hk, hD0⟩ := hv
  subst hsz
  have hx := B.exec
  have hb := B.bytes
  have hr := B.returns
  have hts := atoms_spec (ws := wsX2_setRequest) B.pre
  have hown : s.vm.findClass RX2 = some m.cls := findClass_of_methodNamed B.named
  have hlocks := B.notSynchronized
  have hK := hk.1
  have hinX2 : ∀ w ∈ wsX20, w ∈ wsX2_setRequest := by decide +kernel
  obtain ⟨A, hAe⟩ : ∃ A, va_A [(h, .inr (2, [.ref q1, .ref q2, .ref q3, .ref q4, .ref q5, .ref q6, .ref q7, .int (nI mk), .int (nI sp)])), (q1, .inl (cI, n, .inl (fun j => nI (pa j)))), (q2, .inl (cI, n, .inl (fun j => nI (ch j)))), (q3, .inl (cI, n, .inl (fun j => nI (kd j)))), (q4, .inl (cI, n, .inl (fun j => nI (ad j)))), (q5, .inl (cI, n, .inl (fun j => nI (rq j)))), (q6, .inl (cI, n, .inl (fun j => nI (su j)))), (q7, .inl (cI, n, .inl (fun j => nI (un j))))] s.heap.size = A := ⟨_, rfl⟩
  have hD := hD0.self (sz := s.heap.size)
  rw [hAe] at hD
  have hA : ∀ q : Nat, s.heap.size ≤ q → A q := fun q h => by rw [← hAe]; exact Or.inr h
  have hS : va_S A s.heap s.heap [] := va_S.rf
  have hl := lv_entry ([.ref h, .int (nI i), .int (nI w)]) (n := 3) (Nat.le_of_ble_eq_true rfl)
  rw [lg_entry_eq]
  generalize (lg_sl ([.ref h, .int (nI i), .int (nI w)]) ++ List.replicate (3 - (lg_sl ([.ref h, .int (nI i), .int (nI w)])).length) Slot.unset).toArray = ls at hl ⊢
  have hl : lv_has ls 3 [(0, .ref h), (1, .int (nI i)), (2, .int (nI w))] := hl
  refine lv_aload_n hx hb dX2_setRequest_0 rfl (lv_at hl 0 rfl) ?_
  refine va_get (D := g) (ci := 2) (v := .ref q5) (C := RX2) (T := TX2) (N := 9) hx hb hts hinX2 hown hK hP 0 rfl rfl 4 (by decide) (hts (.fieldLink RX2 24 "BuddyRoof$Tree" "request" "[I") (by decide +kernel)) (fun _ h9 => h9) rfl dX2_setRequest_1 ?_
  refine lv_iload_n hx hb dX2_setRequest_4 rfl (lv_at hl 1 rfl) ?_
  refine lv_iload_n hx hb dX2_setRequest_5 rfl (lv_at hl 2 rfl) ?_
  refine n_ast hx hb hK hP hD hS 5 0 rfl rfl (i := i) (v := w) (by first | assumption | omega) (by first | assumption | omega) dX2_setRequest_6 (fun H locs hP hD hS => ?_)
  have hP : va_P g vwCl [(h, .inr (2, [.ref q1, .ref q2, .ref q3, .ref q4, .ref q5, .ref q6, .ref q7, .int (nI mk), .int (nI sp)])), (q1, .inl (cI, n, .inl (fun j => nI (pa j)))), (q2, .inl (cI, n, .inl (fun j => nI (ch j)))), (q3, .inl (cI, n, .inl (fun j => nI (kd j)))), (q4, .inl (cI, n, .inl (fun j => nI (ad j)))), (q5, .inl (cI, n, .inl (fun j => nI ((upN rq i w) j)))), (q6, .inl (cI, n, .inl (fun j => nI (su j)))), (q7, .inl (cI, n, .inl (fun j => nI (un j))))] H := hP
  have hD : va_D A [(h, .inr (2, [.ref q1, .ref q2, .ref q3, .ref q4, .ref q5, .ref q6, .ref q7, .int (nI mk), .int (nI sp)])), (q1, .inl (cI, n, .inl (fun j => nI (pa j)))), (q2, .inl (cI, n, .inl (fun j => nI (ch j)))), (q3, .inl (cI, n, .inl (fun j => nI (kd j)))), (q4, .inl (cI, n, .inl (fun j => nI (ad j)))), (q5, .inl (cI, n, .inl (fun j => nI ((upN rq i w) j)))), (q6, .inl (cI, n, .inl (fun j => nI (su j)))), (q7, .inl (cI, n, .inl (fun j => nI (un j))))] := hD
  refine lv_aload_n hx hb dX2_setRequest_7 rfl (lv_at hl 0 rfl) ?_
  refine va_get (D := g) (ci := 2) (v := .ref q6) (C := RX2) (T := TX2) (N := 9) hx hb hts hinX2 hown hK hP 0 rfl rfl 5 (by decide) (hts (.fieldLink RX2 27 "BuddyRoof$Tree" "summary" "[I") (by decide +kernel)) (fun _ h9 => h9) rfl dX2_setRequest_8 ?_
  refine lv_iload_n hx hb dX2_setRequest_11 rfl (lv_at hl 1 rfl) ?_
  refine lv_iload_n hx hb dX2_setRequest_12 rfl (lv_at hl 2 rfl) ?_
  refine n_if_ne (tgt := 27) hx hb dX2_setRequest_13 (by decide) (by first | assumption | omega) (fun c1 => ?_) (fun c1 => ?_)
  · skip
    refine lv_ldc hx hb (v := 33554432) hown (hts (.constant RX2 44 33554432) (by decide +kernel)) dX2_setRequest_27 ?_
    refine n_top _ (nI 33554432) (by decide) ?_
    refine n_ast hx hb hK hP hD hS 6 0 rfl rfl (i := i) (v := 33554432) (by first | assumption | omega) (by first | assumption | omega) dX2_setRequest_29 (fun H locs hP hD hS => ?_)
    have hP : va_P g vwCl [(h, .inr (2, [.ref q1, .ref q2, .ref q3, .ref q4, .ref q5, .ref q6, .ref q7, .int (nI mk), .int (nI sp)])), (q1, .inl (cI, n, .inl (fun j => nI (pa j)))), (q2, .inl (cI, n, .inl (fun j => nI (ch j)))), (q3, .inl (cI, n, .inl (fun j => nI (kd j)))), (q4, .inl (cI, n, .inl (fun j => nI (ad j)))), (q5, .inl (cI, n, .inl (fun j => nI ((upN rq i w) j)))), (q6, .inl (cI, n, .inl (fun j => nI ((upN su i 33554432) j)))), (q7, .inl (cI, n, .inl (fun j => nI (un j))))] H := hP
    have hD : va_D A [(h, .inr (2, [.ref q1, .ref q2, .ref q3, .ref q4, .ref q5, .ref q6, .ref q7, .int (nI mk), .int (nI sp)])), (q1, .inl (cI, n, .inl (fun j => nI (pa j)))), (q2, .inl (cI, n, .inl (fun j => nI (ch j)))), (q3, .inl (cI, n, .inl (fun j => nI (kd j)))), (q4, .inl (cI, n, .inl (fun j => nI (ad j)))), (q5, .inl (cI, n, .inl (fun j => nI ((upN rq i w) j)))), (q6, .inl (cI, n, .inl (fun j => nI ((upN su i 33554432) j)))), (q7, .inl (cI, n, .inl (fun j => nI (un j))))] := hD
    refine W.widen (k := 0) (n := 0) (by first | exact Nat.le_refl _ | omega) (by first | exact Nat.le_refl _ | omega) ?_
    exact k_retV (sz := 0) hx hb hr hlocks hAe hS hP hD () (by rw [if_neg (by omega)]) (trivial) dX2_setRequest_30
  · skip
    refine lv_iconst (v := nI 1) hx hb dX2_setRequest_16 (by decide) ?_
    refine lv_aload_n hx hb dX2_setRequest_17 rfl (lv_at hl 0 rfl) ?_
    refine va_get (D := g) (ci := 2) (v := .ref q3) (C := RX2) (T := TX2) (N := 9) hx hb hts hinX2 hown hK hP 0 rfl rfl 2 (by decide) (hts (.fieldLink RX2 18 "BuddyRoof$Tree" "kind" "[I") (by decide +kernel)) (fun _ h9 => h9) rfl dX2_setRequest_18 ?_
    refine lv_iload_n hx hb dX2_setRequest_21 rfl (lv_at hl 1 rfl) ?_
    refine n_ald (v := nI (kd i)) hx hb hK hP 3 0 rfl rfl (i := i) (by first | assumption | omega) (by first | assumption | omega) rfl dX2_setRequest_22 ?_
    have f2 := hkd i
    refine n_ishl hx hb dX2_setRequest_23 (by exact Nat.lt_of_le_of_lt (Nat.mul_le_mul_left 1 (Nat.pow_le_pow_right (by decide) (hkd _))) (by decide)) (by first | assumption | omega) ?_
    refine lv_goto (tgt := 29) hx hb dX2_setRequest_24 (by decide) ?_
    refine n_ast hx hb hK hP hD hS 6 0 rfl rfl (i := i) (v := (1 * 2 ^ (kd i))) (by first | assumption | omega) (by first | assumption | omega) dX2_setRequest_29 (fun H locs hP hD hS => ?_)
    have hP : va_P g vwCl [(h, .inr (2, [.ref q1, .ref q2, .ref q3, .ref q4, .ref q5, .ref q6, .ref q7, .int (nI mk), .int (nI sp)])), (q1, .inl (cI, n, .inl (fun j => nI (pa j)))), (q2, .inl (cI, n, .inl (fun j => nI (ch j)))), (q3, .inl (cI, n, .inl (fun j => nI (kd j)))), (q4, .inl (cI, n, .inl (fun j => nI (ad j)))), (q5, .inl (cI, n, .inl (fun j => nI ((upN rq i w) j)))), (q6, .inl (cI, n, .inl (fun j => nI ((upN su i (1 * 2 ^ (kd i))) j)))), (q7, .inl (cI, n, .inl (fun j => nI (un j))))] H := hP
    have hD : va_D A [(h, .inr (2, [.ref q1, .ref q2, .ref q3, .ref q4, .ref q5, .ref q6, .ref q7, .int (nI mk), .int (nI sp)])), (q1, .inl (cI, n, .inl (fun j => nI (pa j)))), (q2, .inl (cI, n, .inl (fun j => nI (ch j)))), (q3, .inl (cI, n, .inl (fun j => nI (kd j)))), (q4, .inl (cI, n, .inl (fun j => nI (ad j)))), (q5, .inl (cI, n, .inl (fun j => nI ((upN rq i w) j)))), (q6, .inl (cI, n, .inl (fun j => nI ((upN su i (1 * 2 ^ (kd i))) j)))), (q7, .inl (cI, n, .inl (fun j => nI (un j))))] := hD
    refine W.widen (k := 0) (n := 0) (by first | exact Nat.le_refl _ | omega) (by first | exact Nat.le_refl _ | omega) ?_
    exact k_retV (sz := 0) hx hb hr hlocks hAe hS hP hD () (by rw [if_pos (by omega)]) (trivial) dX2_setRequest_30
set_option maxHeartbeats 4000000 in
set_option maxRecDepth 100000 in
theorem c_X2_put (l : Launch) (g : va_G) (cI cJ cZ : ClassId) (h q1 q2 q3 q4 q5 q6 q7 n : Nat) (pa ch kd ad rq su un : Nat → Nat) (mk sp : Nat) (i ab kk pl : Nat) (hn : n < 2 ^ 31) (hi : i < n) (hkd : ∀ i, kd i ≤ 24) (hkk : kk ≤ 24) : kV l g (kty cI cJ cZ) yX2_put wsX2_put ({ frames := 1, cells := 0, slots := 0, locals := 22 }) [.ref h, .int (nI i), .int (nI ab), .int (nI kk), .int (nI pl)] [(h, .inr (2, [.ref q1, .ref q2, .ref q3, .ref q4, .ref q5, .ref q6, .ref q7, .int (nI mk), .int (nI sp)])), (q1, .inl (cI, n, .inl (fun j => nI (pa j)))), (q2, .inl (cI, n, .inl (fun j => nI (ch j)))), (q3, .inl (cI, n, .inl (fun j => nI (kd j)))), (q4, .inl (cI, n, .inl (fun j => nI (ad j)))), (q5, .inl (cI, n, .inl (fun j => nI (rq j)))), (q6, .inl (cI, n, .inl (fun j => nI (su j)))), (q7, .inl (cI, n, .inl (fun j => nI (un j))))] (S := Unit) (fun _ => True) (fun u => [(h, .inr (2, [.ref q1, .ref q2, .ref q3, .ref q4, .ref q5, .ref q6, .ref q7, .int (nI mk), .int (nI sp)])), (q1, .inl (cI, n, .inl (fun j => nI ((upN pa i ab) j)))), (q2, .inl (cI, n, .inl (fun j => nI ((upN ch i 0) j)))), (q3, .inl (cI, n, .inl (fun j => nI ((upN kd i kk) j)))), (q4, .inl (cI, n, .inl (fun j => nI ((upN ad i pl) j)))), (q5, .inl (cI, n, .inl (fun j => nI ((upN rq i 0) j)))), (q6, .inl (cI, n, .inl (fun j => nI ((upN su i (1 * 2 ^ kk)) j)))), (q7, .inl (cI, n, .inl (fun j => nI ((upN un i 1) j))))]) 0 0 := by
  intro sz
  refine Met.ofW (cc := cX2_put) (maxL := 5) (ret := none) (by decide) rfl ?_
  intro p e s m args below meth c s₁ B hml hv
  obtain ⟨rfl, hsz, hP, hk, hD0⟩ := hv
  subst hsz
  have hx := B.exec
  have hb := B.bytes
  have hr := B.returns
  have hts := atoms_spec (ws := wsX2_put) B.pre
  have hown : s.vm.findClass RX2 = some m.cls := findClass_of_methodNamed B.named
  have hlocks := B.notSynchronized
  have hK := hk.1
  have hinX2 : ∀ w ∈ wsX20, w ∈ wsX2_put := by decide +kernel
  obtain ⟨A, hAe⟩ : ∃ A, va_A [(h, .inr (2, [.ref q1, .ref q2, .ref q3, .ref q4, .ref q5, .ref q6, .ref q7, .int (nI mk), .int (nI sp)])), (q1, .inl (cI, n, .inl (fun j => nI (pa j)))), (q2, .inl (cI, n, .inl (fun j => nI (ch j)))), (q3, .inl (cI, n, .inl (fun j => nI (kd j)))), (q4, .inl (cI, n, .inl (fun j => nI (ad j)))), (q5, .inl (cI, n, .inl (fun j => nI (rq j)))), (q6, .inl (cI, n, .inl (fun j => nI (su j)))), (q7, .inl (cI, n, .inl (fun j => nI (un j))))] s.heap.size = A := ⟨_, rfl⟩
  have hD := hD0.self (sz := s.heap.size)
  rw [hAe] at hD
  have hA : ∀ q : Nat, s.heap.size ≤ q → A q := fun q h => by rw [← hAe]; exact Or.inr h
  have hS : va_S A s.heap s.heap [] := va_S.rf
  have hl := lv_entry ([.ref h, .int (nI i), .int (nI ab), .int (nI kk), .int (nI pl)]) (n := 5) (Nat.le_of_ble_eq_true rfl)
  rw [lg_entry_eq]
  generalize (lg_sl ([.ref h, .int (nI i), .int (nI ab), .int (nI kk), .int (nI pl)]) ++ List.replicate (5 - (lg_sl ([.ref h, .int (nI i), .int (nI ab), .int (nI kk), .int (nI pl)])).length) Slot.unset).toArray = ls at hl ⊢
  have hl : lv_has ls 5 [(0, .ref h), (1, .int (nI i)), (2, .int (nI ab)), (3, .int (nI kk)), (4, .int (nI pl))] := hl
  refine lv_aload_n hx hb dX2_put_0 rfl (lv_at hl 0 rfl) ?_
  refine va_get (D := g) (ci := 2) (v := .ref q1) (C := RX2) (T := TX2) (N := 9) hx hb hts hinX2 hown hK hP 0 rfl rfl 0 (by decide) (hts (.fieldLink RX2 11 "BuddyRoof$Tree" "parent" "[I") (by decide +kernel)) (fun _ h9 => h9) rfl dX2_put_1 ?_
  refine lv_iload_n hx hb dX2_put_4 rfl (lv_at hl 1 rfl) ?_
  refine lv_iload_n hx hb dX2_put_5 rfl (lv_at hl 2 rfl) ?_
  refine n_ast hx hb hK hP hD hS 1 0 rfl rfl (i := i) (v := ab) (by first | assumption | omega) (by first | assumption | omega) dX2_put_6 (fun H locs hP hD hS => ?_)
  have hP : va_P g vwCl [(h, .inr (2, [.ref q1, .ref q2, .ref q3, .ref q4, .ref q5, .ref q6, .ref q7, .int (nI mk), .int (nI sp)])), (q1, .inl (cI, n, .inl (fun j => nI ((upN pa i ab) j)))), (q2, .inl (cI, n, .inl (fun j => nI (ch j)))), (q3, .inl (cI, n, .inl (fun j => nI (kd j)))), (q4, .inl (cI, n, .inl (fun j => nI (ad j)))), (q5, .inl (cI, n, .inl (fun j => nI (rq j)))), (q6, .inl (cI, n, .inl (fun j => nI (su j)))), (q7, .inl (cI, n, .inl (fun j => nI (un j))))] H := hP
  have hD : va_D A [(h, .inr (2, [.ref q1, .ref q2, .ref q3, .ref q4, .ref q5, .ref q6, .ref q7, .int (nI mk), .int (nI sp)])), (q1, .inl (cI, n, .inl (fun j => nI ((upN pa i ab) j)))), (q2, .inl (cI, n, .inl (fun j => nI (ch j)))), (q3, .inl (cI, n, .inl (fun j => nI (kd j)))), (q4, .inl (cI, n, .inl (fun j => nI (ad j)))), (q5, .inl (cI, n, .inl (fun j => nI (rq j)))), (q6, .inl (cI, n, .inl (fun j => nI (su j)))), (q7, .inl (cI, n, .inl (fun j => nI (un j))))] := hD
  refine lv_aload_n hx hb dX2_put_7 rfl (lv_at hl 0 rfl) ?_
  refine va_get (D := g) (ci := 2) (v := .ref q2) (C := RX2) (T := TX2) (N := 9) hx hb hts hinX2 hown hK hP 0 rfl rfl 1 (by decide) (hts (.fieldLink RX2 15 "BuddyRoof$Tree" "child" "[I") (by decide +kernel)) (fun _ h9 => h9) rfl dX2_put_8 ?_
  refine lv_iload_n hx hb dX2_put_11 rfl (lv_at hl 1 rfl) ?_
  refine lv_iconst (v := nI 0) hx hb dX2_put_12 (by decide) ?_
  refine n_ast hx hb hK hP hD hS 2 0 rfl rfl (i := i) (v := 0) (by first | assumption | omega) (by first | assumption | omega) dX2_put_13 (fun H locs hP hD hS => ?_)
  have hP : va_P g vwCl [(h, .inr (2, [.ref q1, .ref q2, .ref q3, .ref q4, .ref q5, .ref q6, .ref q7, .int (nI mk), .int (nI sp)])), (q1, .inl (cI, n, .inl (fun j => nI ((upN pa i ab) j)))), (q2, .inl (cI, n, .inl (fun j => nI ((upN ch i 0) j)))), (q3, .inl (cI, n, .inl (fun j => nI (kd j)))), (q4, .inl (cI, n, .inl (fun j => nI (ad j)))), (q5, .inl (cI, n, .inl (fun j => nI (rq j)))), (q6, .inl (cI, n, .inl (fun j => nI (su j)))), (q7, .inl (cI, n, .inl (fun j => nI (un j))))] H := hP
  have hD : va_D A [(h, .inr (2, [.ref q1, .ref q2, .ref q3, .ref q4, .ref q5, .ref q6, .ref q7, .int (nI mk), .int (nI sp)])), (q1, .inl (cI, n, .inl (fun j => nI ((upN pa i ab) j)))), (q2, .inl (cI, n, .inl (fun j => nI ((upN ch i 0) j)))), (q3, .inl (cI, n, .inl (fun j => nI (kd j)))), (q4, .inl (cI, n, .inl (fun j => nI (ad j)))), (q5, .inl (cI, n, .inl (fun j => nI (rq j)))), (q6, .inl (cI, n, .inl (fun j => nI (su j)))), (q7, .inl (cI, n, .inl (fun j => nI (un j))))] := hD
  refine lv_aload_n hx hb dX2_put_14 rfl (lv_at hl 0 rfl) ?_
  refine va_get (D := g) (ci := 2) (v := .ref q3) (C := RX2) (T := TX2) (N := 9) hx hb hts hinX2 hown hK hP 0 rfl rfl 2 (by decide) (hts (.fieldLink RX2 18 "BuddyRoof$Tree" "kind" "[I") (by decide +kernel)) (fun _ h9 => h9) rfl dX2_put_15 ?_
  refine lv_iload_n hx hb dX2_put_18 rfl (lv_at hl 1 rfl) ?_
  refine lv_iload_n hx hb dX2_put_19 rfl (lv_at hl 3 rfl) ?_
  refine n_ast hx hb hK hP hD hS 3 0 rfl rfl (i := i) (v := kk) (by first | assumption | omega) (by first | assumption | omega) dX2_put_20 (fun H locs hP hD hS => ?_)
  have hP : va_P g vwCl [(h, .inr (2, [.ref q1, .ref q2, .ref q3, .ref q4, .ref q5, .ref q6, .ref q7, .int (nI mk), .int (nI sp)])), (q1, .inl (cI, n, .inl (fun j => nI ((upN pa i ab) j)))), (q2, .inl (cI, n, .inl (fun j => nI ((upN ch i 0) j)))), (q3, .inl (cI, n, .inl (fun j => nI ((upN kd i kk) j)))), (q4, .inl (cI, n, .inl (fun j => nI (ad j)))), (q5, .inl (cI, n, .inl (fun j => nI (rq j)))), (q6, .inl (cI, n, .inl (fun j => nI (su j)))), (q7, .inl (cI, n, .inl (fun j => nI (un j))))] H := hP
  have hD : va_D A [(h, .inr (2, [.ref q1, .ref q2, .ref q3, .ref q4, .ref q5, .ref q6, .ref q7, .int (nI mk), .int (nI sp)])), (q1, .inl (cI, n, .inl (fun j => nI ((upN pa i ab) j)))), (q2, .inl (cI, n, .inl (fun j => nI ((upN ch i 0) j)))), (q3, .inl (cI, n, .inl (fun j => nI ((upN kd i kk) j)))), (q4, .inl (cI, n, .inl (fun j => nI (ad j)))), (q5, .inl (cI, n, .inl (fun j => nI (rq j)))), (q6, .inl (cI, n, .inl (fun j => nI (su j)))), (q7, .inl (cI, n, .inl (fun j => nI (un j))))] := hD
  refine lv_aload_n hx hb dX2_put_21 rfl (lv_at hl 0 rfl) ?_
  refine va_get (D := g) (ci := 2) (v := .ref q4) (C := RX2) (T := TX2) (N := 9) hx hb hts hinX2 hown hK hP 0 rfl rfl 3 (by decide) (hts (.fieldLink RX2 21 "BuddyRoof$Tree" "address" "[I") (by decide +kernel)) (fun _ h9 => h9) rfl dX2_put_22 ?_
  refine lv_iload_n hx hb dX2_put_25 rfl (lv_at hl 1 rfl) ?_
  refine lv_iload hx hb dX2_put_26 (lv_at hl 4 rfl) ?_
  refine n_ast hx hb hK hP hD hS 4 0 rfl rfl (i := i) (v := pl) (by first | assumption | omega) (by first | assumption | omega) dX2_put_28 (fun H locs hP hD hS => ?_)
  have hP : va_P g vwCl [(h, .inr (2, [.ref q1, .ref q2, .ref q3, .ref q4, .ref q5, .ref q6, .ref q7, .int (nI mk), .int (nI sp)])), (q1, .inl (cI, n, .inl (fun j => nI ((upN pa i ab) j)))), (q2, .inl (cI, n, .inl (fun j => nI ((upN ch i 0) j)))), (q3, .inl (cI, n, .inl (fun j => nI ((upN kd i kk) j)))), (q4, .inl (cI, n, .inl (fun j => nI ((upN ad i pl) j)))), (q5, .inl (cI, n, .inl (fun j => nI (rq j)))), (q6, .inl (cI, n, .inl (fun j => nI (su j)))), (q7, .inl (cI, n, .inl (fun j => nI (un j))))] H := hP
  have hD : va_D A [(h, .inr (2, [.ref q1, .ref q2, .ref q3, .ref q4, .ref q5, .ref q6, .ref q7, .int (nI mk), .int (nI sp)])), (q1, .inl (cI, n, .inl (fun j => nI ((upN pa i ab) j)))), (q2, .inl (cI, n, .inl (fun j => nI ((upN ch i 0) j)))), (q3, .inl (cI, n, .inl (fun j => nI ((upN kd i kk) j)))), (q4, .inl (cI, n, .inl (fun j => nI ((upN ad i pl) j)))), (q5, .inl (cI, n, .inl (fun j => nI (rq j)))), (q6, .inl (cI, n, .inl (fun j => nI (su j)))), (q7, .inl (cI, n, .inl (fun j => nI (un j))))] := hD
  refine lv_aload_n hx hb dX2_put_29 rfl (lv_at hl 0 rfl) ?_
  refine va_get (D := g) (ci := 2) (v := .ref q7) (C := RX2) (T := TX2) (N := 9) hx hb hts hinX2 hown hK hP 0 rfl rfl 6 (by decide) (hts (.fieldLink RX2 30 "BuddyRoof$Tree" "unsplit" "[I") (by decide +kernel)) (fun _ h9 => h9) rfl dX2_put_30 ?_
  refine lv_iload_n hx hb dX2_put_33 rfl (lv_at hl 1 rfl) ?_
  refine lv_iconst (v := nI 1) hx hb dX2_put_34 (by decide) ?_
  refine n_ast hx hb hK hP hD hS 7 0 rfl rfl (i := i) (v := 1) (by first | assumption | omega) (by first | assumption | omega) dX2_put_35 (fun H locs hP hD hS => ?_)
  have hP : va_P g vwCl [(h, .inr (2, [.ref q1, .ref q2, .ref q3, .ref q4, .ref q5, .ref q6, .ref q7, .int (nI mk), .int (nI sp)])), (q1, .inl (cI, n, .inl (fun j => nI ((upN pa i ab) j)))), (q2, .inl (cI, n, .inl (fun j => nI ((upN ch i 0) j)))), (q3, .inl (cI, n, .inl (fun j => nI ((upN kd i kk) j)))), (q4, .inl (cI, n, .inl (fun j => nI ((upN ad i pl) j)))), (q5, .inl (cI, n, .inl (fun j => nI (rq j)))), (q6, .inl (cI, n, .inl (fun j => nI (su j)))), (q7, .inl (cI, n, .inl (fun j => nI ((upN un i 1) j))))] H := hP
  have hD : va_D A [(h, .inr (2, [.ref q1, .ref q2, .ref q3, .ref q4, .ref q5, .ref q6, .ref q7, .int (nI mk), .int (nI sp)])), (q1, .inl (cI, n, .inl (fun j => nI ((upN pa i ab) j)))), (q2, .inl (cI, n, .inl (fun j => nI ((upN ch i 0) j)))), (q3, .inl (cI, n, .inl (fun j => nI ((upN kd i kk) j)))), (q4, .inl (cI, n, .inl (fun j => nI ((upN ad i pl) j)))), (q5, .inl (cI, n, .inl (fun j => nI (rq j)))), (q6, .inl (cI, n, .inl (fun j => nI (su j)))), (q7, .inl (cI, n, .inl (fun j => nI ((upN un i 1) j))))] := hD
  refine lv_aload_n hx hb dX2_put_36 rfl (lv_at hl 0 rfl) ?_
  refine lv_iload_n hx hb dX2_put_37 rfl (lv_at hl 1 rfl) ?_
  refine lv_iconst (v := nI 0) hx hb dX2_put_38 (by decide) ?_
  refine k_goV (wr := []) (va_runV (As := [.int (nI i), .int (nI 0)]) (rest := []) ⟨hx, hb, hml, hown, hts⟩ (c_X2_setRequest l g cI cJ cZ h q1 q2 q3 q4 q5 q6 q7 n (upN pa i ab) (upN ch i 0) (upN kd i kk) (upN ad i pl) rq su (upN un i 1) mk sp i 0 hn hi (upN_le hkd hkk) (by decide) _) (cwV 2 hts gX2_put_X2_setRequest rfl rfl rfl (by decide +kernel) ⟨Nat.le_of_ble_eq_true rfl, Nat.le_of_ble_eq_true rfl⟩) (k_preV hk hP hD [0, 1, 2, 3, 4, 5, 6, 7] rfl rfl (ci := 2) (q0 := 0) rfl rfl) rfl rfl hl.1 rfl (lv_room (Nat.le_of_ble_eq_true rfl)) dX2_put_39 ⟨by first | exact Nat.zero_le _ | omega, by first | exact Nat.zero_le _ | omega⟩) hP hD hS hA [0, 1, 2, 3, 4, 5, 6, 7] [] rfl rfl rfl (by decide) (fun _ H locs hu hP hD hS => ?_)
  have hP : va_P g vwCl [(h, .inr (2, [.ref q1, .ref q2, .ref q3, .ref q4, .ref q5, .ref q6, .ref q7, .int (nI mk), .int (nI sp)])), (q1, .inl (cI, n, .inl (fun j => nI ((upN pa i ab) j)))), (q2, .inl (cI, n, .inl (fun j => nI ((upN ch i 0) j)))), (q3, .inl (cI, n, .inl (fun j => nI ((upN kd i kk) j)))), (q4, .inl (cI, n, .inl (fun j => nI ((upN ad i pl) j)))), (q5, .inl (cI, n, .inl (fun j => nI ((upN rq i 0) j)))), (q6, .inl (cI, n, .inl (fun j => nI ((upN su i (if 0 = 0 then 1 * 2 ^ (upN kd i kk) i else 33554432)) j)))), (q7, .inl (cI, n, .inl (fun j => nI ((upN un i 1) j))))] H := hP
  have hD : va_D A [(h, .inr (2, [.ref q1, .ref q2, .ref q3, .ref q4, .ref q5, .ref q6, .ref q7, .int (nI mk), .int (nI sp)])), (q1, .inl (cI, n, .inl (fun j => nI ((upN pa i ab) j)))), (q2, .inl (cI, n, .inl (fun j => nI ((upN ch i 0) j)))), (q3, .inl (cI, n, .inl (fun j => nI ((upN kd i kk) j)))), (q4, .inl (cI, n, .inl (fun j => nI ((upN ad i pl) j)))), (q5, .inl (cI, n, .inl (fun j => nI ((upN rq i 0) j)))), (q6, .inl (cI, n, .inl (fun j => nI ((upN su i (if 0 = 0 then 1 * 2 ^ (upN kd i kk) i else 33554432)) j)))), (q7, .inl (cI, n, .inl (fun j => nI ((upN un i 1) j))))] := hD
  refine W.widen (k := 0) (n := 0) (by first | exact Nat.le_refl _ | omega) (by first | exact Nat.le_refl _ | omega) ?_
  exact k_retV (sz := 0) hx hb hr hlocks hAe hS hP hD () (by rw [if_pos rfl, upN_s]) (trivial) dX2_put_42
set_option maxHeartbeats 4000000 in
set_option maxRecDepth 100000 in
theorem c_X2_unite (l : Launch) (g : va_G) (cI cJ cZ : ClassId) (h q1 q2 q3 q4 q5 q6 q7 n : Nat) (pa ch kd ad rq su un : Nat → Nat) (mk sp : Nat) (i : Nat) (hn : n < 2 ^ 31) (hi : i < n) (hkd : ∀ i, kd i ≤ 24) (hch : ∀ i, ch i + 1 < n) : kV l g (kty cI cJ cZ) yX2_unite wsX2_unite ({ frames := 0, cells := 0, slots := 0, locals := 0 }) [.ref h, .int (nI i)] [(h, .inr (2, [.ref q1, .ref q2, .ref q3, .ref q4, .ref q5, .ref q6, .ref q7, .int (nI mk), .int (nI sp)])), (q1, .inl (cI, n, .inl (fun j => nI (pa j)))), (q2, .inl (cI, n, .inl (fun j => nI (ch j)))), (q3, .inl (cI, n, .inl (fun j => nI (kd j)))), (q4, .inl (cI, n, .inl (fun j => nI (ad j)))), (q5, .inl (cI, n, .inl (fun j => nI (rq j)))), (q6, .inl (cI, n, .inl (fun j => nI (su j)))), (q7, .inl (cI, n, .inl (fun j => nI (un j))))] (S := Unit) (fun _ => True) (fun u => [(h, .inr (2, [.ref q1, .ref q2, .ref q3, .ref q4, .ref q5, .ref q6, .ref q7, .int (nI mk), .int (nI (ch i))])), (q1, .inl (cI, n, .inl (fun j => nI ((upN pa (ch i) sp) j)))), (q2, .inl (cI, n, .inl (fun j => nI ((upN ch i 0) j)))), (q3, .inl (cI, n, .inl (fun j => nI (kd j)))), (q4, .inl (cI, n, .inl (fun j => nI (ad j)))), (q5, .inl (cI, n, .inl (fun j => nI (rq j)))), (q6, .inl (cI, n, .inl (fun j => nI ((upN su i (1 * 2 ^ kd i)) j)))), (q7, .inl (cI, n, .inl (fun j => nI ((upN un i 1) j))))]) 0 0 := by
  intro sz
  refine Met.ofW (cc := cX2_unite) (maxL := 3) (ret := none) (by decide) rfl ?_
  intro p e s m args below meth c s₁ B hml hv
  obtain ⟨rfl, hsz, hP, hk, hD0⟩ := hv
  subst hsz
  have hx := B.exec
  have hb := B.bytes
  have hr := B.returns
  have hts := atoms_spec (ws := wsX2_unite) B.pre
  have hown : s.vm.findClass RX2 = some m.cls := findClass_of_methodNamed B.named
  have hlocks := B.notSynchronized
  have hK := hk.1
  have hinX2 : ∀ w ∈ wsX20, w ∈ wsX2_unite := by decide +kernel
  obtain ⟨A, hAe⟩ : ∃ A, va_A [(h, .inr (2, [.ref q1, .ref q2, .ref q3, .ref q4, .ref q5, .ref q6, .ref q7, .int (nI mk), .int (nI sp)])), (q1, .inl (cI, n, .inl (fun j => nI (pa j)))), (q2, .inl (cI, n, .inl (fun j => nI (ch j)))), (q3, .inl (cI, n, .inl (fun j => nI (kd j)))), (q4, .inl (cI, n, .inl (fun j => nI (ad j)))), (q5, .inl (cI, n, .inl (fun j => nI (rq j)))), (q6, .inl (cI, n, .inl (fun j => nI (su j)))), (q7, .inl (cI, n, .inl (fun j => nI (un j))))] s.heap.size = A := ⟨_, rfl⟩
  have hD := hD0.self (sz := s.heap.size)
  rw [hAe] at hD
  have hA : ∀ q : Nat, s.heap.size ≤ q → A q := fun q h => by rw [← hAe]; exact Or.inr h
  have hS : va_S A s.heap s.heap [] := va_S.rf
  have hl := lv_entry ([.ref h, .int (nI i)]) (n := 3) (Nat.le_of_ble_eq_true rfl)
  rw [lg_entry_eq]
  generalize (lg_sl ([.ref h, .int (nI i)]) ++ List.replicate (3 - (lg_sl ([.ref h, .int (nI i)])).length) Slot.unset).toArray = ls at hl ⊢
  have hl : lv_has ls 3 [(0, .ref h), (1, .int (nI i))] := hl
  refine lv_aload_n hx hb dX2_unite_0 rfl (lv_at hl 0 rfl) ?_
  refine va_get (D := g) (ci := 2) (v := .ref q2) (C := RX2) (T := TX2) (N := 9) hx hb hts hinX2 hown hK hP 0 rfl rfl 1 (by decide) (hts (.fieldLink RX2 15 "BuddyRoof$Tree" "child" "[I") (by decide +kernel)) (fun _ h9 => h9) rfl dX2_unite_1 ?_
  refine lv_iload_n hx hb dX2_unite_4 rfl (lv_at hl 1 rfl) ?_
  refine n_ald (v := nI (ch i)) hx hb hK hP 2 0 rfl rfl (i := i) (by first | assumption | omega) (by first | assumption | omega) rfl dX2_unite_5 ?_
  have f1 := hch i
  refine lv_istore_n (lv' := [(2, .int (nI (ch i))), (0, .ref h), (1, .int (nI i))]) hx hb dX2_unite_6 rfl hl (by decide) rfl (fun ls hl => ?_)
  refine lv_aload_n hx hb dX2_unite_7 rfl (lv_at hl 1 rfl) ?_
  refine va_get (D := g) (ci := 2) (v := .ref q1) (C := RX2) (T := TX2) (N := 9) hx hb hts hinX2 hown hK hP 0 rfl rfl 0 (by decide) (hts (.fieldLink RX2 11 "BuddyRoof$Tree" "parent" "[I") (by decide +kernel)) (fun _ h9 => h9) rfl dX2_unite_8 ?_
  refine lv_iload_n hx hb dX2_unite_11 rfl (lv_at hl 0 rfl) ?_
  refine lv_aload_n hx hb dX2_unite_12 rfl (lv_at hl 1 rfl) ?_
  refine va_get (D := g) (ci := 2) (v := .int (nI sp)) (C := RX2) (T := TX2) (N := 9) hx hb hts hinX2 hown hK hP 0 rfl rfl 8 (by decide) (hts (.fieldLink RX2 37 "BuddyRoof$Tree" "spare" "I") (by decide +kernel)) (fun _ h9 => h9) rfl dX2_unite_13 ?_
  refine n_ast hx hb hK hP hD hS 1 0 rfl rfl (i := (ch i)) (v := sp) (by first | assumption | omega) (by first | assumption | omega) dX2_unite_16 (fun H locs hP hD hS => ?_)
  have hP : va_P g vwCl [(h, .inr (2, [.ref q1, .ref q2, .ref q3, .ref q4, .ref q5, .ref q6, .ref q7, .int (nI mk), .int (nI sp)])), (q1, .inl (cI, n, .inl (fun j => nI ((upN pa (ch i) sp) j)))), (q2, .inl (cI, n, .inl (fun j => nI (ch j)))), (q3, .inl (cI, n, .inl (fun j => nI (kd j)))), (q4, .inl (cI, n, .inl (fun j => nI (ad j)))), (q5, .inl (cI, n, .inl (fun j => nI (rq j)))), (q6, .inl (cI, n, .inl (fun j => nI (su j)))), (q7, .inl (cI, n, .inl (fun j => nI (un j))))] H := hP
  have hD : va_D A [(h, .inr (2, [.ref q1, .ref q2, .ref q3, .ref q4, .ref q5, .ref q6, .ref q7, .int (nI mk), .int (nI sp)])), (q1, .inl (cI, n, .inl (fun j => nI ((upN pa (ch i) sp) j)))), (q2, .inl (cI, n, .inl (fun j => nI (ch j)))), (q3, .inl (cI, n, .inl (fun j => nI (kd j)))), (q4, .inl (cI, n, .inl (fun j => nI (ad j)))), (q5, .inl (cI, n, .inl (fun j => nI (rq j)))), (q6, .inl (cI, n, .inl (fun j => nI (su j)))), (q7, .inl (cI, n, .inl (fun j => nI (un j))))] := hD
  refine lv_aload_n hx hb dX2_unite_17 rfl (lv_at hl 1 rfl) ?_
  refine lv_iload_n hx hb dX2_unite_18 rfl (lv_at hl 0 rfl) ?_
  refine va_put (D := g) (ci := 2) (v := .int (nI (ch i))) (ty := .int) (C := RX2) (T := TX2) (N := 9) hx hb hts hinX2 tyX2 tyX2_ok nmX2 hown hK hP hD hS 0 rfl rfl 8 (by decide) (hts (.fieldLink RX2 37 "BuddyRoof$Tree" "spare" "I") (by decide +kernel)) (fun _ h9 => h9) rfl (by decide +kernel) rfl rfl (Nat.le_of_ble_eq_true rfl) dX2_unite_19 (fun H locs hP hD hS => ?_)
  have hP : va_P g vwCl [(h, .inr (2, [.ref q1, .ref q2, .ref q3, .ref q4, .ref q5, .ref q6, .ref q7, .int (nI mk), .int (nI (ch i))])), (q1, .inl (cI, n, .inl (fun j => nI ((upN pa (ch i) sp) j)))), (q2, .inl (cI, n, .inl (fun j => nI (ch j)))), (q3, .inl (cI, n, .inl (fun j => nI (kd j)))), (q4, .inl (cI, n, .inl (fun j => nI (ad j)))), (q5, .inl (cI, n, .inl (fun j => nI (rq j)))), (q6, .inl (cI, n, .inl (fun j => nI (su j)))), (q7, .inl (cI, n, .inl (fun j => nI (un j))))] H := hP
  have hD : va_D A [(h, .inr (2, [.ref q1, .ref q2, .ref q3, .ref q4, .ref q5, .ref q6, .ref q7, .int (nI mk), .int (nI (ch i))])), (q1, .inl (cI, n, .inl (fun j => nI ((upN pa (ch i) sp) j)))), (q2, .inl (cI, n, .inl (fun j => nI (ch j)))), (q3, .inl (cI, n, .inl (fun j => nI (kd j)))), (q4, .inl (cI, n, .inl (fun j => nI (ad j)))), (q5, .inl (cI, n, .inl (fun j => nI (rq j)))), (q6, .inl (cI, n, .inl (fun j => nI (su j)))), (q7, .inl (cI, n, .inl (fun j => nI (un j))))] := hD
  refine lv_aload_n hx hb dX2_unite_22 rfl (lv_at hl 1 rfl) ?_
  refine va_get (D := g) (ci := 2) (v := .ref q2) (C := RX2) (T := TX2) (N := 9) hx hb hts hinX2 hown hK hP 0 rfl rfl 1 (by decide) (hts (.fieldLink RX2 15 "BuddyRoof$Tree" "child" "[I") (by decide +kernel)) (fun _ h9 => h9) rfl dX2_unite_23 ?_
  refine lv_iload_n hx hb dX2_unite_26 rfl (lv_at hl 2 rfl) ?_
  refine lv_iconst (v := nI 0) hx hb dX2_unite_27 (by decide) ?_
  refine n_ast hx hb hK hP hD hS 2 0 rfl rfl (i := i) (v := 0) (by first | assumption | omega) (by first | assumption | omega) dX2_unite_28 (fun H locs hP hD hS => ?_)
  have hP : va_P g vwCl [(h, .inr (2, [.ref q1, .ref q2, .ref q3, .ref q4, .ref q5, .ref q6, .ref q7, .int (nI mk), .int (nI (ch i))])), (q1, .inl (cI, n, .inl (fun j => nI ((upN pa (ch i) sp) j)))), (q2, .inl (cI, n, .inl (fun j => nI ((upN ch i 0) j)))), (q3, .inl (cI, n, .inl (fun j => nI (kd j)))), (q4, .inl (cI, n, .inl (fun j => nI (ad j)))), (q5, .inl (cI, n, .inl (fun j => nI (rq j)))), (q6, .inl (cI, n, .inl (fun j => nI (su j)))), (q7, .inl (cI, n, .inl (fun j => nI (un j))))] H := hP
  have hD : va_D A [(h, .inr (2, [.ref q1, .ref q2, .ref q3, .ref q4, .ref q5, .ref q6, .ref q7, .int (nI mk), .int (nI (ch i))])), (q1, .inl (cI, n, .inl (fun j => nI ((upN pa (ch i) sp) j)))), (q2, .inl (cI, n, .inl (fun j => nI ((upN ch i 0) j)))), (q3, .inl (cI, n, .inl (fun j => nI (kd j)))), (q4, .inl (cI, n, .inl (fun j => nI (ad j)))), (q5, .inl (cI, n, .inl (fun j => nI (rq j)))), (q6, .inl (cI, n, .inl (fun j => nI (su j)))), (q7, .inl (cI, n, .inl (fun j => nI (un j))))] := hD
  refine lv_aload_n hx hb dX2_unite_29 rfl (lv_at hl 1 rfl) ?_
  refine va_get (D := g) (ci := 2) (v := .ref q7) (C := RX2) (T := TX2) (N := 9) hx hb hts hinX2 hown hK hP 0 rfl rfl 6 (by decide) (hts (.fieldLink RX2 30 "BuddyRoof$Tree" "unsplit" "[I") (by decide +kernel)) (fun _ h9 => h9) rfl dX2_unite_30 ?_
  refine lv_iload_n hx hb dX2_unite_33 rfl (lv_at hl 2 rfl) ?_
  refine lv_iconst (v := nI 1) hx hb dX2_unite_34 (by decide) ?_
  refine n_ast hx hb hK hP hD hS 7 0 rfl rfl (i := i) (v := 1) (by first | assumption | omega) (by first | assumption | omega) dX2_unite_35 (fun H locs hP hD hS => ?_)
  have hP : va_P g vwCl [(h, .inr (2, [.ref q1, .ref q2, .ref q3, .ref q4, .ref q5, .ref q6, .ref q7, .int (nI mk), .int (nI (ch i))])), (q1, .inl (cI, n, .inl (fun j => nI ((upN pa (ch i) sp) j)))), (q2, .inl (cI, n, .inl (fun j => nI ((upN ch i 0) j)))), (q3, .inl (cI, n, .inl (fun j => nI (kd j)))), (q4, .inl (cI, n, .inl (fun j => nI (ad j)))), (q5, .inl (cI, n, .inl (fun j => nI (rq j)))), (q6, .inl (cI, n, .inl (fun j => nI (su j)))), (q7, .inl (cI, n, .inl (fun j => nI ((upN un i 1) j))))] H := hP
  have hD : va_D A [(h, .inr (2, [.ref q1, .ref q2, .ref q3, .ref q4, .ref q5, .ref q6, .ref q7, .int (nI mk), .int (nI (ch i))])), (q1, .inl (cI, n, .inl (fun j => nI ((upN pa (ch i) sp) j)))), (q2, .inl (cI, n, .inl (fun j => nI ((upN ch i 0) j)))), (q3, .inl (cI, n, .inl (fun j => nI (kd j)))), (q4, .inl (cI, n, .inl (fun j => nI (ad j)))), (q5, .inl (cI, n, .inl (fun j => nI (rq j)))), (q6, .inl (cI, n, .inl (fun j => nI (su j)))), (q7, .inl (cI, n, .inl (fun j => nI ((upN un i 1) j))))] := hD
  refine lv_aload_n hx hb dX2_unite_36 rfl (lv_at hl 1 rfl) ?_
  refine va_get (D := g) (ci := 2) (v := .ref q6) (C := RX2) (T := TX2) (N := 9) hx hb hts hinX2 hown hK hP 0 rfl rfl 5 (by decide) (hts (.fieldLink RX2 27 "BuddyRoof$Tree" "summary" "[I") (by decide +kernel)) (fun _ h9 => h9) rfl dX2_unite_37 ?_
  refine lv_iload_n hx hb dX2_unite_40 rfl (lv_at hl 2 rfl) ?_
  refine lv_iconst (v := nI 1) hx hb dX2_unite_41 (by decide) ?_
  refine lv_aload_n hx hb dX2_unite_42 rfl (lv_at hl 1 rfl) ?_
  refine va_get (D := g) (ci := 2) (v := .ref q3) (C := RX2) (T := TX2) (N := 9) hx hb hts hinX2 hown hK hP 0 rfl rfl 2 (by decide) (hts (.fieldLink RX2 18 "BuddyRoof$Tree" "kind" "[I") (by decide +kernel)) (fun _ h9 => h9) rfl dX2_unite_43 ?_
  refine lv_iload_n hx hb dX2_unite_46 rfl (lv_at hl 2 rfl) ?_
  refine n_ald (v := nI (kd i)) hx hb hK hP 3 0 rfl rfl (i := i) (by first | assumption | omega) (by first | assumption | omega) rfl dX2_unite_47 ?_
  have f2 := hkd i
  refine n_ishl hx hb dX2_unite_48 (by exact Nat.lt_of_le_of_lt (Nat.mul_le_mul_left 1 (Nat.pow_le_pow_right (by decide) (hkd _))) (by decide)) (by first | assumption | omega) ?_
  refine n_ast hx hb hK hP hD hS 6 0 rfl rfl (i := i) (v := (1 * 2 ^ (kd i))) (by first | assumption | omega) (by first | assumption | omega) dX2_unite_49 (fun H locs hP hD hS => ?_)
  have hP : va_P g vwCl [(h, .inr (2, [.ref q1, .ref q2, .ref q3, .ref q4, .ref q5, .ref q6, .ref q7, .int (nI mk), .int (nI (ch i))])), (q1, .inl (cI, n, .inl (fun j => nI ((upN pa (ch i) sp) j)))), (q2, .inl (cI, n, .inl (fun j => nI ((upN ch i 0) j)))), (q3, .inl (cI, n, .inl (fun j => nI (kd j)))), (q4, .inl (cI, n, .inl (fun j => nI (ad j)))), (q5, .inl (cI, n, .inl (fun j => nI (rq j)))), (q6, .inl (cI, n, .inl (fun j => nI ((upN su i (1 * 2 ^ (kd i))) j)))), (q7, .inl (cI, n, .inl (fun j => nI ((upN un i 1) j))))] H := hP
  have hD : va_D A [(h, .inr (2, [.ref q1, .ref q2, .ref q3, .ref q4, .ref q5, .ref q6, .ref q7, .int (nI mk), .int (nI (ch i))])), (q1, .inl (cI, n, .inl (fun j => nI ((upN pa (ch i) sp) j)))), (q2, .inl (cI, n, .inl (fun j => nI ((upN ch i 0) j)))), (q3, .inl (cI, n, .inl (fun j => nI (kd j)))), (q4, .inl (cI, n, .inl (fun j => nI (ad j)))), (q5, .inl (cI, n, .inl (fun j => nI (rq j)))), (q6, .inl (cI, n, .inl (fun j => nI ((upN su i (1 * 2 ^ (kd i))) j)))), (q7, .inl (cI, n, .inl (fun j => nI ((upN un i 1) j))))] := hD
  refine W.widen (k := 0) (n := 0) (by first | exact Nat.le_refl _ | omega) (by first | exact Nat.le_refl _ | omega) ?_
  exact k_retV (sz := 0) hx hb hr hlocks hAe hS hP hD () (rfl) (trivial) dX2_unite_50
/-- refreshAbove's loop: the node, the summaries, the numbers of nodes that aren't split -/
def fRef (pa ch rq : Nat → Nat) : Nat → Nat × (Nat → Nat) × (Nat → Nat) → Nat × (Nat → Nat) × (Nat → Nat) := mDes (fun z => decide (z.1 = 0)) (fun z => (pa z.1, upN z.2.1 z.1 (if isFP ch rq z.1 then (z.2.1 (ch z.1) ||| z.2.1 (ch z.1 + 1)) ||| 1 else z.2.1 (ch z.1) ||| z.2.1 (ch z.1 + 1)), upN z.2.2 z.1 (z.2.2 (ch z.1) + z.2.2 (ch z.1 + 1))))
set_option maxHeartbeats 4000000 in
set_option maxRecDepth 100000 in
theorem lp_X2_refreshAbove_9 {p : Program} {e : Env} {s : State} {m : MethodId} {args : Array Value} {below : List Frame} {meth : Method} {c : Code} {Q : State → Prop} (l : Launch) (g : va_G) (cI cJ cZ : ClassId) (h q1 q2 q3 q4 q5 q6 q7 n : Nat) (pa ch kd ad rq su un : Nat → Nat) (mk sp : Nat) (i : Nat) (hn : n < 2 ^ 31) (hi : i < n) (hpa : ∀ i, pa i < n) (hch : ∀ i, ch i + 1 < n) (hrq : ∀ i, rq i < 2 ^ 31) (rr : Nat × (Nat → Nat) × (Nat → Nat)) (C0 : cM p s m args meth c cX2_refreshAbove 6 none wsX2_refreshAbove RX2) (hk : kK g (kty cI cJ cZ) s) {A : Nat → Prop} {H0 : Heap} (hA : ∀ q : Nat, H0.size ≤ q → A q) (kk0 : ∀ (x : Nat) (sv uv : Nat → Nat), ((x, sv, uv) = rr) → ∀ (H : Heap) (locs : List Loc), va_P g vwCl [(h, .inr (2, [.ref q1, .ref q2, .ref q3, .ref q4, .ref q5, .ref q6, .ref q7, .int (nI mk), .int (nI sp)])), (q1, .inl (cI, n, .inl (fun j => nI (pa j)))), (q2, .inl (cI, n, .inl (fun j => nI (ch j)))), (q3, .inl (cI, n, .inl (fun j => nI (kd j)))), (q4, .inl (cI, n, .inl (fun j => nI (ad j)))), (q5, .inl (cI, n, .inl (fun j => nI (rq j)))), (q6, .inl (cI, n, .inl (fun j => nI (sv j)))), (q7, .inl (cI, n, .inl (fun j => nI (uv j))))] H → va_D A [(h, .inr (2, [.ref q1, .ref q2, .ref q3, .ref q4, .ref q5, .ref q6, .ref q7, .int (nI mk), .int (nI sp)])), (q1, .inl (cI, n, .inl (fun j => nI (pa j)))), (q2, .inl (cI, n, .inl (fun j => nI (ch j)))), (q3, .inl (cI, n, .inl (fun j => nI (kd j)))), (q4, .inl (cI, n, .inl (fun j => nI (ad j)))), (q5, .inl (cI, n, .inl (fun j => nI (rq j)))), (q6, .inl (cI, n, .inl (fun j => nI (sv j)))), (q7, .inl (cI, n, .inl (fun j => nI (uv j))))] → va_S A H0 H locs → ∀ (ls : Array Slot), lv_has ls 6 [(0, .ref h)] → W p l e (headSpec wsX2_refreshAbove ({ frames := 2, cells := 0, slots := 0, locals := 42 })).room s m args below meth c H locs 0 0 Q (F0 m 105 ls [])) :
    ∀ (K : Nat) (k x d : Nat) (sv uv : Nat → Nat), k < K → (d + k = 24) → (x < n) → (fRef pa ch rq k (x, sv, uv) = rr) → ∀ (H : Heap) (locs : List Loc), va_P g vwCl [(h, .inr (2, [.ref q1, .ref q2, .ref q3, .ref q4, .ref q5, .ref q6, .ref q7, .int (nI mk), .int (nI sp)])), (q1, .inl (cI, n, .inl (fun j => nI (pa j)))), (q2, .inl (cI, n, .inl (fun j => nI (ch j)))), (q3, .inl (cI, n, .inl (fun j => nI (kd j)))), (q4, .inl (cI, n, .inl (fun j => nI (ad j)))), (q5, .inl (cI, n, .inl (fun j => nI (rq j)))), (q6, .inl (cI, n, .inl (fun j => nI (sv j)))), (q7, .inl (cI, n, .inl (fun j => nI (uv j))))] H → va_D A [(h, .inr (2, [.ref q1, .ref q2, .ref q3, .ref q4, .ref q5, .ref q6, .ref q7, .int (nI mk), .int (nI sp)])), (q1, .inl (cI, n, .inl (fun j => nI (pa j)))), (q2, .inl (cI, n, .inl (fun j => nI (ch j)))), (q3, .inl (cI, n, .inl (fun j => nI (kd j)))), (q4, .inl (cI, n, .inl (fun j => nI (ad j)))), (q5, .inl (cI, n, .inl (fun j => nI (rq j)))), (q6, .inl (cI, n, .inl (fun j => nI (sv j)))), (q7, .inl (cI, n, .inl (fun j => nI (uv j))))] → va_S A H0 H locs →∀ (ls : Array Slot), lv_has ls 6 [(0, .ref h), (2, .int (nI x)), (3, .int (nI d))] → W p l e (headSpec wsX2_refreshAbove ({ frames := 2, cells := 0, slots := 0, locals := 42 })).room s m args below meth c H locs 0 0 Q (F0 m 9 ls []) := by
  obtain ⟨hx, hb, hr, hml, hown, hts, hlocks⟩ := C0
  have hK := hk.1
  have hinX2 : ∀ w ∈ wsX20, w ∈ wsX2_refreshAbove := by decide +kernel
  intro K
  induction K with
  | zero =>
    intro k x d sv uv h0
    exact absurd h0 (Nat.not_lt_zero _)
  | succ K ih =>
    intro k x d sv uv hmu hf hx1 hR H locs hP hD hS ls hl
    refine lv_iload_n hx hb dX2_refreshAbove_9 rfl (lv_at hl 2 rfl) ?_
    refine lv_bipush (v := nI 24) hx hb dX2_refreshAbove_10 (by decide) ?_
    refine n_icmp_ge (tgt := 105) hx hb dX2_refreshAbove_12 (by decide) (by first | assumption | omega) (by first | assumption | omega) (fun c8 => ?_) (fun c8 => ?_)
    · skip
      exact kk0 x sv uv (mDes_x hR (Or.inr (by omega))) _ _ hP hD hS ls (lv_sub hl [0] rfl)
    · skip
      refine lv_iload_n hx hb dX2_refreshAbove_15 rfl (lv_at hl 1 rfl) ?_
      refine n_if_eq (tgt := 105) hx hb dX2_refreshAbove_16 (by decide) (by first | assumption | omega) (fun c9 => ?_) (fun c9 => ?_)
      · skip
        exact kk0 x sv uv (mDes_x hR (Or.inl (dt c9))) _ _ hP hD hS ls (lv_sub hl [0] rfl)
      · skip
        refine lv_aload_n hx hb dX2_refreshAbove_19 rfl (lv_at hl 0 rfl) ?_
        refine va_get (D := g) (ci := 2) (v := .ref q2) (C := RX2) (T := TX2) (N := 9) hx hb hts hinX2 hown hK hP 0 rfl rfl 1 (by decide) (hts (.fieldLink RX2 15 "BuddyRoof$Tree" "child" "[I") (by decide +kernel)) (fun _ h9 => h9) rfl dX2_refreshAbove_20 ?_
        refine lv_iload_n hx hb dX2_refreshAbove_23 rfl (lv_at hl 1 rfl) ?_
        refine n_ald (v := nI (ch x)) hx hb hK hP 2 0 rfl rfl (i := x) (by first | assumption | omega) (by first | assumption | omega) rfl dX2_refreshAbove_24 ?_
        have f10 := hch x
        refine lv_istore (lv' := [(4, .int (nI (ch x))), (0, .ref h), (2, .int (nI x)), (3, .int (nI d))]) hx hb dX2_refreshAbove_25 hl (by decide) rfl (fun ls hl => ?_)
        refine lv_aload_n hx hb dX2_refreshAbove_27 rfl (lv_at hl 1 rfl) ?_
        refine va_get (D := g) (ci := 2) (v := .ref q6) (C := RX2) (T := TX2) (N := 9) hx hb hts hinX2 hown hK hP 0 rfl rfl 5 (by decide) (hts (.fieldLink RX2 27 "BuddyRoof$Tree" "summary" "[I") (by decide +kernel)) (fun _ h9 => h9) rfl dX2_refreshAbove_28 ?_
        refine lv_iload hx hb dX2_refreshAbove_31 (lv_at hl 0 rfl) ?_
        refine n_ald (v := nI (sv (ch x))) hx hb hK hP 6 0 rfl rfl (i := (ch x)) (by first | assumption | omega) (by first | assumption | omega) rfl dX2_refreshAbove_33 ?_
        refine lv_aload_n hx hb dX2_refreshAbove_34 rfl (lv_at hl 1 rfl) ?_
        refine va_get (D := g) (ci := 2) (v := .ref q6) (C := RX2) (T := TX2) (N := 9) hx hb hts hinX2 hown hK hP 0 rfl rfl 5 (by decide) (hts (.fieldLink RX2 27 "BuddyRoof$Tree" "summary" "[I") (by decide +kernel)) (fun _ h9 => h9) rfl dX2_refreshAbove_35 ?_
        refine lv_iload hx hb dX2_refreshAbove_38 (lv_at hl 0 rfl) ?_
        refine lv_iconst (v := nI 1) hx hb dX2_refreshAbove_40 (by decide) ?_
        refine n_iadd hx hb dX2_refreshAbove_41 ?_
        refine n_ald (v := nI (sv ((ch x) + 1))) hx hb hK hP 6 0 rfl rfl (i := ((ch x) + 1)) (by first | assumption | omega) (by first | assumption | omega) rfl dX2_refreshAbove_42 ?_
        refine n_ior hx hb dX2_refreshAbove_43 ?_
        refine lv_istore (lv' := [(5, .int (nI ((sv (ch x)) ||| (sv ((ch x) + 1))))), (4, .int (nI (ch x))), (0, .ref h), (2, .int (nI x)), (3, .int (nI d))]) hx hb dX2_refreshAbove_44 hl (by decide) rfl (fun ls hl => ?_)
        refine lv_aload_n hx hb dX2_refreshAbove_46 rfl (lv_at hl 2 rfl) ?_
        refine va_get (D := g) (ci := 2) (v := .ref q6) (C := RX2) (T := TX2) (N := 9) hx hb hts hinX2 hown hK hP 0 rfl rfl 5 (by decide) (hts (.fieldLink RX2 27 "BuddyRoof$Tree" "summary" "[I") (by decide +kernel)) (fun _ h9 => h9) rfl dX2_refreshAbove_47 ?_
        refine lv_iload_n hx hb dX2_refreshAbove_50 rfl (lv_at hl 3 rfl) ?_
        refine lv_aload_n hx hb dX2_refreshAbove_51 rfl (lv_at hl 2 rfl) ?_
        refine lv_iload_n hx hb dX2_refreshAbove_52 rfl (lv_at hl 3 rfl) ?_
        refine k_goR (W.runV (As := [.int (nI x)]) (rest := [.int (nI x), .ref q6]) ⟨hx, hb, hml, hown, hts⟩ (c_X2_hasFreePair l g cI cJ cZ h q1 q2 q3 q4 q5 q6 q7 n pa ch kd ad rq sv uv mk sp x hn hx1 hch hrq) (cwV 1 hts gX2_refreshAbove_X2_hasFreePair rfl rfl rfl (by decide +kernel) ⟨Nat.le_of_ble_eq_true rfl, Nat.le_of_ble_eq_true rfl⟩) (k_preRV hk hP [0, 1, 2, 3, 4, 5, 6, 7] rfl (ci := 2) (q0 := 0) rfl rfl) rfl rfl hl.1 rfl (lv_room (Nat.le_of_ble_eq_true rfl)) dX2_refreshAbove_53 ⟨by first | exact Nat.zero_le _ | omega, by first | exact Nat.zero_le _ | omega⟩) ?_
        refine k_ifeq (tgt := 66) hx hb dX2_refreshAbove_56 (by decide) (fun c11 => ?_) (fun c11 => ?_)
        · skip
          refine lv_iload hx hb dX2_refreshAbove_66 (lv_at hl 0 rfl) ?_
          refine n_ast hx hb hK hP hD hS 6 0 rfl rfl (i := x) (v := ((sv (ch x)) ||| (sv ((ch x) + 1)))) (by first | assumption | omega) (by first | assumption | omega) dX2_refreshAbove_68 (fun H locs hP hD hS => ?_)
          have hP : va_P g vwCl [(h, .inr (2, [.ref q1, .ref q2, .ref q3, .ref q4, .ref q5, .ref q6, .ref q7, .int (nI mk), .int (nI sp)])), (q1, .inl (cI, n, .inl (fun j => nI (pa j)))), (q2, .inl (cI, n, .inl (fun j => nI (ch j)))), (q3, .inl (cI, n, .inl (fun j => nI (kd j)))), (q4, .inl (cI, n, .inl (fun j => nI (ad j)))), (q5, .inl (cI, n, .inl (fun j => nI (rq j)))), (q6, .inl (cI, n, .inl (fun j => nI ((upN sv x ((sv (ch x)) ||| (sv ((ch x) + 1)))) j)))), (q7, .inl (cI, n, .inl (fun j => nI (uv j))))] H := hP
          have hD : va_D A [(h, .inr (2, [.ref q1, .ref q2, .ref q3, .ref q4, .ref q5, .ref q6, .ref q7, .int (nI mk), .int (nI sp)])), (q1, .inl (cI, n, .inl (fun j => nI (pa j)))), (q2, .inl (cI, n, .inl (fun j => nI (ch j)))), (q3, .inl (cI, n, .inl (fun j => nI (kd j)))), (q4, .inl (cI, n, .inl (fun j => nI (ad j)))), (q5, .inl (cI, n, .inl (fun j => nI (rq j)))), (q6, .inl (cI, n, .inl (fun j => nI ((upN sv x ((sv (ch x)) ||| (sv ((ch x) + 1)))) j)))), (q7, .inl (cI, n, .inl (fun j => nI (uv j))))] := hD
          refine lv_aload_n hx hb dX2_refreshAbove_69 rfl (lv_at hl 2 rfl) ?_
          refine va_get (D := g) (ci := 2) (v := .ref q7) (C := RX2) (T := TX2) (N := 9) hx hb hts hinX2 hown hK hP 0 rfl rfl 6 (by decide) (hts (.fieldLink RX2 30 "BuddyRoof$Tree" "unsplit" "[I") (by decide +kernel)) (fun _ h9 => h9) rfl dX2_refreshAbove_70 ?_
          refine lv_iload_n hx hb dX2_refreshAbove_73 rfl (lv_at hl 3 rfl) ?_
          refine lv_aload_n hx hb dX2_refreshAbove_74 rfl (lv_at hl 2 rfl) ?_
          refine va_get (D := g) (ci := 2) (v := .ref q7) (C := RX2) (T := TX2) (N := 9) hx hb hts hinX2 hown hK hP 0 rfl rfl 6 (by decide) (hts (.fieldLink RX2 30 "BuddyRoof$Tree" "unsplit" "[I") (by decide +kernel)) (fun _ h9 => h9) rfl dX2_refreshAbove_75 ?_
          refine lv_iload hx hb dX2_refreshAbove_78 (lv_at hl 1 rfl) ?_
          refine n_ald (v := nI (uv (ch x))) hx hb hK hP 7 0 rfl rfl (i := (ch x)) (by first | assumption | omega) (by first | assumption | omega) rfl dX2_refreshAbove_80 ?_
          refine lv_aload_n hx hb dX2_refreshAbove_81 rfl (lv_at hl 2 rfl) ?_
          refine va_get (D := g) (ci := 2) (v := .ref q7) (C := RX2) (T := TX2) (N := 9) hx hb hts hinX2 hown hK hP 0 rfl rfl 6 (by decide) (hts (.fieldLink RX2 30 "BuddyRoof$Tree" "unsplit" "[I") (by decide +kernel)) (fun _ h9 => h9) rfl dX2_refreshAbove_82 ?_
          refine lv_iload hx hb dX2_refreshAbove_85 (lv_at hl 1 rfl) ?_
          refine lv_iconst (v := nI 1) hx hb dX2_refreshAbove_87 (by decide) ?_
          refine n_iadd hx hb dX2_refreshAbove_88 ?_
          refine n_ald (v := nI (uv ((ch x) + 1))) hx hb hK hP 7 0 rfl rfl (i := ((ch x) + 1)) (by first | assumption | omega) (by first | assumption | omega) rfl dX2_refreshAbove_89 ?_
          refine n_iadd hx hb dX2_refreshAbove_90 ?_
          refine n_ast hx hb hK hP hD hS 7 0 rfl rfl (i := x) (v := ((uv (ch x)) + (uv ((ch x) + 1)))) (by first | assumption | omega) (by first | assumption | omega) dX2_refreshAbove_91 (fun H locs hP hD hS => ?_)
          have hP : va_P g vwCl [(h, .inr (2, [.ref q1, .ref q2, .ref q3, .ref q4, .ref q5, .ref q6, .ref q7, .int (nI mk), .int (nI sp)])), (q1, .inl (cI, n, .inl (fun j => nI (pa j)))), (q2, .inl (cI, n, .inl (fun j => nI (ch j)))), (q3, .inl (cI, n, .inl (fun j => nI (kd j)))), (q4, .inl (cI, n, .inl (fun j => nI (ad j)))), (q5, .inl (cI, n, .inl (fun j => nI (rq j)))), (q6, .inl (cI, n, .inl (fun j => nI ((upN sv x ((sv (ch x)) ||| (sv ((ch x) + 1)))) j)))), (q7, .inl (cI, n, .inl (fun j => nI ((upN uv x ((uv (ch x)) + (uv ((ch x) + 1)))) j))))] H := hP
          have hD : va_D A [(h, .inr (2, [.ref q1, .ref q2, .ref q3, .ref q4, .ref q5, .ref q6, .ref q7, .int (nI mk), .int (nI sp)])), (q1, .inl (cI, n, .inl (fun j => nI (pa j)))), (q2, .inl (cI, n, .inl (fun j => nI (ch j)))), (q3, .inl (cI, n, .inl (fun j => nI (kd j)))), (q4, .inl (cI, n, .inl (fun j => nI (ad j)))), (q5, .inl (cI, n, .inl (fun j => nI (rq j)))), (q6, .inl (cI, n, .inl (fun j => nI ((upN sv x ((sv (ch x)) ||| (sv ((ch x) + 1)))) j)))), (q7, .inl (cI, n, .inl (fun j => nI ((upN uv x ((uv (ch x)) + (uv ((ch x) + 1)))) j))))] := hD
          refine lv_aload_n hx hb dX2_refreshAbove_92 rfl (lv_at hl 2 rfl) ?_
          refine va_get (D := g) (ci := 2) (v := .ref q1) (C := RX2) (T := TX2) (N := 9) hx hb hts hinX2 hown hK hP 0 rfl rfl 0 (by decide) (hts (.fieldLink RX2 11 "BuddyRoof$Tree" "parent" "[I") (by decide +kernel)) (fun _ h9 => h9) rfl dX2_refreshAbove_93 ?_
          refine lv_iload_n hx hb dX2_refreshAbove_96 rfl (lv_at hl 3 rfl) ?_
          refine n_ald (v := nI (pa x)) hx hb hK hP 1 0 rfl rfl (i := x) (by first | assumption | omega) (by first | assumption | omega) rfl dX2_refreshAbove_97 ?_
          have f12 := hpa x
          refine lv_istore_n (lv' := [(2, .int (nI (pa x))), (5, .int (nI ((sv (ch x)) ||| (sv ((ch x) + 1))))), (4, .int (nI (ch x))), (0, .ref h), (3, .int (nI d))]) hx hb dX2_refreshAbove_98 rfl hl (by decide) rfl (fun ls hl => ?_)
          refine lv_iinc (v := nI (d + 1)) (lv' := [(3, .int (nI (d + 1))), (2, .int (nI (pa x))), (5, .int (nI ((sv (ch x)) ||| (sv ((ch x) + 1))))), (4, .int (nI (ch x))), (0, .ref h)]) hx hb dX2_refreshAbove_99 hl (k := 4) rfl (n_inc _ 1) (by decide) rfl (fun ls hl => ?_)
          refine lv_goto (tgt := 9) hx hb dX2_refreshAbove_102 (by decide) ?_
          exact ih (k - 1) (pa x) (d + 1) (upN sv x ((sv (ch x)) ||| (sv ((ch x) + 1)))) (upN uv x ((uv (ch x)) + (uv ((ch x) + 1)))) (by omega) (by omega) (hpa x) (mDes_b hR (df (show ¬ x = 0 by omega)) (by omega) (by show (_, _, _) = _; rw [if_neg c11])) _ _ hP hD hS ls (lv_sub hl [4, 1, 0] rfl)
        · skip
          refine lv_iload hx hb dX2_refreshAbove_59 (lv_at hl 0 rfl) ?_
          refine lv_iconst (v := nI 1) hx hb dX2_refreshAbove_61 (by decide) ?_
          refine n_ior hx hb dX2_refreshAbove_62 ?_
          refine lv_goto (tgt := 68) hx hb dX2_refreshAbove_63 (by decide) ?_
          refine n_ast hx hb hK hP hD hS 6 0 rfl rfl (i := x) (v := (((sv (ch x)) ||| (sv ((ch x) + 1))) ||| 1)) (by first | assumption | omega) (by first | assumption | omega) dX2_refreshAbove_68 (fun H locs hP hD hS => ?_)
          have hP : va_P g vwCl [(h, .inr (2, [.ref q1, .ref q2, .ref q3, .ref q4, .ref q5, .ref q6, .ref q7, .int (nI mk), .int (nI sp)])), (q1, .inl (cI, n, .inl (fun j => nI (pa j)))), (q2, .inl (cI, n, .inl (fun j => nI (ch j)))), (q3, .inl (cI, n, .inl (fun j => nI (kd j)))), (q4, .inl (cI, n, .inl (fun j => nI (ad j)))), (q5, .inl (cI, n, .inl (fun j => nI (rq j)))), (q6, .inl (cI, n, .inl (fun j => nI ((upN sv x (((sv (ch x)) ||| (sv ((ch x) + 1))) ||| 1)) j)))), (q7, .inl (cI, n, .inl (fun j => nI (uv j))))] H := hP
          have hD : va_D A [(h, .inr (2, [.ref q1, .ref q2, .ref q3, .ref q4, .ref q5, .ref q6, .ref q7, .int (nI mk), .int (nI sp)])), (q1, .inl (cI, n, .inl (fun j => nI (pa j)))), (q2, .inl (cI, n, .inl (fun j => nI (ch j)))), (q3, .inl (cI, n, .inl (fun j => nI (kd j)))), (q4, .inl (cI, n, .inl (fun j => nI (ad j)))), (q5, .inl (cI, n, .inl (fun j => nI (rq j)))), (q6, .inl (cI, n, .inl (fun j => nI ((upN sv x (((sv (ch x)) ||| (sv ((ch x) + 1))) ||| 1)) j)))), (q7, .inl (cI, n, .inl (fun j => nI (uv j))))] := hD
          refine lv_aload_n hx hb dX2_refreshAbove_69 rfl (lv_at hl 2 rfl) ?_
          refine va_get (D := g) (ci := 2) (v := .ref q7) (C := RX2) (T := TX2) (N := 9) hx hb hts hinX2 hown hK hP 0 rfl rfl 6 (by decide) (hts (.fieldLink RX2 30 "BuddyRoof$Tree" "unsplit" "[I") (by decide +kernel)) (fun _ h9 => h9) rfl dX2_refreshAbove_70 ?_
          refine lv_iload_n hx hb dX2_refreshAbove_73 rfl (lv_at hl 3 rfl) ?_
          refine lv_aload_n hx hb dX2_refreshAbove_74 rfl (lv_at hl 2 rfl) ?_
          refine va_get (D := g) (ci := 2) (v := .ref q7) (C := RX2) (T := TX2) (N := 9) hx hb hts hinX2 hown hK hP 0 rfl rfl 6 (by decide) (hts (.fieldLink RX2 30 "BuddyRoof$Tree" "unsplit" "[I") (by decide +kernel)) (fun _ h9 => h9) rfl dX2_refreshAbove_75 ?_
          refine lv_iload hx hb dX2_refreshAbove_78 (lv_at hl 1 rfl) ?_
          refine n_ald (v := nI (uv (ch x))) hx hb hK hP 7 0 rfl rfl (i := (ch x)) (by first | assumption | omega) (by first | assumption | omega) rfl dX2_refreshAbove_80 ?_
          refine lv_aload_n hx hb dX2_refreshAbove_81 rfl (lv_at hl 2 rfl) ?_
          refine va_get (D := g) (ci := 2) (v := .ref q7) (C := RX2) (T := TX2) (N := 9) hx hb hts hinX2 hown hK hP 0 rfl rfl 6 (by decide) (hts (.fieldLink RX2 30 "BuddyRoof$Tree" "unsplit" "[I") (by decide +kernel)) (fun _ h9 => h9) rfl dX2_refreshAbove_82 ?_
          refine lv_iload hx hb dX2_refreshAbove_85 (lv_at hl 1 rfl) ?_
          refine lv_iconst (v := nI 1) hx hb dX2_refreshAbove_87 (by decide) ?_
          refine n_iadd hx hb dX2_refreshAbove_88 ?_
          refine n_ald (v := nI (uv ((ch x) + 1))) hx hb hK hP 7 0 rfl rfl (i := ((ch x) + 1)) (by first | assumption | omega) (by first | assumption | omega) rfl dX2_refreshAbove_89 ?_
          refine n_iadd hx hb dX2_refreshAbove_90 ?_
          refine n_ast hx hb hK hP hD hS 7 0 rfl rfl (i := x) (v := ((uv (ch x)) + (uv ((ch x) + 1)))) (by first | assumption | omega) (by first | assumption | omega) dX2_refreshAbove_91 (fun H locs hP hD hS => ?_)
          have hP : va_P g vwCl [(h, .inr (2, [.ref q1, .ref q2, .ref q3, .ref q4, .ref q5, .ref q6, .ref q7, .int (nI mk), .int (nI sp)])), (q1, .inl (cI, n, .inl (fun j => nI (pa j)))), (q2, .inl (cI, n, .inl (fun j => nI (ch j)))), (q3, .inl (cI, n, .inl (fun j => nI (kd j)))), (q4, .inl (cI, n, .inl (fun j => nI (ad j)))), (q5, .inl (cI, n, .inl (fun j => nI (rq j)))), (q6, .inl (cI, n, .inl (fun j => nI ((upN sv x (((sv (ch x)) ||| (sv ((ch x) + 1))) ||| 1)) j)))), (q7, .inl (cI, n, .inl (fun j => nI ((upN uv x ((uv (ch x)) + (uv ((ch x) + 1)))) j))))] H := hP
          have hD : va_D A [(h, .inr (2, [.ref q1, .ref q2, .ref q3, .ref q4, .ref q5, .ref q6, .ref q7, .int (nI mk), .int (nI sp)])), (q1, .inl (cI, n, .inl (fun j => nI (pa j)))), (q2, .inl (cI, n, .inl (fun j => nI (ch j)))), (q3, .inl (cI, n, .inl (fun j => nI (kd j)))), (q4, .inl (cI, n, .inl (fun j => nI (ad j)))), (q5, .inl (cI, n, .inl (fun j => nI (rq j)))), (q6, .inl (cI, n, .inl (fun j => nI ((upN sv x (((sv (ch x)) ||| (sv ((ch x) + 1))) ||| 1)) j)))), (q7, .inl (cI, n, .inl (fun j => nI ((upN uv x ((uv (ch x)) + (uv ((ch x) + 1)))) j))))] := hD
          refine lv_aload_n hx hb dX2_refreshAbove_92 rfl (lv_at hl 2 rfl) ?_
          refine va_get (D := g) (ci := 2) (v := .ref q1) (C := RX2) (T := TX2) (N := 9) hx hb hts hinX2 hown hK hP 0 rfl rfl 0 (by decide) (hts (.fieldLink RX2 11 "BuddyRoof$Tree" "parent" "[I") (by decide +kernel)) (fun _ h9 => h9) rfl dX2_refreshAbove_93 ?_
          refine lv_iload_n hx hb dX2_refreshAbove_96 rfl (lv_at hl 3 rfl) ?_
          refine n_ald (v := nI (pa x)) hx hb hK hP 1 0 rfl rfl (i := x) (by first | assumption | omega) (by first | assumption | omega) rfl dX2_refreshAbove_97 ?_
          have f13 := hpa x
          refine lv_istore_n (lv' := [(2, .int (nI (pa x))), (5, .int (nI ((sv (ch x)) ||| (sv ((ch x) + 1))))), (4, .int (nI (ch x))), (0, .ref h), (3, .int (nI d))]) hx hb dX2_refreshAbove_98 rfl hl (by decide) rfl (fun ls hl => ?_)
          refine lv_iinc (v := nI (d + 1)) (lv' := [(3, .int (nI (d + 1))), (2, .int (nI (pa x))), (5, .int (nI ((sv (ch x)) ||| (sv ((ch x) + 1))))), (4, .int (nI (ch x))), (0, .ref h)]) hx hb dX2_refreshAbove_99 hl (k := 4) rfl (n_inc _ 1) (by decide) rfl (fun ls hl => ?_)
          refine lv_goto (tgt := 9) hx hb dX2_refreshAbove_102 (by decide) ?_
          exact ih (k - 1) (pa x) (d + 1) (upN sv x (((sv (ch x)) ||| (sv ((ch x) + 1))) ||| 1)) (upN uv x ((uv (ch x)) + (uv ((ch x) + 1)))) (by omega) (by omega) (hpa x) (mDes_b hR (df (show ¬ x = 0 by omega)) (by omega) (by show (_, _, _) = _; rw [if_pos c11])) _ _ hP hD hS ls (lv_sub hl [4, 1, 0] rfl)

set_option maxHeartbeats 4000000 in
set_option maxRecDepth 100000 in
theorem c_X2_refreshAbove (l : Launch) (g : va_G) (cI cJ cZ : ClassId) (h q1 q2 q3 q4 q5 q6 q7 n : Nat) (pa ch kd ad rq su un : Nat → Nat) (mk sp : Nat) (i : Nat) (hn : n < 2 ^ 31) (hi : i < n) (hpa : ∀ i, pa i < n) (hch : ∀ i, ch i + 1 < n) (hrq : ∀ i, rq i < 2 ^ 31) : kV l g (kty cI cJ cZ) yX2_refreshAbove wsX2_refreshAbove ({ frames := 2, cells := 0, slots := 0, locals := 42 }) [.ref h, .int (nI i)] [(h, .inr (2, [.ref q1, .ref q2, .ref q3, .ref q4, .ref q5, .ref q6, .ref q7, .int (nI mk), .int (nI sp)])), (q1, .inl (cI, n, .inl (fun j => nI (pa j)))), (q2, .inl (cI, n, .inl (fun j => nI (ch j)))), (q3, .inl (cI, n, .inl (fun j => nI (kd j)))), (q4, .inl (cI, n, .inl (fun j => nI (ad j)))), (q5, .inl (cI, n, .inl (fun j => nI (rq j)))), (q6, .inl (cI, n, .inl (fun j => nI (su j)))), (q7, .inl (cI, n, .inl (fun j => nI (un j))))] (S := Unit) (fun _ => True) (fun u => [(h, .inr (2, [.ref q1, .ref q2, .ref q3, .ref q4, .ref q5, .ref q6, .ref q7, .int (nI mk), .int (nI sp)])), (q1, .inl (cI, n, .inl (fun j => nI (pa j)))), (q2, .inl (cI, n, .inl (fun j => nI (ch j)))), (q3, .inl (cI, n, .inl (fun j => nI (kd j)))), (q4, .inl (cI, n, .inl (fun j => nI (ad j)))), (q5, .inl (cI, n, .inl (fun j => nI (rq j)))), (q6, .inl (cI, n, .inl (fun j => nI ((fRef pa ch rq 24 (pa i, su, un)).2.1 j)))), (q7, .inl (cI, n, .inl (fun j => nI ((fRef pa ch rq 24 (pa i, su, un)).2.2 j))))]) 0 0 := by
  intro sz
  refine Met.ofW (cc := cX2_refreshAbove) (maxL := 6) (ret := none) (by decide) rfl ?_
  intro p e s m args below meth c s₁ B hml hv
  obtain ⟨rfl, hsz, hP, hk, hD0⟩ := hv
  subst hsz
  have hx := B.exec
  have hb := B.bytes
  have hr := B.returns
  have hts := atoms_spec (ws := wsX2_refreshAbove) B.pre
  have hown : s.vm.findClass RX2 = some m.cls := findClass_of_methodNamed B.named
  have hlocks := B.notSynchronized
  have hK := hk.1
  have hinX2 : ∀ w ∈ wsX20, w ∈ wsX2_refreshAbove := by decide +kernel
  obtain ⟨A, hAe⟩ : ∃ A, va_A [(h, .inr (2, [.ref q1, .ref q2, .ref q3, .ref q4, .ref q5, .ref q6, .ref q7, .int (nI mk), .int (nI sp)])), (q1, .inl (cI, n, .inl (fun j => nI (pa j)))), (q2, .inl (cI, n, .inl (fun j => nI (ch j)))), (q3, .inl (cI, n, .inl (fun j => nI (kd j)))), (q4, .inl (cI, n, .inl (fun j => nI (ad j)))), (q5, .inl (cI, n, .inl (fun j => nI (rq j)))), (q6, .inl (cI, n, .inl (fun j => nI (su j)))), (q7, .inl (cI, n, .inl (fun j => nI (un j))))] s.heap.size = A := ⟨_, rfl⟩
  have hD := hD0.self (sz := s.heap.size)
  rw [hAe] at hD
  have hA : ∀ q : Nat, s.heap.size ≤ q → A q := fun q h => by rw [← hAe]; exact Or.inr h
  have hS : va_S A s.heap s.heap [] := va_S.rf
  have hl := lv_entry ([.ref h, .int (nI i)]) (n := 6) (Nat.le_of_ble_eq_true rfl)
  rw [lg_entry_eq]
  generalize (lg_sl ([.ref h, .int (nI i)]) ++ List.replicate (6 - (lg_sl ([.ref h, .int (nI i)])).length) Slot.unset).toArray = ls at hl ⊢
  have hl : lv_has ls 6 [(0, .ref h), (1, .int (nI i))] := hl
  refine lv_aload_n hx hb dX2_refreshAbove_0 rfl (lv_at hl 0 rfl) ?_
  refine va_get (D := g) (ci := 2) (v := .ref q1) (C := RX2) (T := TX2) (N := 9) hx hb hts hinX2 hown hK hP 0 rfl rfl 0 (by decide) (hts (.fieldLink RX2 11 "BuddyRoof$Tree" "parent" "[I") (by decide +kernel)) (fun _ h9 => h9) rfl dX2_refreshAbove_1 ?_
  refine lv_iload_n hx hb dX2_refreshAbove_4 rfl (lv_at hl 1 rfl) ?_
  refine n_ald (v := nI (pa i)) hx hb hK hP 1 0 rfl rfl (i := i) (by first | assumption | omega) (by first | assumption | omega) rfl dX2_refreshAbove_5 ?_
  have f1 := hpa i
  refine lv_istore_n (lv' := [(2, .int (nI (pa i))), (0, .ref h), (1, .int (nI i))]) hx hb dX2_refreshAbove_6 rfl hl (by decide) rfl (fun ls hl => ?_)
  refine lv_iconst (v := nI 0) hx hb dX2_refreshAbove_7 (by decide) ?_
  refine lv_istore_n (lv' := [(3, .int (nI 0)), (2, .int (nI (pa i))), (0, .ref h), (1, .int (nI i))]) hx hb dX2_refreshAbove_8 rfl hl (by decide) rfl (fun ls hl => ?_)
  refine lp_X2_refreshAbove_9 l g cI cJ cZ h q1 q2 q3 q4 q5 q6 q7 n pa ch kd ad rq su un mk sp i hn hi hpa hch hrq (fRef pa ch rq 24 (pa i, su, un)) ⟨hx, hb, hr, hml, hown, hts, hlocks⟩ hk hA (fun x sv uv hd H locs hP hD hS ls hl => ?_) _ 24 (pa i) 0 su un (Nat.lt_succ_self _) rfl (hpa i) rfl _ _ hP hD hS ls (lv_sub hl [2, 1, 0] rfl)
  · skip
    refine W.widen (k := 0) (n := 0) (by first | exact Nat.le_refl _ | omega) (by first | exact Nat.le_refl _ | omega) ?_
    exact k_retV (sz := 0) hx hb hr hlocks hAe hS hP hD () (by rw [← hd]) (trivial) dX2_refreshAbove_105
