set_option maxHeartbeats 4000000 in
set_option maxRecDepth 100000 in
theorem c_X4_isThere (l : Launch) (g : va_G) (cI cJ cZ : ClassId) (rm a1 a2 a3 a4 a5 a6 a7 a8 a9 b1 b2 b3 b4 b5 b6 b7 b8 b9 : Nat) (cd tp mn bl jn sn wt wm wg wo wd : Nat) (htp : 0 < tp ∧ tp < 2 ^ 31) : kI l g (kty cI cJ cZ) yX4_isThere wsX4_isThere ({ frames := 0, cells := 0, slots := 0, locals := 0 }) [.ref rm] [(rm, .inr (4, [.int (nI cd), .ref a1, .ref a2, .ref a3, .ref a4, .ref a5, .ref a6, .ref a7, .ref a8, .ref a9, .int (nI tp), .int (nI mn), .ref b1, .int (nI bl), .ref b2, .ref b3, .int (nI jn), .int (nI sn), .ref b4, .ref b5, .ref b6, .ref b7, .ref b8, .int (nI wt), .int (nI wm), .int (nI wg), .long (lN wo), .int (nI wd), .ref b9]))] (S := Unit) (fun r _ => r = nI 1) (fun u => [(rm, .inr (4, [.int (nI 0), .ref a1, .ref a2, .ref a3, .ref a4, .ref a5, .ref a6, .ref a7, .ref a8, .ref a9, .int (nI tp), .int (nI mn), .ref b1, .int (nI bl), .ref b2, .ref b3, .int (nI jn), .int (nI sn), .ref b4, .ref b5, .ref b6, .ref b7, .ref b8, .int (nI wt), .int (nI wm), .int (nI wg), .long (lN wo), .int (nI wd), .ref b9]))]) 0 0 := by
  intro sz
  refine Met.ofW (cc := cX4_isThere) (maxL := 1) (ret := (some .boolean)) (by decide) rfl ?_
  intro p e s m args below meth c s₁ B hml hv
  obtain ⟨rfl, hsz, hP, hk, hD0⟩ := hv
  subst hsz
  have hx := B.exec
  have hb := B.bytes
  have hr := B.returns
  have hts := atoms_spec (ws := wsX4_isThere) B.pre
  have hown : s.vm.findClass RX4 = some m.cls := findClass_of_methodNamed B.named
  have hlocks := B.notSynchronized
  have hK := hk.1
  have hinX4 : ∀ w ∈ wsX40, w ∈ wsX4_isThere := by decide +kernel
  obtain ⟨A, hAe⟩ : ∃ A, va_A [(rm, .inr (4, [.int (nI cd), .ref a1, .ref a2, .ref a3, .ref a4, .ref a5, .ref a6, .ref a7, .ref a8, .ref a9, .int (nI tp), .int (nI mn), .ref b1, .int (nI bl), .ref b2, .ref b3, .int (nI jn), .int (nI sn), .ref b4, .ref b5, .ref b6, .ref b7, .ref b8, .int (nI wt), .int (nI wm), .int (nI wg), .long (lN wo), .int (nI wd), .ref b9]))] s.heap.size = A := ⟨_, rfl⟩
  have hD := hD0.self (sz := s.heap.size)
  rw [hAe] at hD
  have hA : ∀ q : Nat, s.heap.size ≤ q → A q := fun q h => by rw [← hAe]; exact Or.inr h
  have hS : va_S A s.heap s.heap [] := va_S.rf
  have hl := lv_entry ([.ref rm]) (n := 1) (Nat.le_of_ble_eq_true rfl)
  rw [lg_entry_eq]
  generalize (lg_sl ([.ref rm]) ++ List.replicate (1 - (lg_sl ([.ref rm])).length) Slot.unset).toArray = ls at hl ⊢
  have hl : lv_has ls 1 [(0, .ref rm)] := hl
  refine lv_aload_n hx hb dX4_isThere_0 rfl (lv_at hl 0 rfl) ?_
  refine lv_aload_n hx hb dX4_isThere_1 rfl (lv_at hl 0 rfl) ?_
  refine va_get (D := g) (ci := 4) (v := .int (nI tp)) (C := RX4) (T := TX4) (N := 29) hx hb hts hinX4 hown hK hP 0 rfl rfl 10 (by decide) (hts (.fieldLink RX4 93 "BuddyRoofModel" "top" "I") (by decide +kernel)) (fun _ h9 => h9) rfl dX4_isThere_2 ?_
  refine n_if_le (tgt := 12) hx hb dX4_isThere_5 (by decide) (by first | assumption | omega) (fun c1 => ?_) (fun c1 => ?_)
  · exact (by exfalso; omega)
  · skip
    refine lv_iconst (v := nI 0) hx hb dX4_isThere_8 (by decide) ?_
    refine lv_goto (tgt := 13) hx hb dX4_isThere_9 (by decide) ?_
    refine va_put (D := g) (ci := 4) (v := .int (nI 0)) (ty := .int) (C := RX4) (T := TX4) (N := 29) hx hb hts hinX4 tyX4 tyX4_ok nmX4 hown hK hP hD hS 0 rfl rfl 0 (by decide) (hts (.fieldLink RX4 66 "BuddyRoofModel" "code" "I") (by decide +kernel)) (fun _ h9 => h9) rfl (by decide +kernel) rfl rfl (Nat.le_of_ble_eq_true rfl) dX4_isThere_13 (fun H locs hP hD hS => ?_)
    have hP : va_P g vwCl [(rm, .inr (4, [.int (nI 0), .ref a1, .ref a2, .ref a3, .ref a4, .ref a5, .ref a6, .ref a7, .ref a8, .ref a9, .int (nI tp), .int (nI mn), .ref b1, .int (nI bl), .ref b2, .ref b3, .int (nI jn), .int (nI sn), .ref b4, .ref b5, .ref b6, .ref b7, .ref b8, .int (nI wt), .int (nI wm), .int (nI wg), .long (lN wo), .int (nI wd), .ref b9]))] H := hP
    have hD : va_D A [(rm, .inr (4, [.int (nI 0), .ref a1, .ref a2, .ref a3, .ref a4, .ref a5, .ref a6, .ref a7, .ref a8, .ref a9, .int (nI tp), .int (nI mn), .ref b1, .int (nI bl), .ref b2, .ref b3, .int (nI jn), .int (nI sn), .ref b4, .ref b5, .ref b6, .ref b7, .ref b8, .int (nI wt), .int (nI wm), .int (nI wg), .long (lN wo), .int (nI wd), .ref b9]))] := hD
    refine lv_aload_n hx hb dX4_isThere_16 rfl (lv_at hl 0 rfl) ?_
    refine va_get (D := g) (ci := 4) (v := .int (nI 0)) (C := RX4) (T := TX4) (N := 29) hx hb hts hinX4 hown hK hP 0 rfl rfl 0 (by decide) (hts (.fieldLink RX4 66 "BuddyRoofModel" "code" "I") (by decide +kernel)) (fun _ h9 => h9) rfl dX4_isThere_17 ?_
    refine n_if_ne (tgt := 27) hx hb dX4_isThere_20 (by decide) (by first | assumption | omega) (fun c2 => ?_) (fun c2 => ?_)
    · exact (by exact absurd c2 (by decide))
    · skip
      refine lv_iconst (v := nI 1) hx hb dX4_isThere_23 (by decide) ?_
      refine lv_goto (tgt := 28) hx hb dX4_isThere_24 (by decide) ?_
      refine W.widen (k := 0) (n := 0) (by first | exact Nat.le_refl _ | omega) (by first | exact Nat.le_refl _ | omega) ?_
      exact k_retZ (sz := 0) (v := nI 1) hx hb hr hlocks hAe hS hP hD () (rfl) (by decide) (rfl) dX4_isThere_28
set_option maxHeartbeats 4000000 in
set_option maxRecDepth 100000 in
theorem c_X4_isThere_n (l : Launch) (g : va_G) (cI cJ cZ : ClassId) (rm a1 a2 a3 a4 a5 a6 a7 a8 a9 b1 b2 b3 b4 b5 b6 b7 b8 b9 : Nat) (cd mn bl jn sn wt wm wg wo wd : Nat)  : kI l g (kty cI cJ cZ) yX4_isThere wsX4_isThere ({ frames := 0, cells := 0, slots := 0, locals := 0 }) [.ref rm] [(rm, .inr (4, [.int (nI cd), .ref a1, .ref a2, .ref a3, .ref a4, .ref a5, .ref a6, .ref a7, .ref a8, .ref a9, .int (nI 0), .int (nI mn), .ref b1, .int (nI bl), .ref b2, .ref b3, .int (nI jn), .int (nI sn), .ref b4, .ref b5, .ref b6, .ref b7, .ref b8, .int (nI wt), .int (nI wm), .int (nI wg), .long (lN wo), .int (nI wd), .ref b9]))] (S := Unit) (fun r _ => r = nI 0) (fun u => [(rm, .inr (4, [.int (nI 1), .ref a1, .ref a2, .ref a3, .ref a4, .ref a5, .ref a6, .ref a7, .ref a8, .ref a9, .int (nI 0), .int (nI mn), .ref b1, .int (nI bl), .ref b2, .ref b3, .int (nI jn), .int (nI sn), .ref b4, .ref b5, .ref b6, .ref b7, .ref b8, .int (nI wt), .int (nI wm), .int (nI wg), .long (lN wo), .int (nI wd), .ref b9]))]) 0 0 := by
  intro sz
  refine Met.ofW (cc := cX4_isThere) (maxL := 1) (ret := (some .boolean)) (by decide) rfl ?_
  intro p e s m args below meth c s₁ B hml hv
  obtain ⟨rfl, hsz, hP, hk, hD0⟩ := hv
  subst hsz
  have hx := B.exec
  have hb := B.bytes
  have hr := B.returns
  have hts := atoms_spec (ws := wsX4_isThere) B.pre
  have hown : s.vm.findClass RX4 = some m.cls := findClass_of_methodNamed B.named
  have hlocks := B.notSynchronized
  have hK := hk.1
  have hinX4 : ∀ w ∈ wsX40, w ∈ wsX4_isThere := by decide +kernel
  obtain ⟨A, hAe⟩ : ∃ A, va_A [(rm, .inr (4, [.int (nI cd), .ref a1, .ref a2, .ref a3, .ref a4, .ref a5, .ref a6, .ref a7, .ref a8, .ref a9, .int (nI 0), .int (nI mn), .ref b1, .int (nI bl), .ref b2, .ref b3, .int (nI jn), .int (nI sn), .ref b4, .ref b5, .ref b6, .ref b7, .ref b8, .int (nI wt), .int (nI wm), .int (nI wg), .long (lN wo), .int (nI wd), .ref b9]))] s.heap.size = A := ⟨_, rfl⟩
  have hD := hD0.self (sz := s.heap.size)
  rw [hAe] at hD
  have hA : ∀ q : Nat, s.heap.size ≤ q → A q := fun q h => by rw [← hAe]; exact Or.inr h
  have hS : va_S A s.heap s.heap [] := va_S.rf
  have hl := lv_entry ([.ref rm]) (n := 1) (Nat.le_of_ble_eq_true rfl)
  rw [lg_entry_eq]
  generalize (lg_sl ([.ref rm]) ++ List.replicate (1 - (lg_sl ([.ref rm])).length) Slot.unset).toArray = ls at hl ⊢
  have hl : lv_has ls 1 [(0, .ref rm)] := hl
  refine lv_aload_n hx hb dX4_isThere_0 rfl (lv_at hl 0 rfl) ?_
  refine lv_aload_n hx hb dX4_isThere_1 rfl (lv_at hl 0 rfl) ?_
  refine va_get (D := g) (ci := 4) (v := .int (nI 0)) (C := RX4) (T := TX4) (N := 29) hx hb hts hinX4 hown hK hP 0 rfl rfl 10 (by decide) (hts (.fieldLink RX4 93 "BuddyRoofModel" "top" "I") (by decide +kernel)) (fun _ h9 => h9) rfl dX4_isThere_2 ?_
  refine n_if_le (tgt := 12) hx hb dX4_isThere_5 (by decide) (by first | assumption | omega) (fun c1 => ?_) (fun c1 => ?_)
  · skip
    refine lv_iconst (v := nI 1) hx hb dX4_isThere_12 (by decide) ?_
    refine va_put (D := g) (ci := 4) (v := .int (nI 1)) (ty := .int) (C := RX4) (T := TX4) (N := 29) hx hb hts hinX4 tyX4 tyX4_ok nmX4 hown hK hP hD hS 0 rfl rfl 0 (by decide) (hts (.fieldLink RX4 66 "BuddyRoofModel" "code" "I") (by decide +kernel)) (fun _ h9 => h9) rfl (by decide +kernel) rfl rfl (Nat.le_of_ble_eq_true rfl) dX4_isThere_13 (fun H locs hP hD hS => ?_)
    have hP : va_P g vwCl [(rm, .inr (4, [.int (nI 1), .ref a1, .ref a2, .ref a3, .ref a4, .ref a5, .ref a6, .ref a7, .ref a8, .ref a9, .int (nI 0), .int (nI mn), .ref b1, .int (nI bl), .ref b2, .ref b3, .int (nI jn), .int (nI sn), .ref b4, .ref b5, .ref b6, .ref b7, .ref b8, .int (nI wt), .int (nI wm), .int (nI wg), .long (lN wo), .int (nI wd), .ref b9]))] H := hP
    have hD : va_D A [(rm, .inr (4, [.int (nI 1), .ref a1, .ref a2, .ref a3, .ref a4, .ref a5, .ref a6, .ref a7, .ref a8, .ref a9, .int (nI 0), .int (nI mn), .ref b1, .int (nI bl), .ref b2, .ref b3, .int (nI jn), .int (nI sn), .ref b4, .ref b5, .ref b6, .ref b7, .ref b8, .int (nI wt), .int (nI wm), .int (nI wg), .long (lN wo), .int (nI wd), .ref b9]))] := hD
    refine lv_aload_n hx hb dX4_isThere_16 rfl (lv_at hl 0 rfl) ?_
    refine va_get (D := g) (ci := 4) (v := .int (nI 1)) (C := RX4) (T := TX4) (N := 29) hx hb hts hinX4 hown hK hP 0 rfl rfl 0 (by decide) (hts (.fieldLink RX4 66 "BuddyRoofModel" "code" "I") (by decide +kernel)) (fun _ h9 => h9) rfl dX4_isThere_17 ?_
    refine n_if_ne (tgt := 27) hx hb dX4_isThere_20 (by decide) (by first | assumption | omega) (fun c2 => ?_) (fun c2 => ?_)
    · skip
      refine lv_iconst (v := nI 0) hx hb dX4_isThere_27 (by decide) ?_
      refine W.widen (k := 0) (n := 0) (by first | exact Nat.le_refl _ | omega) (by first | exact Nat.le_refl _ | omega) ?_
      exact k_retZ (sz := 0) (v := nI 0) hx hb hr hlocks hAe hS hP hD () (rfl) (by decide) (rfl) dX4_isThere_28
    · exact (by exact absurd c2 (by decide))
  · exact (by exact absurd c1 (by decide))
set_option maxHeartbeats 4000000 in
set_option maxRecDepth 100000 in
theorem c_X4_give_0 (l : Launch) (g : va_G) (cI cJ cZ : ClassId) (rm a1 a2 a3 a4 a5 a6 a7 a8 a9 b1 b2 b3 b4 b5 b6 b7 b8 b9 : Nat) (cd mn bl jn sn wt wm wg wo wd : Nat) (v : Int32)  : kI l g (kty cI cJ cZ) yX4_give wsX4_give ({ frames := 1, cells := 0, slots := 0, locals := 20 }) [.ref rm, .int v] [(rm, .inr (4, [.int (nI cd), .ref a1, .ref a2, .ref a3, .ref a4, .ref a5, .ref a6, .ref a7, .ref a8, .ref a9, .int (nI 0), .int (nI mn), .ref b1, .int (nI bl), .ref b2, .ref b3, .int (nI jn), .int (nI sn), .ref b4, .ref b5, .ref b6, .ref b7, .ref b8, .int (nI wt), .int (nI wm), .int (nI wg), .long (lN wo), .int (nI wd), .ref b9]))] (S := Unit) (fun r _ => r = nI 0) (fun u => [(rm, .inr (4, [.int (nI 1), .ref a1, .ref a2, .ref a3, .ref a4, .ref a5, .ref a6, .ref a7, .ref a8, .ref a9, .int (nI 0), .int (nI mn), .ref b1, .int (nI bl), .ref b2, .ref b3, .int (nI jn), .int (nI sn), .ref b4, .ref b5, .ref b6, .ref b7, .ref b8, .int (nI wt), .int (nI wm), .int (nI wg), .long (lN wo), .int (nI wd), .ref b9]))]) 0 0 := by
  intro sz
  refine Met.ofW (cc := cX4_give) (maxL := 2) (ret := (some .int)) (by decide) rfl ?_
  intro p e s m args below meth c s₁ B hml hv
  obtain ⟨rfl, hsz, hP, hk, hD0⟩ := hv
  subst hsz
  have hx := B.exec
  have hb := B.bytes
  have hr := B.returns
  have hts := atoms_spec (ws := wsX4_give) B.pre
  have hown : s.vm.findClass RX4 = some m.cls := findClass_of_methodNamed B.named
  have hlocks := B.notSynchronized
  have hK := hk.1
  obtain ⟨A, hAe⟩ : ∃ A, va_A [(rm, .inr (4, [.int (nI cd), .ref a1, .ref a2, .ref a3, .ref a4, .ref a5, .ref a6, .ref a7, .ref a8, .ref a9, .int (nI 0), .int (nI mn), .ref b1, .int (nI bl), .ref b2, .ref b3, .int (nI jn), .int (nI sn), .ref b4, .ref b5, .ref b6, .ref b7, .ref b8, .int (nI wt), .int (nI wm), .int (nI wg), .long (lN wo), .int (nI wd), .ref b9]))] s.heap.size = A := ⟨_, rfl⟩
  have hD := hD0.self (sz := s.heap.size)
  rw [hAe] at hD
  have hA : ∀ q : Nat, s.heap.size ≤ q → A q := fun q h => by rw [← hAe]; exact Or.inr h
  have hS : va_S A s.heap s.heap [] := va_S.rf
  have hl := lv_entry ([.ref rm, .int v]) (n := 2) (Nat.le_of_ble_eq_true rfl)
  rw [lg_entry_eq]
  generalize (lg_sl ([.ref rm, .int v]) ++ List.replicate (2 - (lg_sl ([.ref rm, .int v])).length) Slot.unset).toArray = ls at hl ⊢
  have hl : lv_has ls 2 [(0, .ref rm), (1, .int v)] := hl
  refine lv_aload_n hx hb dX4_give_0 rfl (lv_at hl 0 rfl) ?_
  refine k_goI (wr := []) (va_runV (As := []) (rest := []) ⟨hx, hb, hml, hown, hts⟩ (c_X4_isThere_n l g cI cJ cZ rm a1 a2 a3 a4 a5 a6 a7 a8 a9 b1 b2 b3 b4 b5 b6 b7 b8 b9 cd mn bl jn sn wt wm wg wo wd   _) (cwV 0 hts gX4_give_X4_isThere rfl rfl rfl (by decide +kernel) ⟨Nat.le_of_ble_eq_true rfl, Nat.le_of_ble_eq_true rfl⟩) (k_preV hk hP hD [0] rfl rfl (ci := 4) (q0 := 0) rfl rfl) rfl rfl hl.1 rfl (lv_room (Nat.le_of_ble_eq_true rfl)) dX4_give_1 ⟨by first | exact Nat.zero_le _ | omega, by first | exact Nat.zero_le _ | omega⟩) hP hD hS hA [0] [] rfl rfl rfl (by decide) (fun rv _ H locs hu hP hD hS => ?_)
  subst hu
  have hP : va_P g vwCl [(rm, .inr (4, [.int (nI 1), .ref a1, .ref a2, .ref a3, .ref a4, .ref a5, .ref a6, .ref a7, .ref a8, .ref a9, .int (nI 0), .int (nI mn), .ref b1, .int (nI bl), .ref b2, .ref b3, .int (nI jn), .int (nI sn), .ref b4, .ref b5, .ref b6, .ref b7, .ref b8, .int (nI wt), .int (nI wm), .int (nI wg), .long (lN wo), .int (nI wd), .ref b9]))] H := hP
  have hD : va_D A [(rm, .inr (4, [.int (nI 1), .ref a1, .ref a2, .ref a3, .ref a4, .ref a5, .ref a6, .ref a7, .ref a8, .ref a9, .int (nI 0), .int (nI mn), .ref b1, .int (nI bl), .ref b2, .ref b3, .int (nI jn), .int (nI sn), .ref b4, .ref b5, .ref b6, .ref b7, .ref b8, .int (nI wt), .int (nI wm), .int (nI wg), .long (lN wo), .int (nI wd), .ref b9]))] := hD
  refine n_if_ne (tgt := 9) hx hb dX4_give_4 (by decide) (by first | assumption | omega) (fun c1 => ?_) (fun c1 => ?_)
  · exact (by exact absurd c1 (by decide))
  · skip
    refine lv_iconst (v := nI 0) hx hb dX4_give_7 (by decide) ?_
    refine W.widen (k := 0) (n := 0) (by first | exact Nat.le_refl _ | omega) (by first | exact Nat.le_refl _ | omega) ?_
    exact k_retI (sz := 0) (v := nI 0) hx hb hr hlocks hAe hS hP hD () (rfl) (rfl) dX4_give_8
set_option maxHeartbeats 4000000 in
set_option maxRecDepth 100000 in
theorem c_X4_free_0 (l : Launch) (g : va_G) (cI cJ cZ : ClassId) (rm a1 a2 a3 a4 a5 a6 a7 a8 a9 b1 b2 b3 b4 b5 b6 b7 b8 b9 : Nat) (cd mn bl jn sn wt wm wg wo wd : Nat) (v : Int32)  : kV l g (kty cI cJ cZ) yX4_free wsX4_free ({ frames := 1, cells := 0, slots := 0, locals := 20 }) [.ref rm, .int v] [(rm, .inr (4, [.int (nI cd), .ref a1, .ref a2, .ref a3, .ref a4, .ref a5, .ref a6, .ref a7, .ref a8, .ref a9, .int (nI 0), .int (nI mn), .ref b1, .int (nI bl), .ref b2, .ref b3, .int (nI jn), .int (nI sn), .ref b4, .ref b5, .ref b6, .ref b7, .ref b8, .int (nI wt), .int (nI wm), .int (nI wg), .long (lN wo), .int (nI wd), .ref b9]))] (S := Unit) (fun _ => True) (fun u => [(rm, .inr (4, [.int (nI 1), .ref a1, .ref a2, .ref a3, .ref a4, .ref a5, .ref a6, .ref a7, .ref a8, .ref a9, .int (nI 0), .int (nI mn), .ref b1, .int (nI bl), .ref b2, .ref b3, .int (nI jn), .int (nI sn), .ref b4, .ref b5, .ref b6, .ref b7, .ref b8, .int (nI wt), .int (nI wm), .int (nI wg), .long (lN wo), .int (nI wd), .ref b9]))]) 0 0 := by
  intro sz
  refine Met.ofW (cc := cX4_free) (maxL := 3) (ret := none) (by decide) rfl ?_
  intro p e s m args below meth c s₁ B hml hv
  obtain ⟨rfl, hsz, hP, hk, hD0⟩ := hv
  subst hsz
  have hx := B.exec
  have hb := B.bytes
  have hr := B.returns
  have hts := atoms_spec (ws := wsX4_free) B.pre
  have hown : s.vm.findClass RX4 = some m.cls := findClass_of_methodNamed B.named
  have hlocks := B.notSynchronized
  have hK := hk.1
  obtain ⟨A, hAe⟩ : ∃ A, va_A [(rm, .inr (4, [.int (nI cd), .ref a1, .ref a2, .ref a3, .ref a4, .ref a5, .ref a6, .ref a7, .ref a8, .ref a9, .int (nI 0), .int (nI mn), .ref b1, .int (nI bl), .ref b2, .ref b3, .int (nI jn), .int (nI sn), .ref b4, .ref b5, .ref b6, .ref b7, .ref b8, .int (nI wt), .int (nI wm), .int (nI wg), .long (lN wo), .int (nI wd), .ref b9]))] s.heap.size = A := ⟨_, rfl⟩
  have hD := hD0.self (sz := s.heap.size)
  rw [hAe] at hD
  have hA : ∀ q : Nat, s.heap.size ≤ q → A q := fun q h => by rw [← hAe]; exact Or.inr h
  have hS : va_S A s.heap s.heap [] := va_S.rf
  have hl := lv_entry ([.ref rm, .int v]) (n := 3) (Nat.le_of_ble_eq_true rfl)
  rw [lg_entry_eq]
  generalize (lg_sl ([.ref rm, .int v]) ++ List.replicate (3 - (lg_sl ([.ref rm, .int v])).length) Slot.unset).toArray = ls at hl ⊢
  have hl : lv_has ls 3 [(0, .ref rm), (1, .int v)] := hl
  refine lv_aload_n hx hb dX4_free_0 rfl (lv_at hl 0 rfl) ?_
  refine k_goI (wr := []) (va_runV (As := []) (rest := []) ⟨hx, hb, hml, hown, hts⟩ (c_X4_isThere_n l g cI cJ cZ rm a1 a2 a3 a4 a5 a6 a7 a8 a9 b1 b2 b3 b4 b5 b6 b7 b8 b9 cd mn bl jn sn wt wm wg wo wd   _) (cwV 0 hts gX4_free_X4_isThere rfl rfl rfl (by decide +kernel) ⟨Nat.le_of_ble_eq_true rfl, Nat.le_of_ble_eq_true rfl⟩) (k_preV hk hP hD [0] rfl rfl (ci := 4) (q0 := 0) rfl rfl) rfl rfl hl.1 rfl (lv_room (Nat.le_of_ble_eq_true rfl)) dX4_free_1 ⟨by first | exact Nat.zero_le _ | omega, by first | exact Nat.zero_le _ | omega⟩) hP hD hS hA [0] [] rfl rfl rfl (by decide) (fun rv _ H locs hu hP hD hS => ?_)
  subst hu
  have hP : va_P g vwCl [(rm, .inr (4, [.int (nI 1), .ref a1, .ref a2, .ref a3, .ref a4, .ref a5, .ref a6, .ref a7, .ref a8, .ref a9, .int (nI 0), .int (nI mn), .ref b1, .int (nI bl), .ref b2, .ref b3, .int (nI jn), .int (nI sn), .ref b4, .ref b5, .ref b6, .ref b7, .ref b8, .int (nI wt), .int (nI wm), .int (nI wg), .long (lN wo), .int (nI wd), .ref b9]))] H := hP
  have hD : va_D A [(rm, .inr (4, [.int (nI 1), .ref a1, .ref a2, .ref a3, .ref a4, .ref a5, .ref a6, .ref a7, .ref a8, .ref a9, .int (nI 0), .int (nI mn), .ref b1, .int (nI bl), .ref b2, .ref b3, .int (nI jn), .int (nI sn), .ref b4, .ref b5, .ref b6, .ref b7, .ref b8, .int (nI wt), .int (nI wm), .int (nI wg), .long (lN wo), .int (nI wd), .ref b9]))] := hD
  refine n_if_ne (tgt := 8) hx hb dX4_free_4 (by decide) (by first | assumption | omega) (fun c1 => ?_) (fun c1 => ?_)
  · exact (by exact absurd c1 (by decide))
  · skip
    refine W.widen (k := 0) (n := 0) (by first | exact Nat.le_refl _ | omega) (by first | exact Nat.le_refl _ | omega) ?_
    exact k_retV (sz := 0) hx hb hr hlocks hAe hS hP hD () (rfl) (trivial) dX4_free_7
set_option maxHeartbeats 4000000 in
set_option maxRecDepth 100000 in
theorem c_X4_change_0 (l : Launch) (g : va_G) (cI cJ cZ : ClassId) (rm a1 a2 a3 a4 a5 a6 a7 a8 a9 b1 b2 b3 b4 b5 b6 b7 b8 b9 : Nat) (cd mn bl jn sn wt wm wg wo wd : Nat) (v v2 : Int32)  : kI l g (kty cI cJ cZ) yX4_change wsX4_change ({ frames := 1, cells := 0, slots := 0, locals := 20 }) [.ref rm, .int v, .int v2] [(rm, .inr (4, [.int (nI cd), .ref a1, .ref a2, .ref a3, .ref a4, .ref a5, .ref a6, .ref a7, .ref a8, .ref a9, .int (nI 0), .int (nI mn), .ref b1, .int (nI bl), .ref b2, .ref b3, .int (nI jn), .int (nI sn), .ref b4, .ref b5, .ref b6, .ref b7, .ref b8, .int (nI wt), .int (nI wm), .int (nI wg), .long (lN wo), .int (nI wd), .ref b9]))] (S := Unit) (fun r _ => r = nI 0) (fun u => [(rm, .inr (4, [.int (nI 1), .ref a1, .ref a2, .ref a3, .ref a4, .ref a5, .ref a6, .ref a7, .ref a8, .ref a9, .int (nI 0), .int (nI mn), .ref b1, .int (nI bl), .ref b2, .ref b3, .int (nI jn), .int (nI sn), .ref b4, .ref b5, .ref b6, .ref b7, .ref b8, .int (nI wt), .int (nI wm), .int (nI wg), .long (lN wo), .int (nI wd), .ref b9]))]) 0 0 := by
  intro sz
  refine Met.ofW (cc := cX4_change) (maxL := 5) (ret := (some .int)) (by decide) rfl ?_
  intro p e s m args below meth c s₁ B hml hv
  obtain ⟨rfl, hsz, hP, hk, hD0⟩ := hv
  subst hsz
  have hx := B.exec
  have hb := B.bytes
  have hr := B.returns
  have hts := atoms_spec (ws := wsX4_change) B.pre
  have hown : s.vm.findClass RX4 = some m.cls := findClass_of_methodNamed B.named
  have hlocks := B.notSynchronized
  have hK := hk.1
  obtain ⟨A, hAe⟩ : ∃ A, va_A [(rm, .inr (4, [.int (nI cd), .ref a1, .ref a2, .ref a3, .ref a4, .ref a5, .ref a6, .ref a7, .ref a8, .ref a9, .int (nI 0), .int (nI mn), .ref b1, .int (nI bl), .ref b2, .ref b3, .int (nI jn), .int (nI sn), .ref b4, .ref b5, .ref b6, .ref b7, .ref b8, .int (nI wt), .int (nI wm), .int (nI wg), .long (lN wo), .int (nI wd), .ref b9]))] s.heap.size = A := ⟨_, rfl⟩
  have hD := hD0.self (sz := s.heap.size)
  rw [hAe] at hD
  have hA : ∀ q : Nat, s.heap.size ≤ q → A q := fun q h => by rw [← hAe]; exact Or.inr h
  have hS : va_S A s.heap s.heap [] := va_S.rf
  have hl := lv_entry ([.ref rm, .int v, .int v2]) (n := 5) (Nat.le_of_ble_eq_true rfl)
  rw [lg_entry_eq]
  generalize (lg_sl ([.ref rm, .int v, .int v2]) ++ List.replicate (5 - (lg_sl ([.ref rm, .int v, .int v2])).length) Slot.unset).toArray = ls at hl ⊢
  have hl : lv_has ls 5 [(0, .ref rm), (1, .int v), (2, .int v2)] := hl
  refine lv_aload_n hx hb dX4_change_0 rfl (lv_at hl 0 rfl) ?_
  refine k_goI (wr := []) (va_runV (As := []) (rest := []) ⟨hx, hb, hml, hown, hts⟩ (c_X4_isThere_n l g cI cJ cZ rm a1 a2 a3 a4 a5 a6 a7 a8 a9 b1 b2 b3 b4 b5 b6 b7 b8 b9 cd mn bl jn sn wt wm wg wo wd   _) (cwV 0 hts gX4_change_X4_isThere rfl rfl rfl (by decide +kernel) ⟨Nat.le_of_ble_eq_true rfl, Nat.le_of_ble_eq_true rfl⟩) (k_preV hk hP hD [0] rfl rfl (ci := 4) (q0 := 0) rfl rfl) rfl rfl hl.1 rfl (lv_room (Nat.le_of_ble_eq_true rfl)) dX4_change_1 ⟨by first | exact Nat.zero_le _ | omega, by first | exact Nat.zero_le _ | omega⟩) hP hD hS hA [0] [] rfl rfl rfl (by decide) (fun rv _ H locs hu hP hD hS => ?_)
  subst hu
  have hP : va_P g vwCl [(rm, .inr (4, [.int (nI 1), .ref a1, .ref a2, .ref a3, .ref a4, .ref a5, .ref a6, .ref a7, .ref a8, .ref a9, .int (nI 0), .int (nI mn), .ref b1, .int (nI bl), .ref b2, .ref b3, .int (nI jn), .int (nI sn), .ref b4, .ref b5, .ref b6, .ref b7, .ref b8, .int (nI wt), .int (nI wm), .int (nI wg), .long (lN wo), .int (nI wd), .ref b9]))] H := hP
  have hD : va_D A [(rm, .inr (4, [.int (nI 1), .ref a1, .ref a2, .ref a3, .ref a4, .ref a5, .ref a6, .ref a7, .ref a8, .ref a9, .int (nI 0), .int (nI mn), .ref b1, .int (nI bl), .ref b2, .ref b3, .int (nI jn), .int (nI sn), .ref b4, .ref b5, .ref b6, .ref b7, .ref b8, .int (nI wt), .int (nI wm), .int (nI wg), .long (lN wo), .int (nI wd), .ref b9]))] := hD
  refine n_if_ne (tgt := 9) hx hb dX4_change_4 (by decide) (by first | assumption | omega) (fun c1 => ?_) (fun c1 => ?_)
  · exact (by exact absurd c1 (by decide))
  · skip
    refine lv_iconst (v := nI 0) hx hb dX4_change_7 (by decide) ?_
    refine W.widen (k := 0) (n := 0) (by first | exact Nat.le_refl _ | omega) (by first | exact Nat.le_refl _ | omega) ?_
    exact k_retI (sz := 0) (v := nI 0) hx hb hr hlocks hAe hS hP hD () (rfl) (rfl) dX4_change_8
set_option maxHeartbeats 4000000 in
set_option maxRecDepth 100000 in
theorem c_X4_block_0 (l : Launch) (g : va_G) (cI cJ cZ : ClassId) (rm a1 a2 a3 a4 a5 a6 a7 a8 a9 b1 b2 b3 b4 b5 b6 b7 b8 b9 : Nat) (cd mn bl jn sn wt wm wg wo wd : Nat) (v v2 : Int32)  : kI l g (kty cI cJ cZ) yX4_block wsX4_block ({ frames := 1, cells := 0, slots := 0, locals := 20 }) [.ref rm, .int v, .int v2] [(rm, .inr (4, [.int (nI cd), .ref a1, .ref a2, .ref a3, .ref a4, .ref a5, .ref a6, .ref a7, .ref a8, .ref a9, .int (nI 0), .int (nI mn), .ref b1, .int (nI bl), .ref b2, .ref b3, .int (nI jn), .int (nI sn), .ref b4, .ref b5, .ref b6, .ref b7, .ref b8, .int (nI wt), .int (nI wm), .int (nI wg), .long (lN wo), .int (nI wd), .ref b9]))] (S := Unit) (fun r _ => r = nI 0) (fun u => [(rm, .inr (4, [.int (nI 1), .ref a1, .ref a2, .ref a3, .ref a4, .ref a5, .ref a6, .ref a7, .ref a8, .ref a9, .int (nI 0), .int (nI mn), .ref b1, .int (nI bl), .ref b2, .ref b3, .int (nI jn), .int (nI sn), .ref b4, .ref b5, .ref b6, .ref b7, .ref b8, .int (nI wt), .int (nI wm), .int (nI wg), .long (lN wo), .int (nI wd), .ref b9]))]) 0 0 := by
  intro sz
  refine Met.ofW (cc := cX4_block) (maxL := 5) (ret := (some .int)) (by decide) rfl ?_
  intro p e s m args below meth c s₁ B hml hv
  obtain ⟨rfl, hsz, hP, hk, hD0⟩ := hv
  subst hsz
  have hx := B.exec
  have hb := B.bytes
  have hr := B.returns
  have hts := atoms_spec (ws := wsX4_block) B.pre
  have hown : s.vm.findClass RX4 = some m.cls := findClass_of_methodNamed B.named
  have hlocks := B.notSynchronized
  have hK := hk.1
  obtain ⟨A, hAe⟩ : ∃ A, va_A [(rm, .inr (4, [.int (nI cd), .ref a1, .ref a2, .ref a3, .ref a4, .ref a5, .ref a6, .ref a7, .ref a8, .ref a9, .int (nI 0), .int (nI mn), .ref b1, .int (nI bl), .ref b2, .ref b3, .int (nI jn), .int (nI sn), .ref b4, .ref b5, .ref b6, .ref b7, .ref b8, .int (nI wt), .int (nI wm), .int (nI wg), .long (lN wo), .int (nI wd), .ref b9]))] s.heap.size = A := ⟨_, rfl⟩
  have hD := hD0.self (sz := s.heap.size)
  rw [hAe] at hD
  have hA : ∀ q : Nat, s.heap.size ≤ q → A q := fun q h => by rw [← hAe]; exact Or.inr h
  have hS : va_S A s.heap s.heap [] := va_S.rf
  have hl := lv_entry ([.ref rm, .int v, .int v2]) (n := 5) (Nat.le_of_ble_eq_true rfl)
  rw [lg_entry_eq]
  generalize (lg_sl ([.ref rm, .int v, .int v2]) ++ List.replicate (5 - (lg_sl ([.ref rm, .int v, .int v2])).length) Slot.unset).toArray = ls at hl ⊢
  have hl : lv_has ls 5 [(0, .ref rm), (1, .int v), (2, .int v2)] := hl
  refine lv_aload_n hx hb dX4_block_0 rfl (lv_at hl 0 rfl) ?_
  refine k_goI (wr := []) (va_runV (As := []) (rest := []) ⟨hx, hb, hml, hown, hts⟩ (c_X4_isThere_n l g cI cJ cZ rm a1 a2 a3 a4 a5 a6 a7 a8 a9 b1 b2 b3 b4 b5 b6 b7 b8 b9 cd mn bl jn sn wt wm wg wo wd   _) (cwV 0 hts gX4_block_X4_isThere rfl rfl rfl (by decide +kernel) ⟨Nat.le_of_ble_eq_true rfl, Nat.le_of_ble_eq_true rfl⟩) (k_preV hk hP hD [0] rfl rfl (ci := 4) (q0 := 0) rfl rfl) rfl rfl hl.1 rfl (lv_room (Nat.le_of_ble_eq_true rfl)) dX4_block_1 ⟨by first | exact Nat.zero_le _ | omega, by first | exact Nat.zero_le _ | omega⟩) hP hD hS hA [0] [] rfl rfl rfl (by decide) (fun rv _ H locs hu hP hD hS => ?_)
  subst hu
  have hP : va_P g vwCl [(rm, .inr (4, [.int (nI 1), .ref a1, .ref a2, .ref a3, .ref a4, .ref a5, .ref a6, .ref a7, .ref a8, .ref a9, .int (nI 0), .int (nI mn), .ref b1, .int (nI bl), .ref b2, .ref b3, .int (nI jn), .int (nI sn), .ref b4, .ref b5, .ref b6, .ref b7, .ref b8, .int (nI wt), .int (nI wm), .int (nI wg), .long (lN wo), .int (nI wd), .ref b9]))] H := hP
  have hD : va_D A [(rm, .inr (4, [.int (nI 1), .ref a1, .ref a2, .ref a3, .ref a4, .ref a5, .ref a6, .ref a7, .ref a8, .ref a9, .int (nI 0), .int (nI mn), .ref b1, .int (nI bl), .ref b2, .ref b3, .int (nI jn), .int (nI sn), .ref b4, .ref b5, .ref b6, .ref b7, .ref b8, .int (nI wt), .int (nI wm), .int (nI wg), .long (lN wo), .int (nI wd), .ref b9]))] := hD
  refine n_if_ne (tgt := 9) hx hb dX4_block_4 (by decide) (by first | assumption | omega) (fun c1 => ?_) (fun c1 => ?_)
  · exact (by exact absurd c1 (by decide))
  · skip
    refine lv_iconst (v := nI 0) hx hb dX4_block_7 (by decide) ?_
    refine W.widen (k := 0) (n := 0) (by first | exact Nat.le_refl _ | omega) (by first | exact Nat.le_refl _ | omega) ?_
    exact k_retI (sz := 0) (v := nI 0) hx hb hr hlocks hAe hS hP hD () (rfl) (rfl) dX4_block_8
set_option maxHeartbeats 4000000 in
set_option maxRecDepth 100000 in
theorem c_X4_path_0 (l : Launch) (g : va_G) (cI cJ cZ : ClassId) (rm a1 a2 a3 a4 a5 a6 a7 a8 a9 b1 b2 b3 b4 b5 b6 b7 b8 b9 : Nat) (cd mn bl jn sn wt wm wg wo wd : Nat) (v v2 : Int32)  : kI l g (kty cI cJ cZ) yX4_path wsX4_path ({ frames := 1, cells := 0, slots := 0, locals := 20 }) [.ref rm, .int v, .int v2] [(rm, .inr (4, [.int (nI cd), .ref a1, .ref a2, .ref a3, .ref a4, .ref a5, .ref a6, .ref a7, .ref a8, .ref a9, .int (nI 0), .int (nI mn), .ref b1, .int (nI bl), .ref b2, .ref b3, .int (nI jn), .int (nI sn), .ref b4, .ref b5, .ref b6, .ref b7, .ref b8, .int (nI wt), .int (nI wm), .int (nI wg), .long (lN wo), .int (nI wd), .ref b9]))] (S := Unit) (fun r _ => r = nI 0) (fun u => [(rm, .inr (4, [.int (nI 1), .ref a1, .ref a2, .ref a3, .ref a4, .ref a5, .ref a6, .ref a7, .ref a8, .ref a9, .int (nI 0), .int (nI mn), .ref b1, .int (nI bl), .ref b2, .ref b3, .int (nI jn), .int (nI sn), .ref b4, .ref b5, .ref b6, .ref b7, .ref b8, .int (nI wt), .int (nI wm), .int (nI wg), .long (lN wo), .int (nI wd), .ref b9]))]) 0 0 := by
  intro sz
  refine Met.ofW (cc := cX4_path) (maxL := 4) (ret := (some .int)) (by decide) rfl ?_
  intro p e s m args below meth c s₁ B hml hv
  obtain ⟨rfl, hsz, hP, hk, hD0⟩ := hv
  subst hsz
  have hx := B.exec
  have hb := B.bytes
  have hr := B.returns
  have hts := atoms_spec (ws := wsX4_path) B.pre
  have hown : s.vm.findClass RX4 = some m.cls := findClass_of_methodNamed B.named
  have hlocks := B.notSynchronized
  have hK := hk.1
  obtain ⟨A, hAe⟩ : ∃ A, va_A [(rm, .inr (4, [.int (nI cd), .ref a1, .ref a2, .ref a3, .ref a4, .ref a5, .ref a6, .ref a7, .ref a8, .ref a9, .int (nI 0), .int (nI mn), .ref b1, .int (nI bl), .ref b2, .ref b3, .int (nI jn), .int (nI sn), .ref b4, .ref b5, .ref b6, .ref b7, .ref b8, .int (nI wt), .int (nI wm), .int (nI wg), .long (lN wo), .int (nI wd), .ref b9]))] s.heap.size = A := ⟨_, rfl⟩
  have hD := hD0.self (sz := s.heap.size)
  rw [hAe] at hD
  have hA : ∀ q : Nat, s.heap.size ≤ q → A q := fun q h => by rw [← hAe]; exact Or.inr h
  have hS : va_S A s.heap s.heap [] := va_S.rf
  have hl := lv_entry ([.ref rm, .int v, .int v2]) (n := 4) (Nat.le_of_ble_eq_true rfl)
  rw [lg_entry_eq]
  generalize (lg_sl ([.ref rm, .int v, .int v2]) ++ List.replicate (4 - (lg_sl ([.ref rm, .int v, .int v2])).length) Slot.unset).toArray = ls at hl ⊢
  have hl : lv_has ls 4 [(0, .ref rm), (1, .int v), (2, .int v2)] := hl
  refine lv_aload_n hx hb dX4_path_0 rfl (lv_at hl 0 rfl) ?_
  refine k_goI (wr := []) (va_runV (As := []) (rest := []) ⟨hx, hb, hml, hown, hts⟩ (c_X4_isThere_n l g cI cJ cZ rm a1 a2 a3 a4 a5 a6 a7 a8 a9 b1 b2 b3 b4 b5 b6 b7 b8 b9 cd mn bl jn sn wt wm wg wo wd   _) (cwV 0 hts gX4_path_X4_isThere rfl rfl rfl (by decide +kernel) ⟨Nat.le_of_ble_eq_true rfl, Nat.le_of_ble_eq_true rfl⟩) (k_preV hk hP hD [0] rfl rfl (ci := 4) (q0 := 0) rfl rfl) rfl rfl hl.1 rfl (lv_room (Nat.le_of_ble_eq_true rfl)) dX4_path_1 ⟨by first | exact Nat.zero_le _ | omega, by first | exact Nat.zero_le _ | omega⟩) hP hD hS hA [0] [] rfl rfl rfl (by decide) (fun rv _ H locs hu hP hD hS => ?_)
  subst hu
  have hP : va_P g vwCl [(rm, .inr (4, [.int (nI 1), .ref a1, .ref a2, .ref a3, .ref a4, .ref a5, .ref a6, .ref a7, .ref a8, .ref a9, .int (nI 0), .int (nI mn), .ref b1, .int (nI bl), .ref b2, .ref b3, .int (nI jn), .int (nI sn), .ref b4, .ref b5, .ref b6, .ref b7, .ref b8, .int (nI wt), .int (nI wm), .int (nI wg), .long (lN wo), .int (nI wd), .ref b9]))] H := hP
  have hD : va_D A [(rm, .inr (4, [.int (nI 1), .ref a1, .ref a2, .ref a3, .ref a4, .ref a5, .ref a6, .ref a7, .ref a8, .ref a9, .int (nI 0), .int (nI mn), .ref b1, .int (nI bl), .ref b2, .ref b3, .int (nI jn), .int (nI sn), .ref b4, .ref b5, .ref b6, .ref b7, .ref b8, .int (nI wt), .int (nI wm), .int (nI wg), .long (lN wo), .int (nI wd), .ref b9]))] := hD
  refine n_if_ne (tgt := 9) hx hb dX4_path_4 (by decide) (by first | assumption | omega) (fun c1 => ?_) (fun c1 => ?_)
  · exact (by exact absurd c1 (by decide))
  · skip
    refine lv_iconst (v := nI 0) hx hb dX4_path_7 (by decide) ?_
    refine W.widen (k := 0) (n := 0) (by first | exact Nat.le_refl _ | omega) (by first | exact Nat.le_refl _ | omega) ?_
    exact k_retI (sz := 0) (v := nI 0) hx hb hr hlocks hAe hS hP hD () (rfl) (rfl) dX4_path_8
set_option maxHeartbeats 4000000 in
set_option maxRecDepth 100000 in
theorem c_X4_keep_0 (l : Launch) (g : va_G) (cI cJ cZ : ClassId) (rm a1 a2 a3 a4 a5 a6 a7 a8 a9 b1 b2 b3 b4 b5 b6 b7 b8 b9 : Nat) (cd mn bl jn sn wt wm wg wo wd : Nat) (v v2 : Int32)  : kV l g (kty cI cJ cZ) yX4_keep wsX4_keep ({ frames := 1, cells := 0, slots := 0, locals := 20 }) [.ref rm, .int v, .int v2] [(rm, .inr (4, [.int (nI cd), .ref a1, .ref a2, .ref a3, .ref a4, .ref a5, .ref a6, .ref a7, .ref a8, .ref a9, .int (nI 0), .int (nI mn), .ref b1, .int (nI bl), .ref b2, .ref b3, .int (nI jn), .int (nI sn), .ref b4, .ref b5, .ref b6, .ref b7, .ref b8, .int (nI wt), .int (nI wm), .int (nI wg), .long (lN wo), .int (nI wd), .ref b9]))] (S := Unit) (fun _ => True) (fun u => [(rm, .inr (4, [.int (nI 1), .ref a1, .ref a2, .ref a3, .ref a4, .ref a5, .ref a6, .ref a7, .ref a8, .ref a9, .int (nI 0), .int (nI mn), .ref b1, .int (nI bl), .ref b2, .ref b3, .int (nI jn), .int (nI sn), .ref b4, .ref b5, .ref b6, .ref b7, .ref b8, .int (nI wt), .int (nI wm), .int (nI wg), .long (lN wo), .int (nI wd), .ref b9]))]) 0 0 := by
  intro sz
  refine Met.ofW (cc := cX4_keep) (maxL := 3) (ret := none) (by decide) rfl ?_
  intro p e s m args below meth c s₁ B hml hv
  obtain ⟨rfl, hsz, hP, hk, hD0⟩ := hv
  subst hsz
  have hx := B.exec
  have hb := B.bytes
  have hr := B.returns
  have hts := atoms_spec (ws := wsX4_keep) B.pre
  have hown : s.vm.findClass RX4 = some m.cls := findClass_of_methodNamed B.named
  have hlocks := B.notSynchronized
  have hK := hk.1
  obtain ⟨A, hAe⟩ : ∃ A, va_A [(rm, .inr (4, [.int (nI cd), .ref a1, .ref a2, .ref a3, .ref a4, .ref a5, .ref a6, .ref a7, .ref a8, .ref a9, .int (nI 0), .int (nI mn), .ref b1, .int (nI bl), .ref b2, .ref b3, .int (nI jn), .int (nI sn), .ref b4, .ref b5, .ref b6, .ref b7, .ref b8, .int (nI wt), .int (nI wm), .int (nI wg), .long (lN wo), .int (nI wd), .ref b9]))] s.heap.size = A := ⟨_, rfl⟩
  have hD := hD0.self (sz := s.heap.size)
  rw [hAe] at hD
  have hA : ∀ q : Nat, s.heap.size ≤ q → A q := fun q h => by rw [← hAe]; exact Or.inr h
  have hS : va_S A s.heap s.heap [] := va_S.rf
  have hl := lv_entry ([.ref rm, .int v, .int v2]) (n := 3) (Nat.le_of_ble_eq_true rfl)
  rw [lg_entry_eq]
  generalize (lg_sl ([.ref rm, .int v, .int v2]) ++ List.replicate (3 - (lg_sl ([.ref rm, .int v, .int v2])).length) Slot.unset).toArray = ls at hl ⊢
  have hl : lv_has ls 3 [(0, .ref rm), (1, .int v), (2, .int v2)] := hl
  refine lv_aload_n hx hb dX4_keep_0 rfl (lv_at hl 0 rfl) ?_
  refine k_goI (wr := []) (va_runV (As := []) (rest := []) ⟨hx, hb, hml, hown, hts⟩ (c_X4_isThere_n l g cI cJ cZ rm a1 a2 a3 a4 a5 a6 a7 a8 a9 b1 b2 b3 b4 b5 b6 b7 b8 b9 cd mn bl jn sn wt wm wg wo wd   _) (cwV 0 hts gX4_keep_X4_isThere rfl rfl rfl (by decide +kernel) ⟨Nat.le_of_ble_eq_true rfl, Nat.le_of_ble_eq_true rfl⟩) (k_preV hk hP hD [0] rfl rfl (ci := 4) (q0 := 0) rfl rfl) rfl rfl hl.1 rfl (lv_room (Nat.le_of_ble_eq_true rfl)) dX4_keep_1 ⟨by first | exact Nat.zero_le _ | omega, by first | exact Nat.zero_le _ | omega⟩) hP hD hS hA [0] [] rfl rfl rfl (by decide) (fun rv _ H locs hu hP hD hS => ?_)
  subst hu
  have hP : va_P g vwCl [(rm, .inr (4, [.int (nI 1), .ref a1, .ref a2, .ref a3, .ref a4, .ref a5, .ref a6, .ref a7, .ref a8, .ref a9, .int (nI 0), .int (nI mn), .ref b1, .int (nI bl), .ref b2, .ref b3, .int (nI jn), .int (nI sn), .ref b4, .ref b5, .ref b6, .ref b7, .ref b8, .int (nI wt), .int (nI wm), .int (nI wg), .long (lN wo), .int (nI wd), .ref b9]))] H := hP
  have hD : va_D A [(rm, .inr (4, [.int (nI 1), .ref a1, .ref a2, .ref a3, .ref a4, .ref a5, .ref a6, .ref a7, .ref a8, .ref a9, .int (nI 0), .int (nI mn), .ref b1, .int (nI bl), .ref b2, .ref b3, .int (nI jn), .int (nI sn), .ref b4, .ref b5, .ref b6, .ref b7, .ref b8, .int (nI wt), .int (nI wm), .int (nI wg), .long (lN wo), .int (nI wd), .ref b9]))] := hD
  refine n_if_ne (tgt := 8) hx hb dX4_keep_4 (by decide) (by first | assumption | omega) (fun c1 => ?_) (fun c1 => ?_)
  · exact (by exact absurd c1 (by decide))
  · skip
    refine W.widen (k := 0) (n := 0) (by first | exact Nat.le_refl _ | omega) (by first | exact Nat.le_refl _ | omega) ?_
    exact k_retV (sz := 0) hx hb hr hlocks hAe hS hP hD () (rfl) (trivial) dX4_keep_7
set_option maxHeartbeats 4000000 in
set_option maxRecDepth 100000 in
theorem c_X4_join_0 (l : Launch) (g : va_G) (cI cJ cZ : ClassId) (rm a1 a2 a3 a4 a5 a6 a7 a8 a9 b1 b2 b3 b4 b5 b6 b7 b8 b9 : Nat) (cd mn bl jn sn wt wm wg wo wd : Nat)   : kI l g (kty cI cJ cZ) yX4_join wsX4_join ({ frames := 1, cells := 0, slots := 0, locals := 20 }) [.ref rm] [(rm, .inr (4, [.int (nI cd), .ref a1, .ref a2, .ref a3, .ref a4, .ref a5, .ref a6, .ref a7, .ref a8, .ref a9, .int (nI 0), .int (nI mn), .ref b1, .int (nI bl), .ref b2, .ref b3, .int (nI jn), .int (nI sn), .ref b4, .ref b5, .ref b6, .ref b7, .ref b8, .int (nI wt), .int (nI wm), .int (nI wg), .long (lN wo), .int (nI wd), .ref b9]))] (S := Unit) (fun r _ => r = nI 0) (fun u => [(rm, .inr (4, [.int (nI 1), .ref a1, .ref a2, .ref a3, .ref a4, .ref a5, .ref a6, .ref a7, .ref a8, .ref a9, .int (nI 0), .int (nI mn), .ref b1, .int (nI bl), .ref b2, .ref b3, .int (nI jn), .int (nI sn), .ref b4, .ref b5, .ref b6, .ref b7, .ref b8, .int (nI wt), .int (nI wm), .int (nI wg), .long (lN wo), .int (nI wd), .ref b9]))]) 0 0 := by
  intro sz
  refine Met.ofW (cc := cX4_join) (maxL := 1) (ret := (some .int)) (by decide) rfl ?_
  intro p e s m args below meth c s₁ B hml hv
  obtain ⟨rfl, hsz, hP, hk, hD0⟩ := hv
  subst hsz
  have hx := B.exec
  have hb := B.bytes
  have hr := B.returns
  have hts := atoms_spec (ws := wsX4_join) B.pre
  have hown : s.vm.findClass RX4 = some m.cls := findClass_of_methodNamed B.named
  have hlocks := B.notSynchronized
  have hK := hk.1
  obtain ⟨A, hAe⟩ : ∃ A, va_A [(rm, .inr (4, [.int (nI cd), .ref a1, .ref a2, .ref a3, .ref a4, .ref a5, .ref a6, .ref a7, .ref a8, .ref a9, .int (nI 0), .int (nI mn), .ref b1, .int (nI bl), .ref b2, .ref b3, .int (nI jn), .int (nI sn), .ref b4, .ref b5, .ref b6, .ref b7, .ref b8, .int (nI wt), .int (nI wm), .int (nI wg), .long (lN wo), .int (nI wd), .ref b9]))] s.heap.size = A := ⟨_, rfl⟩
  have hD := hD0.self (sz := s.heap.size)
  rw [hAe] at hD
  have hA : ∀ q : Nat, s.heap.size ≤ q → A q := fun q h => by rw [← hAe]; exact Or.inr h
  have hS : va_S A s.heap s.heap [] := va_S.rf
  have hl := lv_entry ([.ref rm]) (n := 1) (Nat.le_of_ble_eq_true rfl)
  rw [lg_entry_eq]
  generalize (lg_sl ([.ref rm]) ++ List.replicate (1 - (lg_sl ([.ref rm])).length) Slot.unset).toArray = ls at hl ⊢
  have hl : lv_has ls 1 [(0, .ref rm)] := hl
  refine lv_aload_n hx hb dX4_join_0 rfl (lv_at hl 0 rfl) ?_
  refine k_goI (wr := []) (va_runV (As := []) (rest := []) ⟨hx, hb, hml, hown, hts⟩ (c_X4_isThere_n l g cI cJ cZ rm a1 a2 a3 a4 a5 a6 a7 a8 a9 b1 b2 b3 b4 b5 b6 b7 b8 b9 cd mn bl jn sn wt wm wg wo wd   _) (cwV 0 hts gX4_join_X4_isThere rfl rfl rfl (by decide +kernel) ⟨Nat.le_of_ble_eq_true rfl, Nat.le_of_ble_eq_true rfl⟩) (k_preV hk hP hD [0] rfl rfl (ci := 4) (q0 := 0) rfl rfl) rfl rfl hl.1 rfl (lv_room (Nat.le_of_ble_eq_true rfl)) dX4_join_1 ⟨by first | exact Nat.zero_le _ | omega, by first | exact Nat.zero_le _ | omega⟩) hP hD hS hA [0] [] rfl rfl rfl (by decide) (fun rv _ H locs hu hP hD hS => ?_)
  subst hu
  have hP : va_P g vwCl [(rm, .inr (4, [.int (nI 1), .ref a1, .ref a2, .ref a3, .ref a4, .ref a5, .ref a6, .ref a7, .ref a8, .ref a9, .int (nI 0), .int (nI mn), .ref b1, .int (nI bl), .ref b2, .ref b3, .int (nI jn), .int (nI sn), .ref b4, .ref b5, .ref b6, .ref b7, .ref b8, .int (nI wt), .int (nI wm), .int (nI wg), .long (lN wo), .int (nI wd), .ref b9]))] H := hP
  have hD : va_D A [(rm, .inr (4, [.int (nI 1), .ref a1, .ref a2, .ref a3, .ref a4, .ref a5, .ref a6, .ref a7, .ref a8, .ref a9, .int (nI 0), .int (nI mn), .ref b1, .int (nI bl), .ref b2, .ref b3, .int (nI jn), .int (nI sn), .ref b4, .ref b5, .ref b6, .ref b7, .ref b8, .int (nI wt), .int (nI wm), .int (nI wg), .long (lN wo), .int (nI wd), .ref b9]))] := hD
  refine n_if_eq (tgt := 14) hx hb dX4_join_4 (by decide) (by first | assumption | omega) (fun c1 => ?_) (fun c1 => ?_)
  · skip
    refine lv_iconst (v := nI 0) hx hb dX4_join_14 (by decide) ?_
    refine W.widen (k := 0) (n := 0) (by first | exact Nat.le_refl _ | omega) (by first | exact Nat.le_refl _ | omega) ?_
    exact k_retI (sz := 0) (v := nI 0) hx hb hr hlocks hAe hS hP hD () (rfl) (rfl) dX4_join_15
  · exact (by exact absurd c1 (by decide))
set_option maxHeartbeats 4000000 in
set_option maxRecDepth 100000 in
theorem c_X4_nodes_0 (l : Launch) (g : va_G) (cI cJ cZ : ClassId) (rm a1 a2 a3 a4 a5 a6 a7 a8 a9 b1 b2 b3 b4 b5 b6 b7 b8 b9 : Nat) (cd mn bl jn sn wt wm wg wo wd : Nat) (v v2 : Int32)  : kI l g (kty cI cJ cZ) yX4_nodes wsX4_nodes ({ frames := 1, cells := 0, slots := 0, locals := 20 }) [.ref rm, .int v, .int v2] [(rm, .inr (4, [.int (nI cd), .ref a1, .ref a2, .ref a3, .ref a4, .ref a5, .ref a6, .ref a7, .ref a8, .ref a9, .int (nI 0), .int (nI mn), .ref b1, .int (nI bl), .ref b2, .ref b3, .int (nI jn), .int (nI sn), .ref b4, .ref b5, .ref b6, .ref b7, .ref b8, .int (nI wt), .int (nI wm), .int (nI wg), .long (lN wo), .int (nI wd), .ref b9]))] (S := Unit) (fun r _ => r = nI 0) (fun u => [(rm, .inr (4, [.int (nI 1), .ref a1, .ref a2, .ref a3, .ref a4, .ref a5, .ref a6, .ref a7, .ref a8, .ref a9, .int (nI 0), .int (nI mn), .ref b1, .int (nI bl), .ref b2, .ref b3, .int (nI jn), .int (nI sn), .ref b4, .ref b5, .ref b6, .ref b7, .ref b8, .int (nI wt), .int (nI wm), .int (nI wg), .long (lN wo), .int (nI wd), .ref b9]))]) 0 0 := by
  intro sz
  refine Met.ofW (cc := cX4_nodes) (maxL := 6) (ret := (some .int)) (by decide) rfl ?_
  intro p e s m args below meth c s₁ B hml hv
  obtain ⟨rfl, hsz, hP, hk, hD0⟩ := hv
  subst hsz
  have hx := B.exec
  have hb := B.bytes
  have hr := B.returns
  have hts := atoms_spec (ws := wsX4_nodes) B.pre
  have hown : s.vm.findClass RX4 = some m.cls := findClass_of_methodNamed B.named
  have hlocks := B.notSynchronized
  have hK := hk.1
  obtain ⟨A, hAe⟩ : ∃ A, va_A [(rm, .inr (4, [.int (nI cd), .ref a1, .ref a2, .ref a3, .ref a4, .ref a5, .ref a6, .ref a7, .ref a8, .ref a9, .int (nI 0), .int (nI mn), .ref b1, .int (nI bl), .ref b2, .ref b3, .int (nI jn), .int (nI sn), .ref b4, .ref b5, .ref b6, .ref b7, .ref b8, .int (nI wt), .int (nI wm), .int (nI wg), .long (lN wo), .int (nI wd), .ref b9]))] s.heap.size = A := ⟨_, rfl⟩
  have hD := hD0.self (sz := s.heap.size)
  rw [hAe] at hD
  have hA : ∀ q : Nat, s.heap.size ≤ q → A q := fun q h => by rw [← hAe]; exact Or.inr h
  have hS : va_S A s.heap s.heap [] := va_S.rf
  have hl := lv_entry ([.ref rm, .int v, .int v2]) (n := 6) (Nat.le_of_ble_eq_true rfl)
  rw [lg_entry_eq]
  generalize (lg_sl ([.ref rm, .int v, .int v2]) ++ List.replicate (6 - (lg_sl ([.ref rm, .int v, .int v2])).length) Slot.unset).toArray = ls at hl ⊢
  have hl : lv_has ls 6 [(0, .ref rm), (1, .int v), (2, .int v2)] := hl
  refine lv_aload_n hx hb dX4_nodes_0 rfl (lv_at hl 0 rfl) ?_
  refine k_goI (wr := []) (va_runV (As := []) (rest := []) ⟨hx, hb, hml, hown, hts⟩ (c_X4_isThere_n l g cI cJ cZ rm a1 a2 a3 a4 a5 a6 a7 a8 a9 b1 b2 b3 b4 b5 b6 b7 b8 b9 cd mn bl jn sn wt wm wg wo wd   _) (cwV 0 hts gX4_nodes_X4_isThere rfl rfl rfl (by decide +kernel) ⟨Nat.le_of_ble_eq_true rfl, Nat.le_of_ble_eq_true rfl⟩) (k_preV hk hP hD [0] rfl rfl (ci := 4) (q0 := 0) rfl rfl) rfl rfl hl.1 rfl (lv_room (Nat.le_of_ble_eq_true rfl)) dX4_nodes_1 ⟨by first | exact Nat.zero_le _ | omega, by first | exact Nat.zero_le _ | omega⟩) hP hD hS hA [0] [] rfl rfl rfl (by decide) (fun rv _ H locs hu hP hD hS => ?_)
  subst hu
  have hP : va_P g vwCl [(rm, .inr (4, [.int (nI 1), .ref a1, .ref a2, .ref a3, .ref a4, .ref a5, .ref a6, .ref a7, .ref a8, .ref a9, .int (nI 0), .int (nI mn), .ref b1, .int (nI bl), .ref b2, .ref b3, .int (nI jn), .int (nI sn), .ref b4, .ref b5, .ref b6, .ref b7, .ref b8, .int (nI wt), .int (nI wm), .int (nI wg), .long (lN wo), .int (nI wd), .ref b9]))] H := hP
  have hD : va_D A [(rm, .inr (4, [.int (nI 1), .ref a1, .ref a2, .ref a3, .ref a4, .ref a5, .ref a6, .ref a7, .ref a8, .ref a9, .int (nI 0), .int (nI mn), .ref b1, .int (nI bl), .ref b2, .ref b3, .int (nI jn), .int (nI sn), .ref b4, .ref b5, .ref b6, .ref b7, .ref b8, .int (nI wt), .int (nI wm), .int (nI wg), .long (lN wo), .int (nI wd), .ref b9]))] := hD
  refine n_if_ne (tgt := 9) hx hb dX4_nodes_4 (by decide) (by first | assumption | omega) (fun c1 => ?_) (fun c1 => ?_)
  · exact (by exact absurd c1 (by decide))
  · skip
    refine lv_iconst (v := nI 0) hx hb dX4_nodes_7 (by decide) ?_
    refine W.widen (k := 0) (n := 0) (by first | exact Nat.le_refl _ | omega) (by first | exact Nat.le_refl _ | omega) ?_
    exact k_retI (sz := 0) (v := nI 0) hx hb hr hlocks hAe hS hP hD () (rfl) (rfl) dX4_nodes_8
set_option maxHeartbeats 4000000 in
set_option maxRecDepth 100000 in
theorem c_X4_leaf_0 (l : Launch) (g : va_G) (cI cJ cZ : ClassId) (rm a1 a2 a3 a4 a5 a6 a7 a8 a9 b1 b2 b3 b4 b5 b6 b7 b8 b9 : Nat) (cd mn bl jn sn wt wm wg wo wd : Nat) (v v2 : Int32)  : kI l g (kty cI cJ cZ) yX4_leaf wsX4_leaf ({ frames := 1, cells := 0, slots := 0, locals := 20 }) [.ref rm, .int v, .int v2] [(rm, .inr (4, [.int (nI cd), .ref a1, .ref a2, .ref a3, .ref a4, .ref a5, .ref a6, .ref a7, .ref a8, .ref a9, .int (nI 0), .int (nI mn), .ref b1, .int (nI bl), .ref b2, .ref b3, .int (nI jn), .int (nI sn), .ref b4, .ref b5, .ref b6, .ref b7, .ref b8, .int (nI wt), .int (nI wm), .int (nI wg), .long (lN wo), .int (nI wd), .ref b9]))] (S := Unit) (fun r _ => r = nI 0) (fun u => [(rm, .inr (4, [.int (nI 1), .ref a1, .ref a2, .ref a3, .ref a4, .ref a5, .ref a6, .ref a7, .ref a8, .ref a9, .int (nI 0), .int (nI mn), .ref b1, .int (nI bl), .ref b2, .ref b3, .int (nI jn), .int (nI sn), .ref b4, .ref b5, .ref b6, .ref b7, .ref b8, .int (nI wt), .int (nI wm), .int (nI wg), .long (lN wo), .int (nI wd), .ref b9]))]) 0 0 := by
  intro sz
  refine Met.ofW (cc := cX4_leaf) (maxL := 3) (ret := (some .int)) (by decide) rfl ?_
  intro p e s m args below meth c s₁ B hml hv
  obtain ⟨rfl, hsz, hP, hk, hD0⟩ := hv
  subst hsz
  have hx := B.exec
  have hb := B.bytes
  have hr := B.returns
  have hts := atoms_spec (ws := wsX4_leaf) B.pre
  have hown : s.vm.findClass RX4 = some m.cls := findClass_of_methodNamed B.named
  have hlocks := B.notSynchronized
  have hK := hk.1
  obtain ⟨A, hAe⟩ : ∃ A, va_A [(rm, .inr (4, [.int (nI cd), .ref a1, .ref a2, .ref a3, .ref a4, .ref a5, .ref a6, .ref a7, .ref a8, .ref a9, .int (nI 0), .int (nI mn), .ref b1, .int (nI bl), .ref b2, .ref b3, .int (nI jn), .int (nI sn), .ref b4, .ref b5, .ref b6, .ref b7, .ref b8, .int (nI wt), .int (nI wm), .int (nI wg), .long (lN wo), .int (nI wd), .ref b9]))] s.heap.size = A := ⟨_, rfl⟩
  have hD := hD0.self (sz := s.heap.size)
  rw [hAe] at hD
  have hA : ∀ q : Nat, s.heap.size ≤ q → A q := fun q h => by rw [← hAe]; exact Or.inr h
  have hS : va_S A s.heap s.heap [] := va_S.rf
  have hl := lv_entry ([.ref rm, .int v, .int v2]) (n := 3) (Nat.le_of_ble_eq_true rfl)
  rw [lg_entry_eq]
  generalize (lg_sl ([.ref rm, .int v, .int v2]) ++ List.replicate (3 - (lg_sl ([.ref rm, .int v, .int v2])).length) Slot.unset).toArray = ls at hl ⊢
  have hl : lv_has ls 3 [(0, .ref rm), (1, .int v), (2, .int v2)] := hl
  refine lv_aload_n hx hb dX4_leaf_0 rfl (lv_at hl 0 rfl) ?_
  refine k_goI (wr := []) (va_runV (As := []) (rest := []) ⟨hx, hb, hml, hown, hts⟩ (c_X4_isThere_n l g cI cJ cZ rm a1 a2 a3 a4 a5 a6 a7 a8 a9 b1 b2 b3 b4 b5 b6 b7 b8 b9 cd mn bl jn sn wt wm wg wo wd   _) (cwV 0 hts gX4_leaf_X4_isThere rfl rfl rfl (by decide +kernel) ⟨Nat.le_of_ble_eq_true rfl, Nat.le_of_ble_eq_true rfl⟩) (k_preV hk hP hD [0] rfl rfl (ci := 4) (q0 := 0) rfl rfl) rfl rfl hl.1 rfl (lv_room (Nat.le_of_ble_eq_true rfl)) dX4_leaf_1 ⟨by first | exact Nat.zero_le _ | omega, by first | exact Nat.zero_le _ | omega⟩) hP hD hS hA [0] [] rfl rfl rfl (by decide) (fun rv _ H locs hu hP hD hS => ?_)
  subst hu
  have hP : va_P g vwCl [(rm, .inr (4, [.int (nI 1), .ref a1, .ref a2, .ref a3, .ref a4, .ref a5, .ref a6, .ref a7, .ref a8, .ref a9, .int (nI 0), .int (nI mn), .ref b1, .int (nI bl), .ref b2, .ref b3, .int (nI jn), .int (nI sn), .ref b4, .ref b5, .ref b6, .ref b7, .ref b8, .int (nI wt), .int (nI wm), .int (nI wg), .long (lN wo), .int (nI wd), .ref b9]))] H := hP
  have hD : va_D A [(rm, .inr (4, [.int (nI 1), .ref a1, .ref a2, .ref a3, .ref a4, .ref a5, .ref a6, .ref a7, .ref a8, .ref a9, .int (nI 0), .int (nI mn), .ref b1, .int (nI bl), .ref b2, .ref b3, .int (nI jn), .int (nI sn), .ref b4, .ref b5, .ref b6, .ref b7, .ref b8, .int (nI wt), .int (nI wm), .int (nI wg), .long (lN wo), .int (nI wd), .ref b9]))] := hD
  refine n_if_ne (tgt := 9) hx hb dX4_leaf_4 (by decide) (by first | assumption | omega) (fun c1 => ?_) (fun c1 => ?_)
  · exact (by exact absurd c1 (by decide))
  · skip
    refine lv_iconst (v := nI 0) hx hb dX4_leaf_7 (by decide) ?_
    refine W.widen (k := 0) (n := 0) (by first | exact Nat.le_refl _ | omega) (by first | exact Nat.le_refl _ | omega) ?_
    exact k_retI (sz := 0) (v := nI 0) hx hb hr hlocks hAe hS hP hD () (rfl) (rfl) dX4_leaf_8
set_option maxHeartbeats 4000000 in
set_option maxRecDepth 100000 in
theorem c_X4_count_0 (l : Launch) (g : va_G) (cI cJ cZ : ClassId) (rm a1 a2 a3 a4 a5 a6 a7 a8 a9 b1 b2 b3 b4 b5 b6 b7 b8 b9 : Nat) (cd mn bl jn sn wt wm wg wo wd : Nat) (v : Int32)  : kI l g (kty cI cJ cZ) yX4_count wsX4_count ({ frames := 1, cells := 0, slots := 0, locals := 20 }) [.ref rm, .int v] [(rm, .inr (4, [.int (nI cd), .ref a1, .ref a2, .ref a3, .ref a4, .ref a5, .ref a6, .ref a7, .ref a8, .ref a9, .int (nI 0), .int (nI mn), .ref b1, .int (nI bl), .ref b2, .ref b3, .int (nI jn), .int (nI sn), .ref b4, .ref b5, .ref b6, .ref b7, .ref b8, .int (nI wt), .int (nI wm), .int (nI wg), .long (lN wo), .int (nI wd), .ref b9]))] (S := Unit) (fun r _ => r = nI 0) (fun u => [(rm, .inr (4, [.int (nI 1), .ref a1, .ref a2, .ref a3, .ref a4, .ref a5, .ref a6, .ref a7, .ref a8, .ref a9, .int (nI 0), .int (nI mn), .ref b1, .int (nI bl), .ref b2, .ref b3, .int (nI jn), .int (nI sn), .ref b4, .ref b5, .ref b6, .ref b7, .ref b8, .int (nI wt), .int (nI wm), .int (nI wg), .long (lN wo), .int (nI wd), .ref b9]))]) 0 0 := by
  intro sz
  refine Met.ofW (cc := cX4_count) (maxL := 5) (ret := (some .int)) (by decide) rfl ?_
  intro p e s m args below meth c s₁ B hml hv
  obtain ⟨rfl, hsz, hP, hk, hD0⟩ := hv
  subst hsz
  have hx := B.exec
  have hb := B.bytes
  have hr := B.returns
  have hts := atoms_spec (ws := wsX4_count) B.pre
  have hown : s.vm.findClass RX4 = some m.cls := findClass_of_methodNamed B.named
  have hlocks := B.notSynchronized
  have hK := hk.1
  obtain ⟨A, hAe⟩ : ∃ A, va_A [(rm, .inr (4, [.int (nI cd), .ref a1, .ref a2, .ref a3, .ref a4, .ref a5, .ref a6, .ref a7, .ref a8, .ref a9, .int (nI 0), .int (nI mn), .ref b1, .int (nI bl), .ref b2, .ref b3, .int (nI jn), .int (nI sn), .ref b4, .ref b5, .ref b6, .ref b7, .ref b8, .int (nI wt), .int (nI wm), .int (nI wg), .long (lN wo), .int (nI wd), .ref b9]))] s.heap.size = A := ⟨_, rfl⟩
  have hD := hD0.self (sz := s.heap.size)
  rw [hAe] at hD
  have hA : ∀ q : Nat, s.heap.size ≤ q → A q := fun q h => by rw [← hAe]; exact Or.inr h
  have hS : va_S A s.heap s.heap [] := va_S.rf
  have hl := lv_entry ([.ref rm, .int v]) (n := 5) (Nat.le_of_ble_eq_true rfl)
  rw [lg_entry_eq]
  generalize (lg_sl ([.ref rm, .int v]) ++ List.replicate (5 - (lg_sl ([.ref rm, .int v])).length) Slot.unset).toArray = ls at hl ⊢
  have hl : lv_has ls 5 [(0, .ref rm), (1, .int v)] := hl
  refine lv_aload_n hx hb dX4_count_0 rfl (lv_at hl 0 rfl) ?_
  refine k_goI (wr := []) (va_runV (As := []) (rest := []) ⟨hx, hb, hml, hown, hts⟩ (c_X4_isThere_n l g cI cJ cZ rm a1 a2 a3 a4 a5 a6 a7 a8 a9 b1 b2 b3 b4 b5 b6 b7 b8 b9 cd mn bl jn sn wt wm wg wo wd   _) (cwV 0 hts gX4_count_X4_isThere rfl rfl rfl (by decide +kernel) ⟨Nat.le_of_ble_eq_true rfl, Nat.le_of_ble_eq_true rfl⟩) (k_preV hk hP hD [0] rfl rfl (ci := 4) (q0 := 0) rfl rfl) rfl rfl hl.1 rfl (lv_room (Nat.le_of_ble_eq_true rfl)) dX4_count_1 ⟨by first | exact Nat.zero_le _ | omega, by first | exact Nat.zero_le _ | omega⟩) hP hD hS hA [0] [] rfl rfl rfl (by decide) (fun rv _ H locs hu hP hD hS => ?_)
  subst hu
  have hP : va_P g vwCl [(rm, .inr (4, [.int (nI 1), .ref a1, .ref a2, .ref a3, .ref a4, .ref a5, .ref a6, .ref a7, .ref a8, .ref a9, .int (nI 0), .int (nI mn), .ref b1, .int (nI bl), .ref b2, .ref b3, .int (nI jn), .int (nI sn), .ref b4, .ref b5, .ref b6, .ref b7, .ref b8, .int (nI wt), .int (nI wm), .int (nI wg), .long (lN wo), .int (nI wd), .ref b9]))] H := hP
  have hD : va_D A [(rm, .inr (4, [.int (nI 1), .ref a1, .ref a2, .ref a3, .ref a4, .ref a5, .ref a6, .ref a7, .ref a8, .ref a9, .int (nI 0), .int (nI mn), .ref b1, .int (nI bl), .ref b2, .ref b3, .int (nI jn), .int (nI sn), .ref b4, .ref b5, .ref b6, .ref b7, .ref b8, .int (nI wt), .int (nI wm), .int (nI wg), .long (lN wo), .int (nI wd), .ref b9]))] := hD
  refine n_if_ne (tgt := 9) hx hb dX4_count_4 (by decide) (by first | assumption | omega) (fun c1 => ?_) (fun c1 => ?_)
  · exact (by exact absurd c1 (by decide))
  · skip
    refine lv_iconst (v := nI 0) hx hb dX4_count_7 (by decide) ?_
    refine W.widen (k := 0) (n := 0) (by first | exact Nat.le_refl _ | omega) (by first | exact Nat.le_refl _ | omega) ?_
    exact k_retI (sz := 0) (v := nI 0) hx hb hr hlocks hAe hS hP hD () (rfl) (rfl) dX4_count_8
set_option maxHeartbeats 4000000 in
set_option maxRecDepth 100000 in
theorem c_X4_room_0 (l : Launch) (g : va_G) (cI cJ cZ : ClassId) (rm a1 a2 a3 a4 a5 a6 a7 a8 a9 b1 b2 b3 b4 b5 b6 b7 b8 b9 : Nat) (cd mn bl jn sn wt wm wg wo wd : Nat) (v : Int32)  : kI l g (kty cI cJ cZ) yX4_room wsX4_room ({ frames := 1, cells := 0, slots := 0, locals := 20 }) [.ref rm, .int v] [(rm, .inr (4, [.int (nI cd), .ref a1, .ref a2, .ref a3, .ref a4, .ref a5, .ref a6, .ref a7, .ref a8, .ref a9, .int (nI 0), .int (nI mn), .ref b1, .int (nI bl), .ref b2, .ref b3, .int (nI jn), .int (nI sn), .ref b4, .ref b5, .ref b6, .ref b7, .ref b8, .int (nI wt), .int (nI wm), .int (nI wg), .long (lN wo), .int (nI wd), .ref b9]))] (S := Unit) (fun r _ => r = nI 0) (fun u => [(rm, .inr (4, [.int (nI 1), .ref a1, .ref a2, .ref a3, .ref a4, .ref a5, .ref a6, .ref a7, .ref a8, .ref a9, .int (nI 0), .int (nI mn), .ref b1, .int (nI bl), .ref b2, .ref b3, .int (nI jn), .int (nI sn), .ref b4, .ref b5, .ref b6, .ref b7, .ref b8, .int (nI wt), .int (nI wm), .int (nI wg), .long (lN wo), .int (nI wd), .ref b9]))]) 0 0 := by
  intro sz
  refine Met.ofW (cc := cX4_room) (maxL := 2) (ret := (some .int)) (by decide) rfl ?_
  intro p e s m args below meth c s₁ B hml hv
  obtain ⟨rfl, hsz, hP, hk, hD0⟩ := hv
  subst hsz
  have hx := B.exec
  have hb := B.bytes
  have hr := B.returns
  have hts := atoms_spec (ws := wsX4_room) B.pre
  have hown : s.vm.findClass RX4 = some m.cls := findClass_of_methodNamed B.named
  have hlocks := B.notSynchronized
  have hK := hk.1
  obtain ⟨A, hAe⟩ : ∃ A, va_A [(rm, .inr (4, [.int (nI cd), .ref a1, .ref a2, .ref a3, .ref a4, .ref a5, .ref a6, .ref a7, .ref a8, .ref a9, .int (nI 0), .int (nI mn), .ref b1, .int (nI bl), .ref b2, .ref b3, .int (nI jn), .int (nI sn), .ref b4, .ref b5, .ref b6, .ref b7, .ref b8, .int (nI wt), .int (nI wm), .int (nI wg), .long (lN wo), .int (nI wd), .ref b9]))] s.heap.size = A := ⟨_, rfl⟩
  have hD := hD0.self (sz := s.heap.size)
  rw [hAe] at hD
  have hA : ∀ q : Nat, s.heap.size ≤ q → A q := fun q h => by rw [← hAe]; exact Or.inr h
  have hS : va_S A s.heap s.heap [] := va_S.rf
  have hl := lv_entry ([.ref rm, .int v]) (n := 2) (Nat.le_of_ble_eq_true rfl)
  rw [lg_entry_eq]
  generalize (lg_sl ([.ref rm, .int v]) ++ List.replicate (2 - (lg_sl ([.ref rm, .int v])).length) Slot.unset).toArray = ls at hl ⊢
  have hl : lv_has ls 2 [(0, .ref rm), (1, .int v)] := hl
  refine lv_aload_n hx hb dX4_room_0 rfl (lv_at hl 0 rfl) ?_
  refine k_goI (wr := []) (va_runV (As := []) (rest := []) ⟨hx, hb, hml, hown, hts⟩ (c_X4_isThere_n l g cI cJ cZ rm a1 a2 a3 a4 a5 a6 a7 a8 a9 b1 b2 b3 b4 b5 b6 b7 b8 b9 cd mn bl jn sn wt wm wg wo wd   _) (cwV 0 hts gX4_room_X4_isThere rfl rfl rfl (by decide +kernel) ⟨Nat.le_of_ble_eq_true rfl, Nat.le_of_ble_eq_true rfl⟩) (k_preV hk hP hD [0] rfl rfl (ci := 4) (q0 := 0) rfl rfl) rfl rfl hl.1 rfl (lv_room (Nat.le_of_ble_eq_true rfl)) dX4_room_1 ⟨by first | exact Nat.zero_le _ | omega, by first | exact Nat.zero_le _ | omega⟩) hP hD hS hA [0] [] rfl rfl rfl (by decide) (fun rv _ H locs hu hP hD hS => ?_)
  subst hu
  have hP : va_P g vwCl [(rm, .inr (4, [.int (nI 1), .ref a1, .ref a2, .ref a3, .ref a4, .ref a5, .ref a6, .ref a7, .ref a8, .ref a9, .int (nI 0), .int (nI mn), .ref b1, .int (nI bl), .ref b2, .ref b3, .int (nI jn), .int (nI sn), .ref b4, .ref b5, .ref b6, .ref b7, .ref b8, .int (nI wt), .int (nI wm), .int (nI wg), .long (lN wo), .int (nI wd), .ref b9]))] H := hP
  have hD : va_D A [(rm, .inr (4, [.int (nI 1), .ref a1, .ref a2, .ref a3, .ref a4, .ref a5, .ref a6, .ref a7, .ref a8, .ref a9, .int (nI 0), .int (nI mn), .ref b1, .int (nI bl), .ref b2, .ref b3, .int (nI jn), .int (nI sn), .ref b4, .ref b5, .ref b6, .ref b7, .ref b8, .int (nI wt), .int (nI wm), .int (nI wg), .long (lN wo), .int (nI wd), .ref b9]))] := hD
  refine n_if_ne (tgt := 9) hx hb dX4_room_4 (by decide) (by first | assumption | omega) (fun c1 => ?_) (fun c1 => ?_)
  · exact (by exact absurd c1 (by decide))
  · skip
    refine lv_iconst (v := nI 0) hx hb dX4_room_7 (by decide) ?_
    refine W.widen (k := 0) (n := 0) (by first | exact Nat.le_refl _ | omega) (by first | exact Nat.le_refl _ | omega) ?_
    exact k_retI (sz := 0) (v := nI 0) hx hb hr hlocks hAe hS hP hD () (rfl) (rfl) dX4_room_8
set_option maxHeartbeats 4000000 in
set_option maxRecDepth 100000 in
theorem c_X4_replay_0 (l : Launch) (g : va_G) (cI cJ cZ : ClassId) (rm a1 a2 a3 a4 a5 a6 a7 a8 a9 b1 b2 b3 b4 b5 b6 b7 b8 b9 : Nat) (cd mn bl jn sn wt wm wg wo wd : Nat) (v : Int32)  : kI l g (kty cI cJ cZ) yX4_replay wsX4_replay ({ frames := 1, cells := 0, slots := 0, locals := 20 }) [.ref rm, .int v] [(rm, .inr (4, [.int (nI cd), .ref a1, .ref a2, .ref a3, .ref a4, .ref a5, .ref a6, .ref a7, .ref a8, .ref a9, .int (nI 0), .int (nI mn), .ref b1, .int (nI bl), .ref b2, .ref b3, .int (nI jn), .int (nI sn), .ref b4, .ref b5, .ref b6, .ref b7, .ref b8, .int (nI wt), .int (nI wm), .int (nI wg), .long (lN wo), .int (nI wd), .ref b9]))] (S := Unit) (fun r _ => r = nI 0) (fun u => [(rm, .inr (4, [.int (nI 1), .ref a1, .ref a2, .ref a3, .ref a4, .ref a5, .ref a6, .ref a7, .ref a8, .ref a9, .int (nI 0), .int (nI mn), .ref b1, .int (nI bl), .ref b2, .ref b3, .int (nI jn), .int (nI sn), .ref b4, .ref b5, .ref b6, .ref b7, .ref b8, .int (nI wt), .int (nI wm), .int (nI wg), .long (lN wo), .int (nI wd), .ref b9]))]) 0 0 := by
  intro sz
  refine Met.ofW (cc := cX4_replay) (maxL := 5) (ret := (some .int)) (by decide) rfl ?_
  intro p e s m args below meth c s₁ B hml hv
  obtain ⟨rfl, hsz, hP, hk, hD0⟩ := hv
  subst hsz
  have hx := B.exec
  have hb := B.bytes
  have hr := B.returns
  have hts := atoms_spec (ws := wsX4_replay) B.pre
  have hown : s.vm.findClass RX4 = some m.cls := findClass_of_methodNamed B.named
  have hlocks := B.notSynchronized
  have hK := hk.1
  obtain ⟨A, hAe⟩ : ∃ A, va_A [(rm, .inr (4, [.int (nI cd), .ref a1, .ref a2, .ref a3, .ref a4, .ref a5, .ref a6, .ref a7, .ref a8, .ref a9, .int (nI 0), .int (nI mn), .ref b1, .int (nI bl), .ref b2, .ref b3, .int (nI jn), .int (nI sn), .ref b4, .ref b5, .ref b6, .ref b7, .ref b8, .int (nI wt), .int (nI wm), .int (nI wg), .long (lN wo), .int (nI wd), .ref b9]))] s.heap.size = A := ⟨_, rfl⟩
  have hD := hD0.self (sz := s.heap.size)
  rw [hAe] at hD
  have hA : ∀ q : Nat, s.heap.size ≤ q → A q := fun q h => by rw [← hAe]; exact Or.inr h
  have hS : va_S A s.heap s.heap [] := va_S.rf
  have hl := lv_entry ([.ref rm, .int v]) (n := 5) (Nat.le_of_ble_eq_true rfl)
  rw [lg_entry_eq]
  generalize (lg_sl ([.ref rm, .int v]) ++ List.replicate (5 - (lg_sl ([.ref rm, .int v])).length) Slot.unset).toArray = ls at hl ⊢
  have hl : lv_has ls 5 [(0, .ref rm), (1, .int v)] := hl
  refine lv_aload_n hx hb dX4_replay_0 rfl (lv_at hl 0 rfl) ?_
  refine k_goI (wr := []) (va_runV (As := []) (rest := []) ⟨hx, hb, hml, hown, hts⟩ (c_X4_isThere_n l g cI cJ cZ rm a1 a2 a3 a4 a5 a6 a7 a8 a9 b1 b2 b3 b4 b5 b6 b7 b8 b9 cd mn bl jn sn wt wm wg wo wd   _) (cwV 0 hts gX4_replay_X4_isThere rfl rfl rfl (by decide +kernel) ⟨Nat.le_of_ble_eq_true rfl, Nat.le_of_ble_eq_true rfl⟩) (k_preV hk hP hD [0] rfl rfl (ci := 4) (q0 := 0) rfl rfl) rfl rfl hl.1 rfl (lv_room (Nat.le_of_ble_eq_true rfl)) dX4_replay_1 ⟨by first | exact Nat.zero_le _ | omega, by first | exact Nat.zero_le _ | omega⟩) hP hD hS hA [0] [] rfl rfl rfl (by decide) (fun rv _ H locs hu hP hD hS => ?_)
  subst hu
  have hP : va_P g vwCl [(rm, .inr (4, [.int (nI 1), .ref a1, .ref a2, .ref a3, .ref a4, .ref a5, .ref a6, .ref a7, .ref a8, .ref a9, .int (nI 0), .int (nI mn), .ref b1, .int (nI bl), .ref b2, .ref b3, .int (nI jn), .int (nI sn), .ref b4, .ref b5, .ref b6, .ref b7, .ref b8, .int (nI wt), .int (nI wm), .int (nI wg), .long (lN wo), .int (nI wd), .ref b9]))] H := hP
  have hD : va_D A [(rm, .inr (4, [.int (nI 1), .ref a1, .ref a2, .ref a3, .ref a4, .ref a5, .ref a6, .ref a7, .ref a8, .ref a9, .int (nI 0), .int (nI mn), .ref b1, .int (nI bl), .ref b2, .ref b3, .int (nI jn), .int (nI sn), .ref b4, .ref b5, .ref b6, .ref b7, .ref b8, .int (nI wt), .int (nI wm), .int (nI wg), .long (lN wo), .int (nI wd), .ref b9]))] := hD
  refine n_if_ne (tgt := 9) hx hb dX4_replay_4 (by decide) (by first | assumption | omega) (fun c1 => ?_) (fun c1 => ?_)
  · exact (by exact absurd c1 (by decide))
  · skip
    refine lv_iconst (v := nI 0) hx hb dX4_replay_7 (by decide) ?_
    refine W.widen (k := 0) (n := 0) (by first | exact Nat.le_refl _ | omega) (by first | exact Nat.le_refl _ | omega) ?_
    exact k_retI (sz := 0) (v := nI 0) hx hb hr hlocks hAe hS hP hD () (rfl) (rfl) dX4_replay_8
set_option maxHeartbeats 4000000 in
set_option maxRecDepth 100000 in
theorem c_X4_give_f (l : Launch) (g : va_G) (cI cJ cZ : ClassId) (rm a1 a2 a3 a4 a5 a6 a7 a8 a9 b1 b2 b3 b4 b5 b6 b7 b8 b9 : Nat) (cd tp mn jn sn wt wm wg wo wd : Nat) (v : Int32) (htp : 0 < tp ∧ tp < 2 ^ 31) : kI l g (kty cI cJ cZ) yX4_give wsX4_give ({ frames := 1, cells := 0, slots := 0, locals := 21 }) [.ref rm, .int v] [(rm, .inr (4, [.int (nI cd), .ref a1, .ref a2, .ref a3, .ref a4, .ref a5, .ref a6, .ref a7, .ref a8, .ref a9, .int (nI tp), .int (nI mn), .ref b1, .int (nI 256), .ref b2, .ref b3, .int (nI jn), .int (nI sn), .ref b4, .ref b5, .ref b6, .ref b7, .ref b8, .int (nI wt), .int (nI wm), .int (nI wg), .long (lN wo), .int (nI wd), .ref b9]))] (S := Unit) (fun r _ => r = nI 0) (fun u => [(rm, .inr (4, [.int (nI 1), .ref a1, .ref a2, .ref a3, .ref a4, .ref a5, .ref a6, .ref a7, .ref a8, .ref a9, .int (nI tp), .int (nI mn), .ref b1, .int (nI 256), .ref b2, .ref b3, .int (nI jn), .int (nI sn), .ref b4, .ref b5, .ref b6, .ref b7, .ref b8, .int (nI wt), .int (nI wm), .int (nI wg), .long (lN wo), .int (nI wd), .ref b9]))]) 0 0 := by
  intro sz
  refine Met.ofW (cc := cX4_give) (maxL := 2) (ret := (some .int)) (by decide) rfl ?_
  intro p e s m args below meth c s₁ B hml hv
  obtain ⟨rfl, hsz, hP, hk, hD0⟩ := hv
  subst hsz
  have hx := B.exec
  have hb := B.bytes
  have hr := B.returns
  have hts := atoms_spec (ws := wsX4_give) B.pre
  have hown : s.vm.findClass RX4 = some m.cls := findClass_of_methodNamed B.named
  have hlocks := B.notSynchronized
  have hK := hk.1
  have hinX4 : ∀ w ∈ wsX40, w ∈ wsX4_give := by decide +kernel
  obtain ⟨A, hAe⟩ : ∃ A, va_A [(rm, .inr (4, [.int (nI cd), .ref a1, .ref a2, .ref a3, .ref a4, .ref a5, .ref a6, .ref a7, .ref a8, .ref a9, .int (nI tp), .int (nI mn), .ref b1, .int (nI 256), .ref b2, .ref b3, .int (nI jn), .int (nI sn), .ref b4, .ref b5, .ref b6, .ref b7, .ref b8, .int (nI wt), .int (nI wm), .int (nI wg), .long (lN wo), .int (nI wd), .ref b9]))] s.heap.size = A := ⟨_, rfl⟩
  have hD := hD0.self (sz := s.heap.size)
  rw [hAe] at hD
  have hA : ∀ q : Nat, s.heap.size ≤ q → A q := fun q h => by rw [← hAe]; exact Or.inr h
  have hS : va_S A s.heap s.heap [] := va_S.rf
  have hl := lv_entry ([.ref rm, .int v]) (n := 2) (Nat.le_of_ble_eq_true rfl)
  rw [lg_entry_eq]
  generalize (lg_sl ([.ref rm, .int v]) ++ List.replicate (2 - (lg_sl ([.ref rm, .int v])).length) Slot.unset).toArray = ls at hl ⊢
  have hl : lv_has ls 2 [(0, .ref rm), (1, .int v)] := hl
  refine lv_aload_n hx hb dX4_give_0 rfl (lv_at hl 0 rfl) ?_
  refine k_goI (wr := []) (va_runV (As := []) (rest := []) ⟨hx, hb, hml, hown, hts⟩ (c_X4_isThere l g cI cJ cZ rm a1 a2 a3 a4 a5 a6 a7 a8 a9 b1 b2 b3 b4 b5 b6 b7 b8 b9 cd tp mn 256 jn sn wt wm wg wo wd  htp _) (cwV 0 hts gX4_give_X4_isThere rfl rfl rfl (by decide +kernel) ⟨Nat.le_of_ble_eq_true rfl, Nat.le_of_ble_eq_true rfl⟩) (k_preV hk hP hD [0] rfl rfl (ci := 4) (q0 := 0) rfl rfl) rfl rfl hl.1 rfl (lv_room (Nat.le_of_ble_eq_true rfl)) dX4_give_1 ⟨by first | exact Nat.zero_le _ | omega, by first | exact Nat.zero_le _ | omega⟩) hP hD hS hA [0] [] rfl rfl rfl (by decide) (fun rv _ H locs hu hP hD hS => ?_)
  subst hu
  have hP : va_P g vwCl [(rm, .inr (4, [.int (nI 0), .ref a1, .ref a2, .ref a3, .ref a4, .ref a5, .ref a6, .ref a7, .ref a8, .ref a9, .int (nI tp), .int (nI mn), .ref b1, .int (nI 256), .ref b2, .ref b3, .int (nI jn), .int (nI sn), .ref b4, .ref b5, .ref b6, .ref b7, .ref b8, .int (nI wt), .int (nI wm), .int (nI wg), .long (lN wo), .int (nI wd), .ref b9]))] H := hP
  have hD : va_D A [(rm, .inr (4, [.int (nI 0), .ref a1, .ref a2, .ref a3, .ref a4, .ref a5, .ref a6, .ref a7, .ref a8, .ref a9, .int (nI tp), .int (nI mn), .ref b1, .int (nI 256), .ref b2, .ref b3, .int (nI jn), .int (nI sn), .ref b4, .ref b5, .ref b6, .ref b7, .ref b8, .int (nI wt), .int (nI wm), .int (nI wg), .long (lN wo), .int (nI wd), .ref b9]))] := hD
  refine n_if_ne (tgt := 9) hx hb dX4_give_4 (by decide) (by first | assumption | omega) (fun c1 => ?_) (fun c1 => ?_)
  · skip
    refine lv_aload_n hx hb dX4_give_9 rfl (lv_at hl 0 rfl) ?_
    refine va_get (D := g) (ci := 4) (v := .int (nI 256)) (C := RX4) (T := TX4) (N := 29) hx hb hts hinX4 hown hK hP 0 rfl rfl 13 (by decide) (hts (.fieldLink RX4 103 "BuddyRoofModel" "blocks" "I") (by decide +kernel)) (fun _ h9 => h9) rfl dX4_give_10 ?_
    refine lv_sipush (v := nI 256) hx hb dX4_give_13 (by decide) ?_
    refine n_icmp_ne (tgt := 25) hx hb dX4_give_16 (by decide) (by first | assumption | omega) (by first | assumption | omega) (fun c2 => ?_) (fun c2 => ?_)
    · exact (by exact absurd rfl c2)
    · skip
      refine lv_aload_n hx hb dX4_give_19 rfl (lv_at hl 0 rfl) ?_
      refine lv_iconst (v := nI 1) hx hb dX4_give_20 (by decide) ?_
      refine k_goI (wr := []) (va_runV (As := [.int (nI 1)]) (rest := []) ⟨hx, hb, hml, hown, hts⟩ (c_X4_raise l g cI cJ cZ rm a1 a2 a3 a4 a5 a6 a7 a8 a9 b1 b2 b3 b4 b5 b6 b7 b8 b9 0 tp mn 256 jn sn wt wm wg wo wd 1  _) (cwV 1 hts gX4_give_X4_raise rfl rfl rfl (by decide +kernel) ⟨Nat.le_of_ble_eq_true rfl, Nat.le_of_ble_eq_true rfl⟩) (k_preV hk hP hD [0] rfl rfl (ci := 4) (q0 := 0) rfl rfl) rfl rfl hl.1 rfl (lv_room (Nat.le_of_ble_eq_true rfl)) dX4_give_21 ⟨by first | exact Nat.zero_le _ | omega, by first | exact Nat.zero_le _ | omega⟩) hP hD hS hA [0] [] rfl rfl rfl (by decide) (fun rv _ H locs hu hP hD hS => ?_)
      subst hu
      have hP : va_P g vwCl [(rm, .inr (4, [.int (nI 1), .ref a1, .ref a2, .ref a3, .ref a4, .ref a5, .ref a6, .ref a7, .ref a8, .ref a9, .int (nI tp), .int (nI mn), .ref b1, .int (nI 256), .ref b2, .ref b3, .int (nI jn), .int (nI sn), .ref b4, .ref b5, .ref b6, .ref b7, .ref b8, .int (nI wt), .int (nI wm), .int (nI wg), .long (lN wo), .int (nI wd), .ref b9]))] H := hP
      have hD : va_D A [(rm, .inr (4, [.int (nI 1), .ref a1, .ref a2, .ref a3, .ref a4, .ref a5, .ref a6, .ref a7, .ref a8, .ref a9, .int (nI tp), .int (nI mn), .ref b1, .int (nI 256), .ref b2, .ref b3, .int (nI jn), .int (nI sn), .ref b4, .ref b5, .ref b6, .ref b7, .ref b8, .int (nI wt), .int (nI wm), .int (nI wg), .long (lN wo), .int (nI wd), .ref b9]))] := hD
      refine W.widen (k := 0) (n := 0) (by first | exact Nat.le_refl _ | omega) (by first | exact Nat.le_refl _ | omega) ?_
      exact k_retI (sz := 0) (v := nI 0) hx hb hr hlocks hAe hS hP hD () (rfl) (rfl) dX4_give_24
  · exact (by exact absurd c1 (by decide))
set_option maxHeartbeats 4000000 in
set_option maxRecDepth 100000 in
theorem c_X4_give_w (l : Launch) (g : va_G) (cI cJ cZ : ClassId) (rm a1 a2 a3 a4 a5 a6 a7 a8 a9 b1 b2 b3 b4 b5 b6 b7 b8 b9 : Nat) (cd tp mn bl jn sn wt wm wg wo wd : Nat) (v : Int32) (htp : 0 < tp ∧ tp < 2 ^ 31) (hbl : bl < 256) (hv : ¬ nI 1 ≤ v) : kI l g (kty cI cJ cZ) yX4_give wsX4_give ({ frames := 1, cells := 0, slots := 0, locals := 21 }) [.ref rm, .int v] [(rm, .inr (4, [.int (nI cd), .ref a1, .ref a2, .ref a3, .ref a4, .ref a5, .ref a6, .ref a7, .ref a8, .ref a9, .int (nI tp), .int (nI mn), .ref b1, .int (nI bl), .ref b2, .ref b3, .int (nI jn), .int (nI sn), .ref b4, .ref b5, .ref b6, .ref b7, .ref b8, .int (nI wt), .int (nI wm), .int (nI wg), .long (lN wo), .int (nI wd), .ref b9]))] (S := Unit) (fun r _ => r = nI 0) (fun u => [(rm, .inr (4, [.int (nI 2), .ref a1, .ref a2, .ref a3, .ref a4, .ref a5, .ref a6, .ref a7, .ref a8, .ref a9, .int (nI tp), .int (nI mn), .ref b1, .int (nI bl), .ref b2, .ref b3, .int (nI jn), .int (nI sn), .ref b4, .ref b5, .ref b6, .ref b7, .ref b8, .int (nI wt), .int (nI wm), .int (nI wg), .long (lN wo), .int (nI wd), .ref b9]))]) 0 0 := by
  intro sz
  refine Met.ofW (cc := cX4_give) (maxL := 2) (ret := (some .int)) (by decide) rfl ?_
  intro p e s m args below meth c s₁ B hml hv
  obtain ⟨rfl, hsz, hP, hk, hD0⟩ := hv
  subst hsz
  have hx := B.exec
  have hb := B.bytes
  have hr := B.returns
  have hts := atoms_spec (ws := wsX4_give) B.pre
  have hown : s.vm.findClass RX4 = some m.cls := findClass_of_methodNamed B.named
  have hlocks := B.notSynchronized
  have hK := hk.1
  have hinX4 : ∀ w ∈ wsX40, w ∈ wsX4_give := by decide +kernel
  obtain ⟨A, hAe⟩ : ∃ A, va_A [(rm, .inr (4, [.int (nI cd), .ref a1, .ref a2, .ref a3, .ref a4, .ref a5, .ref a6, .ref a7, .ref a8, .ref a9, .int (nI tp), .int (nI mn), .ref b1, .int (nI bl), .ref b2, .ref b3, .int (nI jn), .int (nI sn), .ref b4, .ref b5, .ref b6, .ref b7, .ref b8, .int (nI wt), .int (nI wm), .int (nI wg), .long (lN wo), .int (nI wd), .ref b9]))] s.heap.size = A := ⟨_, rfl⟩
  have hD := hD0.self (sz := s.heap.size)
  rw [hAe] at hD
  have hA : ∀ q : Nat, s.heap.size ≤ q → A q := fun q h => by rw [← hAe]; exact Or.inr h
  have hS : va_S A s.heap s.heap [] := va_S.rf
  have hl := lv_entry ([.ref rm, .int v]) (n := 2) (Nat.le_of_ble_eq_true rfl)
  rw [lg_entry_eq]
  generalize (lg_sl ([.ref rm, .int v]) ++ List.replicate (2 - (lg_sl ([.ref rm, .int v])).length) Slot.unset).toArray = ls at hl ⊢
  have hl : lv_has ls 2 [(0, .ref rm), (1, .int v)] := hl
  refine lv_aload_n hx hb dX4_give_0 rfl (lv_at hl 0 rfl) ?_
  refine k_goI (wr := []) (va_runV (As := []) (rest := []) ⟨hx, hb, hml, hown, hts⟩ (c_X4_isThere l g cI cJ cZ rm a1 a2 a3 a4 a5 a6 a7 a8 a9 b1 b2 b3 b4 b5 b6 b7 b8 b9 cd tp mn bl jn sn wt wm wg wo wd  htp _) (cwV 0 hts gX4_give_X4_isThere rfl rfl rfl (by decide +kernel) ⟨Nat.le_of_ble_eq_true rfl, Nat.le_of_ble_eq_true rfl⟩) (k_preV hk hP hD [0] rfl rfl (ci := 4) (q0 := 0) rfl rfl) rfl rfl hl.1 rfl (lv_room (Nat.le_of_ble_eq_true rfl)) dX4_give_1 ⟨by first | exact Nat.zero_le _ | omega, by first | exact Nat.zero_le _ | omega⟩) hP hD hS hA [0] [] rfl rfl rfl (by decide) (fun rv _ H locs hu hP hD hS => ?_)
  subst hu
  have hP : va_P g vwCl [(rm, .inr (4, [.int (nI 0), .ref a1, .ref a2, .ref a3, .ref a4, .ref a5, .ref a6, .ref a7, .ref a8, .ref a9, .int (nI tp), .int (nI mn), .ref b1, .int (nI bl), .ref b2, .ref b3, .int (nI jn), .int (nI sn), .ref b4, .ref b5, .ref b6, .ref b7, .ref b8, .int (nI wt), .int (nI wm), .int (nI wg), .long (lN wo), .int (nI wd), .ref b9]))] H := hP
  have hD : va_D A [(rm, .inr (4, [.int (nI 0), .ref a1, .ref a2, .ref a3, .ref a4, .ref a5, .ref a6, .ref a7, .ref a8, .ref a9, .int (nI tp), .int (nI mn), .ref b1, .int (nI bl), .ref b2, .ref b3, .int (nI jn), .int (nI sn), .ref b4, .ref b5, .ref b6, .ref b7, .ref b8, .int (nI wt), .int (nI wm), .int (nI wg), .long (lN wo), .int (nI wd), .ref b9]))] := hD
  refine n_if_ne (tgt := 9) hx hb dX4_give_4 (by decide) (by first | assumption | omega) (fun c1 => ?_) (fun c1 => ?_)
  · skip
    refine lv_aload_n hx hb dX4_give_9 rfl (lv_at hl 0 rfl) ?_
    refine va_get (D := g) (ci := 4) (v := .int (nI bl)) (C := RX4) (T := TX4) (N := 29) hx hb hts hinX4 hown hK hP 0 rfl rfl 13 (by decide) (hts (.fieldLink RX4 103 "BuddyRoofModel" "blocks" "I") (by decide +kernel)) (fun _ h9 => h9) rfl dX4_give_10 ?_
    refine lv_sipush (v := nI 256) hx hb dX4_give_13 (by decide) ?_
    refine n_icmp_ne (tgt := 25) hx hb dX4_give_16 (by decide) (by first | assumption | omega) (by first | assumption | omega) (fun c2 => ?_) (fun c2 => ?_)
    · skip
      refine lv_iload_n hx hb dX4_give_25 rfl (lv_at hl 1 rfl) ?_
      refine lv_iconst (v := nI 1) hx hb dX4_give_26 (by decide) ?_
      refine lv_icmp_ge (tgt := 36) hx hb dX4_give_27 (by decide) (fun c3 => ?_) (fun c3 => ?_)
      · exact (by exact absurd c3 hv)
      · skip
        refine lv_aload_n hx hb dX4_give_30 rfl (lv_at hl 0 rfl) ?_
        refine lv_iconst (v := nI 2) hx hb dX4_give_31 (by decide) ?_
        refine k_goI (wr := []) (va_runV (As := [.int (nI 2)]) (rest := []) ⟨hx, hb, hml, hown, hts⟩ (c_X4_raise l g cI cJ cZ rm a1 a2 a3 a4 a5 a6 a7 a8 a9 b1 b2 b3 b4 b5 b6 b7 b8 b9 0 tp mn bl jn sn wt wm wg wo wd 2  _) (cwV 1 hts gX4_give_X4_raise rfl rfl rfl (by decide +kernel) ⟨Nat.le_of_ble_eq_true rfl, Nat.le_of_ble_eq_true rfl⟩) (k_preV hk hP hD [0] rfl rfl (ci := 4) (q0 := 0) rfl rfl) rfl rfl hl.1 rfl (lv_room (Nat.le_of_ble_eq_true rfl)) dX4_give_32 ⟨by first | exact Nat.zero_le _ | omega, by first | exact Nat.zero_le _ | omega⟩) hP hD hS hA [0] [] rfl rfl rfl (by decide) (fun rv _ H locs hu hP hD hS => ?_)
        subst hu
        have hP : va_P g vwCl [(rm, .inr (4, [.int (nI 2), .ref a1, .ref a2, .ref a3, .ref a4, .ref a5, .ref a6, .ref a7, .ref a8, .ref a9, .int (nI tp), .int (nI mn), .ref b1, .int (nI bl), .ref b2, .ref b3, .int (nI jn), .int (nI sn), .ref b4, .ref b5, .ref b6, .ref b7, .ref b8, .int (nI wt), .int (nI wm), .int (nI wg), .long (lN wo), .int (nI wd), .ref b9]))] H := hP
        have hD : va_D A [(rm, .inr (4, [.int (nI 2), .ref a1, .ref a2, .ref a3, .ref a4, .ref a5, .ref a6, .ref a7, .ref a8, .ref a9, .int (nI tp), .int (nI mn), .ref b1, .int (nI bl), .ref b2, .ref b3, .int (nI jn), .int (nI sn), .ref b4, .ref b5, .ref b6, .ref b7, .ref b8, .int (nI wt), .int (nI wm), .int (nI wg), .long (lN wo), .int (nI wd), .ref b9]))] := hD
        refine W.widen (k := 0) (n := 0) (by first | exact Nat.le_refl _ | omega) (by first | exact Nat.le_refl _ | omega) ?_
        exact k_retI (sz := 0) (v := nI 0) hx hb hr hlocks hAe hS hP hD () (rfl) (rfl) dX4_give_35
    · exact (by exfalso; omega)
  · exact (by exact absurd c1 (by decide))
set_option maxHeartbeats 4000000 in
set_option maxRecDepth 100000 in
theorem c_X4_give_s (l : Launch) (g : va_G) (cI cJ cZ : ClassId) (rm a1 a2 a3 a4 a5 a6 a7 a8 a9 b1 b2 b3 b4 b5 b6 b7 b8 b9 : Nat) (cd tp bl jn sn wt wm wg wo wd : Nat) (sz lf rt : Nat → Int32) (S L R : Nat → Nat) (rc : Nat → Bool) (sp0 : Nat → Bool) (rq nd0 : Nat → Nat) (ba rv bf : Nat → Nat) (w : Nat) (htp : 0 < tp ∧ tp < 2 ^ 31) (hR : RuleOK S L R rc tp) (hT0 : TOK tp S L R sp0 rq) (hW0 : nW tp S L R rq nd0 (lvs sp0 1)) (hlen0 : (lvs sp0 1).length ≤ 14000) (hrl : rOK S L R rc sz lf rt) (hw1 : 1 ≤ w) (hw : w < 2 ^ 31) (hB : bW (adr tp S L R) rq bl ba rv bf) (hbl : bl < 256) (hgb : (gB S (cls tp L R) rq w sp0) ≠ 0) (hfin : (lvs (gC S L R (cls tp L R) rq w sp0).1 1).length ≤ 14000) : kI l g (kty cI cJ cZ) yX4_give wsX4_give ({ frames := 4, cells := 0, slots := 0, locals := 101 }) [.ref rm, .int (nI w)] [(rm, .inr (4, [.int (nI cd), .ref a1, .ref a2, .ref a3, .ref a4, .ref a5, .ref a6, .ref a7, .ref a8, .ref a9, .int (nI tp), .int (nI ((lvs sp0 1).length)), .ref b1, .int (nI bl), .ref b2, .ref b3, .int (nI jn), .int (nI sn), .ref b4, .ref b5, .ref b6, .ref b7, .ref b8, .int (nI wt), .int (nI wm), .int (nI wg), .long (lN wo), .int (nI wd), .ref b9])), (b1, .inl (cJ, 14000, .inr (.inl (fun j => lN (nd0 j))))), (a4, .inl (cI, 25, .inl sz)), (a5, .inl (cI, 25, .inl lf)), (a6, .inl (cI, 25, .inl rt)), (b2, .inl (cI, 256, .inl (fun j => nI (ba j)))), (b3, .inl (cI, 256, .inl (fun j => nI (rv j))))] (S := (Nat → Nat) × (Nat → Nat) × (Nat → Nat) × (Nat → Nat)) (fun r u => r = nI (adr tp S L R (gC S L R (cls tp L R) rq w sp0).2.1) ∧ nW tp S L R (gQ S L R (cls tp L R) rq w sp0) u.1 (lvs (gC S L R (cls tp L R) rq w sp0).1 1) ∧ bW (adr tp S L R) (gQ S L R (cls tp L R) rq w sp0) (bl + 1) u.2.1 u.2.2.1 u.2.2.2) (fun u => [(rm, .inr (4, [.int (nI 0), .ref a1, .ref a2, .ref a3, .ref a4, .ref a5, .ref a6, .ref a7, .ref a8, .ref a9, .int (nI tp), .int (nI ((lvs (gC S L R (cls tp L R) rq w sp0).1 1).length)), .ref b1, .int (nI (bl + 1)), .ref b2, .ref b3, .int (nI (jn + ((lvs sp0 1).length - (lvs (gS1 S (cls tp L R) rq w sp0) 1).length))), .int (nI (sn + (gC S L R (cls tp L R) rq w sp0).2.2)), .ref b4, .ref b5, .ref b6, .ref b7, .ref b8, .int (nI wt), .int (nI wm), .int (nI wg), .long (lN wo), .int (nI wd), .ref b9])), (b1, .inl (cJ, 14000, .inr (.inl (fun j => lN (u.1 j))))), (a4, .inl (cI, 25, .inl sz)), (a5, .inl (cI, 25, .inl lf)), (a6, .inl (cI, 25, .inl rt)), (b2, .inl (cI, 256, .inl (fun j => nI (u.2.1 j)))), (b3, .inl (cI, 256, .inl (fun j => nI (u.2.2.1 j))))]) 0 0 := by
  intro sz
  refine Met.ofW (cc := cX4_give) (maxL := 2) (ret := (some .int)) (by decide) rfl ?_
  intro p e s m args below meth c s₁ B hml hv
  obtain ⟨rfl, hsz, hP, hk, hD0⟩ := hv
  subst hsz
  have hx := B.exec
  have hb := B.bytes
  have hr := B.returns
  have hts := atoms_spec (ws := wsX4_give) B.pre
  have hown : s.vm.findClass RX4 = some m.cls := findClass_of_methodNamed B.named
  have hlocks := B.notSynchronized
  have hK := hk.1
  have hinX4 : ∀ w ∈ wsX40, w ∈ wsX4_give := by decide +kernel
  obtain ⟨A, hAe⟩ : ∃ A, va_A [(rm, .inr (4, [.int (nI cd), .ref a1, .ref a2, .ref a3, .ref a4, .ref a5, .ref a6, .ref a7, .ref a8, .ref a9, .int (nI tp), .int (nI ((lvs sp0 1).length)), .ref b1, .int (nI bl), .ref b2, .ref b3, .int (nI jn), .int (nI sn), .ref b4, .ref b5, .ref b6, .ref b7, .ref b8, .int (nI wt), .int (nI wm), .int (nI wg), .long (lN wo), .int (nI wd), .ref b9])), (b1, .inl (cJ, 14000, .inr (.inl (fun j => lN (nd0 j))))), (a4, .inl (cI, 25, .inl sz)), (a5, .inl (cI, 25, .inl lf)), (a6, .inl (cI, 25, .inl rt)), (b2, .inl (cI, 256, .inl (fun j => nI (ba j)))), (b3, .inl (cI, 256, .inl (fun j => nI (rv j))))] s.heap.size = A := ⟨_, rfl⟩
  have hD := hD0.self (sz := s.heap.size)
  rw [hAe] at hD
  have hA : ∀ q : Nat, s.heap.size ≤ q → A q := fun q h => by rw [← hAe]; exact Or.inr h
  have hS : va_S A s.heap s.heap [] := va_S.rf
  have hl := lv_entry ([.ref rm, .int (nI w)]) (n := 2) (Nat.le_of_ble_eq_true rfl)
  rw [lg_entry_eq]
  generalize (lg_sl ([.ref rm, .int (nI w)]) ++ List.replicate (2 - (lg_sl ([.ref rm, .int (nI w)])).length) Slot.unset).toArray = ls at hl ⊢
  have hl : lv_has ls 2 [(0, .ref rm), (1, .int (nI w))] := hl
  refine lv_aload_n hx hb dX4_give_0 rfl (lv_at hl 0 rfl) ?_
  refine k_goI (wr := [(b1, .inl (cJ, 14000, .inr (.inl (fun j => lN (nd0 j))))), (a4, .inl (cI, 25, .inl sz)), (a5, .inl (cI, 25, .inl lf)), (a6, .inl (cI, 25, .inl rt)), (b2, .inl (cI, 256, .inl (fun j => nI (ba j)))), (b3, .inl (cI, 256, .inl (fun j => nI (rv j))))]) (va_runV (As := []) (rest := []) ⟨hx, hb, hml, hown, hts⟩ (c_X4_isThere l g cI cJ cZ rm a1 a2 a3 a4 a5 a6 a7 a8 a9 b1 b2 b3 b4 b5 b6 b7 b8 b9 cd tp ((lvs sp0 1).length) bl jn sn wt wm wg wo wd  htp _) (cwV 0 hts gX4_give_X4_isThere rfl rfl rfl (by decide +kernel) ⟨Nat.le_of_ble_eq_true rfl, Nat.le_of_ble_eq_true rfl⟩) (k_preV hk hP hD [0] rfl rfl (ci := 4) (q0 := 0) rfl rfl) rfl rfl hl.1 rfl (lv_room (Nat.le_of_ble_eq_true rfl)) dX4_give_1 ⟨by first | exact Nat.zero_le _ | omega, by first | exact Nat.zero_le _ | omega⟩) hP hD hS hA [0] [1, 2, 3, 4, 5, 6] rfl rfl rfl (by decide) (fun rv _ H locs hu hP hD hS => ?_)
  subst hu
  have hP : va_P g vwCl [(b1, .inl (cJ, 14000, .inr (.inl (fun j => lN (nd0 j))))), (a4, .inl (cI, 25, .inl sz)), (a5, .inl (cI, 25, .inl lf)), (a6, .inl (cI, 25, .inl rt)), (b2, .inl (cI, 256, .inl (fun j => nI (ba j)))), (b3, .inl (cI, 256, .inl (fun j => nI (rv j)))), (rm, .inr (4, [.int (nI 0), .ref a1, .ref a2, .ref a3, .ref a4, .ref a5, .ref a6, .ref a7, .ref a8, .ref a9, .int (nI tp), .int (nI ((lvs sp0 1).length)), .ref b1, .int (nI bl), .ref b2, .ref b3, .int (nI jn), .int (nI sn), .ref b4, .ref b5, .ref b6, .ref b7, .ref b8, .int (nI wt), .int (nI wm), .int (nI wg), .long (lN wo), .int (nI wd), .ref b9]))] H := hP
  have hD : va_D A [(b1, .inl (cJ, 14000, .inr (.inl (fun j => lN (nd0 j))))), (a4, .inl (cI, 25, .inl sz)), (a5, .inl (cI, 25, .inl lf)), (a6, .inl (cI, 25, .inl rt)), (b2, .inl (cI, 256, .inl (fun j => nI (ba j)))), (b3, .inl (cI, 256, .inl (fun j => nI (rv j)))), (rm, .inr (4, [.int (nI 0), .ref a1, .ref a2, .ref a3, .ref a4, .ref a5, .ref a6, .ref a7, .ref a8, .ref a9, .int (nI tp), .int (nI ((lvs sp0 1).length)), .ref b1, .int (nI bl), .ref b2, .ref b3, .int (nI jn), .int (nI sn), .ref b4, .ref b5, .ref b6, .ref b7, .ref b8, .int (nI wt), .int (nI wm), .int (nI wg), .long (lN wo), .int (nI wd), .ref b9]))] := hD
  refine n_if_ne (tgt := 9) hx hb dX4_give_4 (by decide) (by first | assumption | omega) (fun c1 => ?_) (fun c1 => ?_)
  · skip
    refine lv_aload_n hx hb dX4_give_9 rfl (lv_at hl 0 rfl) ?_
    refine va_get (D := g) (ci := 4) (v := .int (nI bl)) (C := RX4) (T := TX4) (N := 29) hx hb hts hinX4 hown hK hP 6 rfl rfl 13 (by decide) (hts (.fieldLink RX4 103 "BuddyRoofModel" "blocks" "I") (by decide +kernel)) (fun _ h9 => h9) rfl dX4_give_10 ?_
    refine lv_sipush (v := nI 256) hx hb dX4_give_13 (by decide) ?_
    refine n_icmp_ne (tgt := 25) hx hb dX4_give_16 (by decide) (by first | assumption | omega) (by first | assumption | omega) (fun c2 => ?_) (fun c2 => ?_)
    · skip
      refine lv_iload_n hx hb dX4_give_25 rfl (lv_at hl 1 rfl) ?_
      refine lv_iconst (v := nI 1) hx hb dX4_give_26 (by decide) ?_
      refine n_icmp_ge (tgt := 36) hx hb dX4_give_27 (by decide) (by first | assumption | omega) (by first | assumption | omega) (fun c3 => ?_) (fun c3 => ?_)
      · skip
        refine lv_aload_n hx hb dX4_give_36 rfl (lv_at hl 0 rfl) ?_
        refine lv_iload_n hx hb dX4_give_37 rfl (lv_at hl 1 rfl) ?_
        refine k_goI (wr := []) (va_runV (As := [.int (nI w)]) (rest := []) ⟨hx, hb, hml, hown, hts⟩ (c_X4_giveWords l g cI cJ cZ rm a1 a2 a3 a4 a5 a6 a7 a8 a9 b1 b2 b3 b4 b5 b6 b7 b8 b9 0 tp bl jn sn wt wm wg wo wd sz lf rt S L R rc sp0 rq nd0 ba rv w  hR hT0 hW0 hlen0 hrl hw1 hw hgb hfin hbl _) (cwV 1 hts gX4_give_X4_giveWords rfl rfl rfl (by decide +kernel) ⟨Nat.le_of_ble_eq_true rfl, Nat.le_of_ble_eq_true rfl⟩) (k_preV hk hP hD [6, 0, 1, 2, 3, 4, 5] rfl rfl (ci := 4) (q0 := 0) rfl rfl) rfl rfl hl.1 rfl (lv_room (Nat.le_of_ble_eq_true rfl)) dX4_give_38 ⟨by first | exact Nat.zero_le _ | omega, by first | exact Nat.zero_le _ | omega⟩) hP hD hS hA [6, 0, 1, 2, 3, 4, 5] [] rfl rfl rfl (by decide) (fun rv nd1 H locs hu hP hD hS => ?_)
        obtain ⟨hrv, hW1⟩ := hu
        subst hrv
        have hP : va_P g vwCl [(rm, .inr (4, [.int (nI 0), .ref a1, .ref a2, .ref a3, .ref a4, .ref a5, .ref a6, .ref a7, .ref a8, .ref a9, .int (nI tp), .int (nI ((lvs (gC S L R (cls tp L R) rq w sp0).1 1).length)), .ref b1, .int (nI (bl + 1)), .ref b2, .ref b3, .int (nI (jn + ((lvs sp0 1).length - (lvs (gS1 S (cls tp L R) rq w sp0) 1).length))), .int (nI (sn + (gC S L R (cls tp L R) rq w sp0).2.2)), .ref b4, .ref b5, .ref b6, .ref b7, .ref b8, .int (nI wt), .int (nI wm), .int (nI wg), .long (lN wo), .int (nI wd), .ref b9])), (b1, .inl (cJ, 14000, .inr (.inl (fun j => lN (nd1 j))))), (a4, .inl (cI, 25, .inl sz)), (a5, .inl (cI, 25, .inl lf)), (a6, .inl (cI, 25, .inl rt)), (b2, .inl (cI, 256, .inl (fun j => nI ((upN ba bl (adr tp S L R (gC S L R (cls tp L R) rq w sp0).2.1)) j)))), (b3, .inl (cI, 256, .inl (fun j => nI ((upN rv bl w) j))))] H := hP
        have hD : va_D A [(rm, .inr (4, [.int (nI 0), .ref a1, .ref a2, .ref a3, .ref a4, .ref a5, .ref a6, .ref a7, .ref a8, .ref a9, .int (nI tp), .int (nI ((lvs (gC S L R (cls tp L R) rq w sp0).1 1).length)), .ref b1, .int (nI (bl + 1)), .ref b2, .ref b3, .int (nI (jn + ((lvs sp0 1).length - (lvs (gS1 S (cls tp L R) rq w sp0) 1).length))), .int (nI (sn + (gC S L R (cls tp L R) rq w sp0).2.2)), .ref b4, .ref b5, .ref b6, .ref b7, .ref b8, .int (nI wt), .int (nI wm), .int (nI wg), .long (lN wo), .int (nI wd), .ref b9])), (b1, .inl (cJ, 14000, .inr (.inl (fun j => lN (nd1 j))))), (a4, .inl (cI, 25, .inl sz)), (a5, .inl (cI, 25, .inl lf)), (a6, .inl (cI, 25, .inl rt)), (b2, .inl (cI, 256, .inl (fun j => nI ((upN ba bl (adr tp S L R (gC S L R (cls tp L R) rq w sp0).2.1)) j)))), (b3, .inl (cI, 256, .inl (fun j => nI ((upN rv bl w) j))))] := hD
        have hP := hP.sub (ws' := [(rm, .inr (4, [.int (nI 0), .ref a1, .ref a2, .ref a3, .ref a4, .ref a5, .ref a6, .ref a7, .ref a8, .ref a9, .int (nI tp), .int (nI ((lvs (gC S L R (cls tp L R) rq w sp0).1 1).length)), .ref b1, .int (nI (bl + 1)), .ref b2, .ref b3, .int (nI (jn + ((lvs sp0 1).length - (lvs (gS1 S (cls tp L R) rq w sp0) 1).length))), .int (nI (sn + (gC S L R (cls tp L R) rq w sp0).2.2)), .ref b4, .ref b5, .ref b6, .ref b7, .ref b8, .int (nI wt), .int (nI wm), .int (nI wg), .long (lN wo), .int (nI wd), .ref b9])), (b1, .inl (cJ, 14000, .inr (.inl (fun j => lN (nd1 j))))), (a4, .inl (cI, 25, .inl sz)), (a5, .inl (cI, 25, .inl lf)), (a6, .inl (cI, 25, .inl rt)), (b2, .inl (cI, 256, .inl (fun j => nI ((upN ba bl (adr tp S L R (gC S L R (cls tp L R) rq w sp0).2.1)) j)))), (b3, .inl (cI, 256, .inl (fun j => nI ((upN rv bl w) j))))]) [0, 1, 2, 3, 4, 5, 6] rfl
        have hD := hD.sub (ws' := [(rm, .inr (4, [.int (nI 0), .ref a1, .ref a2, .ref a3, .ref a4, .ref a5, .ref a6, .ref a7, .ref a8, .ref a9, .int (nI tp), .int (nI ((lvs (gC S L R (cls tp L R) rq w sp0).1 1).length)), .ref b1, .int (nI (bl + 1)), .ref b2, .ref b3, .int (nI (jn + ((lvs sp0 1).length - (lvs (gS1 S (cls tp L R) rq w sp0) 1).length))), .int (nI (sn + (gC S L R (cls tp L R) rq w sp0).2.2)), .ref b4, .ref b5, .ref b6, .ref b7, .ref b8, .int (nI wt), .int (nI wm), .int (nI wg), .long (lN wo), .int (nI wd), .ref b9])), (b1, .inl (cJ, 14000, .inr (.inl (fun j => lN (nd1 j))))), (a4, .inl (cI, 25, .inl sz)), (a5, .inl (cI, 25, .inl lf)), (a6, .inl (cI, 25, .inl rt)), (b2, .inl (cI, 256, .inl (fun j => nI ((upN ba bl (adr tp S L R (gC S L R (cls tp L R) rq w sp0).2.1)) j)))), (b3, .inl (cI, 256, .inl (fun j => nI ((upN rv bl w) j))))]) [0, 1, 2, 3, 4, 5, 6] rfl rfl
        refine W.widen (k := 0) (n := 0) (by first | exact Nat.le_refl _ | omega) (by first | exact Nat.le_refl _ | omega) ?_
        exact k_retI (sz := 0) (v := nI (adr tp S L R (gC S L R (cls tp L R) rq w sp0).2.1)) hx hb hr hlocks hAe hS hP hD (nd1, upN ba bl (adr tp S L R (gC S L R (cls tp L R) rq w sp0).2.1), upN rv bl w, upN bf bl (gC S L R (cls tp L R) rq w sp0).2.1) (rfl) (⟨rfl, hW1, by rw [(gC_s hgb).2]; exact bW_give hB (gC_ok hR hT0 hw1 hgb).2.2.2.1 hw1⟩) dX4_give_41
      · exact (by exfalso; omega)
    · exact (by exfalso; omega)
  · exact (by exact absurd c1 (by decide))
set_option maxHeartbeats 4000000 in
set_option maxRecDepth 100000 in
theorem c_X4_give_n (l : Launch) (g : va_G) (cI cJ cZ : ClassId) (rm a1 a2 a3 a4 a5 a6 a7 a8 a9 b1 b2 b3 b4 b5 b6 b7 b8 b9 : Nat) (cd tp bl jn sn wt wm wg wo wd : Nat) (sz lf rt : Nat → Int32) (S L R : Nat → Nat) (rc : Nat → Bool) (sp0 : Nat → Bool) (rq nd0 : Nat → Nat) (ba rv bf : Nat → Nat) (w : Nat) (htp : 0 < tp ∧ tp < 2 ^ 31) (hR : RuleOK S L R rc tp) (hT0 : TOK tp S L R sp0 rq) (hW0 : nW tp S L R rq nd0 (lvs sp0 1)) (hlen0 : (lvs sp0 1).length ≤ 14000) (hrl : rOK S L R rc sz lf rt) (hw1 : 1 ≤ w) (hw : w < 2 ^ 31) (hB : bW (adr tp S L R) rq bl ba rv bf) (hbl : bl < 256) (hgb : (gB S (cls tp L R) rq w sp0) = 0) : kI l g (kty cI cJ cZ) yX4_give wsX4_give ({ frames := 4, cells := 0, slots := 0, locals := 101 }) [.ref rm, .int (nI w)] [(rm, .inr (4, [.int (nI cd), .ref a1, .ref a2, .ref a3, .ref a4, .ref a5, .ref a6, .ref a7, .ref a8, .ref a9, .int (nI tp), .int (nI ((lvs sp0 1).length)), .ref b1, .int (nI bl), .ref b2, .ref b3, .int (nI jn), .int (nI sn), .ref b4, .ref b5, .ref b6, .ref b7, .ref b8, .int (nI wt), .int (nI wm), .int (nI wg), .long (lN wo), .int (nI wd), .ref b9])), (b1, .inl (cJ, 14000, .inr (.inl (fun j => lN (nd0 j))))), (a4, .inl (cI, 25, .inl sz)), (a5, .inl (cI, 25, .inl lf)), (a6, .inl (cI, 25, .inl rt)), (b2, .inl (cI, 256, .inl (fun j => nI (ba j)))), (b3, .inl (cI, 256, .inl (fun j => nI (rv j))))] (S := (Nat → Nat) × (Nat → Nat) × (Nat → Nat) × (Nat → Nat)) (fun r u => r = -1 ∧ nW tp S L R rq u.1 (lvs (gC S L R (cls tp L R) rq w sp0).1 1) ∧ bW (adr tp S L R) rq (bl) u.2.1 u.2.2.1 u.2.2.2) (fun u => [(rm, .inr (4, [.int (nI 0), .ref a1, .ref a2, .ref a3, .ref a4, .ref a5, .ref a6, .ref a7, .ref a8, .ref a9, .int (nI tp), .int (nI ((lvs (gC S L R (cls tp L R) rq w sp0).1 1).length)), .ref b1, .int (nI bl), .ref b2, .ref b3, .int (nI (jn + ((lvs sp0 1).length - (lvs (gS1 S (cls tp L R) rq w sp0) 1).length))), .int (nI sn), .ref b4, .ref b5, .ref b6, .ref b7, .ref b8, .int (nI wt), .int (nI wm), .int (nI wg), .long (lN wo), .int (nI wd), .ref b9])), (b1, .inl (cJ, 14000, .inr (.inl (fun j => lN (u.1 j))))), (a4, .inl (cI, 25, .inl sz)), (a5, .inl (cI, 25, .inl lf)), (a6, .inl (cI, 25, .inl rt)), (b2, .inl (cI, 256, .inl (fun j => nI (u.2.1 j)))), (b3, .inl (cI, 256, .inl (fun j => nI (u.2.2.1 j))))]) 0 0 := by
  intro sz
  refine Met.ofW (cc := cX4_give) (maxL := 2) (ret := (some .int)) (by decide) rfl ?_
  intro p e s m args below meth c s₁ B hml hv
  obtain ⟨rfl, hsz, hP, hk, hD0⟩ := hv
  subst hsz
  have hx := B.exec
  have hb := B.bytes
  have hr := B.returns
  have hts := atoms_spec (ws := wsX4_give) B.pre
  have hown : s.vm.findClass RX4 = some m.cls := findClass_of_methodNamed B.named
  have hlocks := B.notSynchronized
  have hK := hk.1
  have hinX4 : ∀ w ∈ wsX40, w ∈ wsX4_give := by decide +kernel
  obtain ⟨A, hAe⟩ : ∃ A, va_A [(rm, .inr (4, [.int (nI cd), .ref a1, .ref a2, .ref a3, .ref a4, .ref a5, .ref a6, .ref a7, .ref a8, .ref a9, .int (nI tp), .int (nI ((lvs sp0 1).length)), .ref b1, .int (nI bl), .ref b2, .ref b3, .int (nI jn), .int (nI sn), .ref b4, .ref b5, .ref b6, .ref b7, .ref b8, .int (nI wt), .int (nI wm), .int (nI wg), .long (lN wo), .int (nI wd), .ref b9])), (b1, .inl (cJ, 14000, .inr (.inl (fun j => lN (nd0 j))))), (a4, .inl (cI, 25, .inl sz)), (a5, .inl (cI, 25, .inl lf)), (a6, .inl (cI, 25, .inl rt)), (b2, .inl (cI, 256, .inl (fun j => nI (ba j)))), (b3, .inl (cI, 256, .inl (fun j => nI (rv j))))] s.heap.size = A := ⟨_, rfl⟩
  have hD := hD0.self (sz := s.heap.size)
  rw [hAe] at hD
  have hA : ∀ q : Nat, s.heap.size ≤ q → A q := fun q h => by rw [← hAe]; exact Or.inr h
  have hS : va_S A s.heap s.heap [] := va_S.rf
  have hl := lv_entry ([.ref rm, .int (nI w)]) (n := 2) (Nat.le_of_ble_eq_true rfl)
  rw [lg_entry_eq]
  generalize (lg_sl ([.ref rm, .int (nI w)]) ++ List.replicate (2 - (lg_sl ([.ref rm, .int (nI w)])).length) Slot.unset).toArray = ls at hl ⊢
  have hl : lv_has ls 2 [(0, .ref rm), (1, .int (nI w))] := hl
  refine lv_aload_n hx hb dX4_give_0 rfl (lv_at hl 0 rfl) ?_
  refine k_goI (wr := [(b1, .inl (cJ, 14000, .inr (.inl (fun j => lN (nd0 j))))), (a4, .inl (cI, 25, .inl sz)), (a5, .inl (cI, 25, .inl lf)), (a6, .inl (cI, 25, .inl rt)), (b2, .inl (cI, 256, .inl (fun j => nI (ba j)))), (b3, .inl (cI, 256, .inl (fun j => nI (rv j))))]) (va_runV (As := []) (rest := []) ⟨hx, hb, hml, hown, hts⟩ (c_X4_isThere l g cI cJ cZ rm a1 a2 a3 a4 a5 a6 a7 a8 a9 b1 b2 b3 b4 b5 b6 b7 b8 b9 cd tp ((lvs sp0 1).length) bl jn sn wt wm wg wo wd  htp _) (cwV 0 hts gX4_give_X4_isThere rfl rfl rfl (by decide +kernel) ⟨Nat.le_of_ble_eq_true rfl, Nat.le_of_ble_eq_true rfl⟩) (k_preV hk hP hD [0] rfl rfl (ci := 4) (q0 := 0) rfl rfl) rfl rfl hl.1 rfl (lv_room (Nat.le_of_ble_eq_true rfl)) dX4_give_1 ⟨by first | exact Nat.zero_le _ | omega, by first | exact Nat.zero_le _ | omega⟩) hP hD hS hA [0] [1, 2, 3, 4, 5, 6] rfl rfl rfl (by decide) (fun rv _ H locs hu hP hD hS => ?_)
  subst hu
  have hP : va_P g vwCl [(b1, .inl (cJ, 14000, .inr (.inl (fun j => lN (nd0 j))))), (a4, .inl (cI, 25, .inl sz)), (a5, .inl (cI, 25, .inl lf)), (a6, .inl (cI, 25, .inl rt)), (b2, .inl (cI, 256, .inl (fun j => nI (ba j)))), (b3, .inl (cI, 256, .inl (fun j => nI (rv j)))), (rm, .inr (4, [.int (nI 0), .ref a1, .ref a2, .ref a3, .ref a4, .ref a5, .ref a6, .ref a7, .ref a8, .ref a9, .int (nI tp), .int (nI ((lvs sp0 1).length)), .ref b1, .int (nI bl), .ref b2, .ref b3, .int (nI jn), .int (nI sn), .ref b4, .ref b5, .ref b6, .ref b7, .ref b8, .int (nI wt), .int (nI wm), .int (nI wg), .long (lN wo), .int (nI wd), .ref b9]))] H := hP
  have hD : va_D A [(b1, .inl (cJ, 14000, .inr (.inl (fun j => lN (nd0 j))))), (a4, .inl (cI, 25, .inl sz)), (a5, .inl (cI, 25, .inl lf)), (a6, .inl (cI, 25, .inl rt)), (b2, .inl (cI, 256, .inl (fun j => nI (ba j)))), (b3, .inl (cI, 256, .inl (fun j => nI (rv j)))), (rm, .inr (4, [.int (nI 0), .ref a1, .ref a2, .ref a3, .ref a4, .ref a5, .ref a6, .ref a7, .ref a8, .ref a9, .int (nI tp), .int (nI ((lvs sp0 1).length)), .ref b1, .int (nI bl), .ref b2, .ref b3, .int (nI jn), .int (nI sn), .ref b4, .ref b5, .ref b6, .ref b7, .ref b8, .int (nI wt), .int (nI wm), .int (nI wg), .long (lN wo), .int (nI wd), .ref b9]))] := hD
  refine n_if_ne (tgt := 9) hx hb dX4_give_4 (by decide) (by first | assumption | omega) (fun c1 => ?_) (fun c1 => ?_)
  · skip
    refine lv_aload_n hx hb dX4_give_9 rfl (lv_at hl 0 rfl) ?_
    refine va_get (D := g) (ci := 4) (v := .int (nI bl)) (C := RX4) (T := TX4) (N := 29) hx hb hts hinX4 hown hK hP 6 rfl rfl 13 (by decide) (hts (.fieldLink RX4 103 "BuddyRoofModel" "blocks" "I") (by decide +kernel)) (fun _ h9 => h9) rfl dX4_give_10 ?_
    refine lv_sipush (v := nI 256) hx hb dX4_give_13 (by decide) ?_
    refine n_icmp_ne (tgt := 25) hx hb dX4_give_16 (by decide) (by first | assumption | omega) (by first | assumption | omega) (fun c2 => ?_) (fun c2 => ?_)
    · skip
      refine lv_iload_n hx hb dX4_give_25 rfl (lv_at hl 1 rfl) ?_
      refine lv_iconst (v := nI 1) hx hb dX4_give_26 (by decide) ?_
      refine n_icmp_ge (tgt := 36) hx hb dX4_give_27 (by decide) (by first | assumption | omega) (by first | assumption | omega) (fun c3 => ?_) (fun c3 => ?_)
      · skip
        refine lv_aload_n hx hb dX4_give_36 rfl (lv_at hl 0 rfl) ?_
        refine lv_iload_n hx hb dX4_give_37 rfl (lv_at hl 1 rfl) ?_
        refine k_goI (wr := []) (va_runV (As := [.int (nI w)]) (rest := []) ⟨hx, hb, hml, hown, hts⟩ (c_X4_giveWords_n l g cI cJ cZ rm a1 a2 a3 a4 a5 a6 a7 a8 a9 b1 b2 b3 b4 b5 b6 b7 b8 b9 0 tp bl jn sn wt wm wg wo wd sz lf rt S L R rc sp0 rq nd0 ba rv w  hR hT0 hW0 hlen0 hrl hw1 hw hgb _) (cwV 1 hts gX4_give_X4_giveWords rfl rfl rfl (by decide +kernel) ⟨Nat.le_of_ble_eq_true rfl, Nat.le_of_ble_eq_true rfl⟩) (k_preV hk hP hD [6, 0, 1, 2, 3, 4, 5] rfl rfl (ci := 4) (q0 := 0) rfl rfl) rfl rfl hl.1 rfl (lv_room (Nat.le_of_ble_eq_true rfl)) dX4_give_38 ⟨by first | exact Nat.zero_le _ | omega, by first | exact Nat.zero_le _ | omega⟩) hP hD hS hA [6, 0, 1, 2, 3, 4, 5] [] rfl rfl rfl (by decide) (fun rv nd1 H locs hu hP hD hS => ?_)
        obtain ⟨hrv, hW1⟩ := hu
        subst hrv
        have hP : va_P g vwCl [(rm, .inr (4, [.int (nI 0), .ref a1, .ref a2, .ref a3, .ref a4, .ref a5, .ref a6, .ref a7, .ref a8, .ref a9, .int (nI tp), .int (nI ((lvs (gC S L R (cls tp L R) rq w sp0).1 1).length)), .ref b1, .int (nI bl), .ref b2, .ref b3, .int (nI (jn + ((lvs sp0 1).length - (lvs (gS1 S (cls tp L R) rq w sp0) 1).length))), .int (nI sn), .ref b4, .ref b5, .ref b6, .ref b7, .ref b8, .int (nI wt), .int (nI wm), .int (nI wg), .long (lN wo), .int (nI wd), .ref b9])), (b1, .inl (cJ, 14000, .inr (.inl (fun j => lN (nd1 j))))), (a4, .inl (cI, 25, .inl sz)), (a5, .inl (cI, 25, .inl lf)), (a6, .inl (cI, 25, .inl rt)), (b2, .inl (cI, 256, .inl (fun j => nI (ba j)))), (b3, .inl (cI, 256, .inl (fun j => nI (rv j))))] H := hP
        have hD : va_D A [(rm, .inr (4, [.int (nI 0), .ref a1, .ref a2, .ref a3, .ref a4, .ref a5, .ref a6, .ref a7, .ref a8, .ref a9, .int (nI tp), .int (nI ((lvs (gC S L R (cls tp L R) rq w sp0).1 1).length)), .ref b1, .int (nI bl), .ref b2, .ref b3, .int (nI (jn + ((lvs sp0 1).length - (lvs (gS1 S (cls tp L R) rq w sp0) 1).length))), .int (nI sn), .ref b4, .ref b5, .ref b6, .ref b7, .ref b8, .int (nI wt), .int (nI wm), .int (nI wg), .long (lN wo), .int (nI wd), .ref b9])), (b1, .inl (cJ, 14000, .inr (.inl (fun j => lN (nd1 j))))), (a4, .inl (cI, 25, .inl sz)), (a5, .inl (cI, 25, .inl lf)), (a6, .inl (cI, 25, .inl rt)), (b2, .inl (cI, 256, .inl (fun j => nI (ba j)))), (b3, .inl (cI, 256, .inl (fun j => nI (rv j))))] := hD
        have hP := hP.sub (ws' := [(rm, .inr (4, [.int (nI 0), .ref a1, .ref a2, .ref a3, .ref a4, .ref a5, .ref a6, .ref a7, .ref a8, .ref a9, .int (nI tp), .int (nI ((lvs (gC S L R (cls tp L R) rq w sp0).1 1).length)), .ref b1, .int (nI bl), .ref b2, .ref b3, .int (nI (jn + ((lvs sp0 1).length - (lvs (gS1 S (cls tp L R) rq w sp0) 1).length))), .int (nI sn), .ref b4, .ref b5, .ref b6, .ref b7, .ref b8, .int (nI wt), .int (nI wm), .int (nI wg), .long (lN wo), .int (nI wd), .ref b9])), (b1, .inl (cJ, 14000, .inr (.inl (fun j => lN (nd1 j))))), (a4, .inl (cI, 25, .inl sz)), (a5, .inl (cI, 25, .inl lf)), (a6, .inl (cI, 25, .inl rt)), (b2, .inl (cI, 256, .inl (fun j => nI (ba j)))), (b3, .inl (cI, 256, .inl (fun j => nI (rv j))))]) [0, 1, 2, 3, 4, 5, 6] rfl
        have hD := hD.sub (ws' := [(rm, .inr (4, [.int (nI 0), .ref a1, .ref a2, .ref a3, .ref a4, .ref a5, .ref a6, .ref a7, .ref a8, .ref a9, .int (nI tp), .int (nI ((lvs (gC S L R (cls tp L R) rq w sp0).1 1).length)), .ref b1, .int (nI bl), .ref b2, .ref b3, .int (nI (jn + ((lvs sp0 1).length - (lvs (gS1 S (cls tp L R) rq w sp0) 1).length))), .int (nI sn), .ref b4, .ref b5, .ref b6, .ref b7, .ref b8, .int (nI wt), .int (nI wm), .int (nI wg), .long (lN wo), .int (nI wd), .ref b9])), (b1, .inl (cJ, 14000, .inr (.inl (fun j => lN (nd1 j))))), (a4, .inl (cI, 25, .inl sz)), (a5, .inl (cI, 25, .inl lf)), (a6, .inl (cI, 25, .inl rt)), (b2, .inl (cI, 256, .inl (fun j => nI (ba j)))), (b3, .inl (cI, 256, .inl (fun j => nI (rv j))))]) [0, 1, 2, 3, 4, 5, 6] rfl rfl
        refine W.widen (k := 0) (n := 0) (by first | exact Nat.le_refl _ | omega) (by first | exact Nat.le_refl _ | omega) ?_
        exact k_retI (sz := 0) (v := -1) hx hb hr hlocks hAe hS hP hD (nd1, ba, rv, bf) (rfl) (⟨rfl, hW1, hB⟩) dX4_give_41
      · exact (by exfalso; omega)
    · exact (by exfalso; omega)
  · exact (by exact absurd c1 (by decide))
set_option maxHeartbeats 4000000 in
set_option maxRecDepth 100000 in
theorem c_X4_free_s (l : Launch) (g : va_G) (cI cJ cZ : ClassId) (rm a1 a2 a3 a4 a5 a6 a7 a8 a9 b1 b2 b3 b4 b5 b6 b7 b8 b9 : Nat) (cd tp bl jn sn wt wm wg wo wd : Nat) (sz lf rt : Nat → Int32) (S L R : Nat → Nat) (rc : Nat → Bool) (sp0 : Nat → Bool) (rq0 nd0 : Nat → Nat) (kp ba rv bf : Nat → Nat) (y : Nat) (htp : 0 < tp ∧ tp < 2 ^ 31) (hR : RuleOK S L R rc tp) (hT0 : TOK tp S L R sp0 rq0) (hW0 : nW tp S L R rq0 nd0 (lvs sp0 1)) (hlen0 : (lvs sp0 1).length ≤ 14000) (hrl : rOK S L R rc sz lf rt) (hkp : ∀ j, kp j < 2 ^ 31) (hbl : bl ≤ 256) (hB : bW (adr tp S L R) rq0 bl ba rv bf) (hry : 0 < rq0 y) : kV l g (kty cI cJ cZ) yX4_free wsX4_free ({ frames := 3, cells := 0, slots := 0, locals := 73 }) [.ref rm, .int (nI (adr tp S L R y))] [(rm, .inr (4, [.int (nI cd), .ref a1, .ref a2, .ref a3, .ref a4, .ref a5, .ref a6, .ref a7, .ref a8, .ref a9, .int (nI tp), .int (nI ((lvs sp0 1).length)), .ref b1, .int (nI bl), .ref b2, .ref b3, .int (nI jn), .int (nI sn), .ref b4, .ref b5, .ref b6, .ref b7, .ref b8, .int (nI wt), .int (nI wm), .int (nI wg), .long (lN wo), .int (nI wd), .ref b9])), (b1, .inl (cJ, 14000, .inr (.inl (fun j => lN (nd0 j))))), (a4, .inl (cI, 25, .inl sz)), (a5, .inl (cI, 25, .inl lf)), (a6, .inl (cI, 25, .inl rt)), (a9, .inl (cI, 25, .inl (fun j => nI (kp j)))), (b2, .inl (cI, 256, .inl (fun j => nI (ba j)))), (b3, .inl (cI, 256, .inl (fun j => nI (rv j))))] (S := (Nat → Nat) × (Nat → Nat) × (Nat → Nat) × (Nat → Nat)) (fun u => nW tp S L R (upN rq0 y 0) u.1 (lvs (aUp (cls tp L R) kp (upN rq0 y 0) 24 (sp0, y, 0)).1 1) ∧ bW (adr tp S L R) (upN rq0 y 0) (bl - 1) u.2.1 u.2.2.1 u.2.2.2) (fun u => [(rm, .inr (4, [.int (nI 0), .ref a1, .ref a2, .ref a3, .ref a4, .ref a5, .ref a6, .ref a7, .ref a8, .ref a9, .int (nI tp), .int (nI ((lvs (aUp (cls tp L R) kp (upN rq0 y 0) 24 (sp0, y, 0)).1 1).length)), .ref b1, .int (nI (bl - 1)), .ref b2, .ref b3, .int (nI (jn + (aUp (cls tp L R) kp (upN rq0 y 0) 24 (sp0, y, 0)).2.2)), .int (nI sn), .ref b4, .ref b5, .ref b6, .ref b7, .ref b8, .int (nI wt), .int (nI wm), .int (nI wg), .long (lN wo), .int (nI wd), .ref b9])), (b1, .inl (cJ, 14000, .inr (.inl (fun j => lN (u.1 j))))), (a4, .inl (cI, 25, .inl sz)), (a5, .inl (cI, 25, .inl lf)), (a6, .inl (cI, 25, .inl rt)), (a9, .inl (cI, 25, .inl (fun j => nI (kp j)))), (b2, .inl (cI, 256, .inl (fun j => nI (u.2.1 j)))), (b3, .inl (cI, 256, .inl (fun j => nI (u.2.2.1 j))))]) 0 0 := by
  intro sz
  refine Met.ofW (cc := cX4_free) (maxL := 3) (ret := none) (by decide) rfl ?_
  intro p e s m args below meth c s₁ B hml hv
  obtain ⟨rfl, hsz, hP, hk, hD0⟩ := hv
  subst hsz
  have hx := B.exec
  have hb := B.bytes
  have hr := B.returns
  have hts := atoms_spec (ws := wsX4_free) B.pre
  have hown : s.vm.findClass RX4 = some m.cls := findClass_of_methodNamed B.named
  have hlocks := B.notSynchronized
  have hK := hk.1
  have hinX4 : ∀ w ∈ wsX40, w ∈ wsX4_free := by decide +kernel
  obtain ⟨A, hAe⟩ : ∃ A, va_A [(rm, .inr (4, [.int (nI cd), .ref a1, .ref a2, .ref a3, .ref a4, .ref a5, .ref a6, .ref a7, .ref a8, .ref a9, .int (nI tp), .int (nI ((lvs sp0 1).length)), .ref b1, .int (nI bl), .ref b2, .ref b3, .int (nI jn), .int (nI sn), .ref b4, .ref b5, .ref b6, .ref b7, .ref b8, .int (nI wt), .int (nI wm), .int (nI wg), .long (lN wo), .int (nI wd), .ref b9])), (b1, .inl (cJ, 14000, .inr (.inl (fun j => lN (nd0 j))))), (a4, .inl (cI, 25, .inl sz)), (a5, .inl (cI, 25, .inl lf)), (a6, .inl (cI, 25, .inl rt)), (a9, .inl (cI, 25, .inl (fun j => nI (kp j)))), (b2, .inl (cI, 256, .inl (fun j => nI (ba j)))), (b3, .inl (cI, 256, .inl (fun j => nI (rv j))))] s.heap.size = A := ⟨_, rfl⟩
  have hD := hD0.self (sz := s.heap.size)
  rw [hAe] at hD
  have hA : ∀ q : Nat, s.heap.size ≤ q → A q := fun q h => by rw [← hAe]; exact Or.inr h
  have hS : va_S A s.heap s.heap [] := va_S.rf
  have hl := lv_entry ([.ref rm, .int (nI (adr tp S L R y))]) (n := 3) (Nat.le_of_ble_eq_true rfl)
  rw [lg_entry_eq]
  generalize (lg_sl ([.ref rm, .int (nI (adr tp S L R y))]) ++ List.replicate (3 - (lg_sl ([.ref rm, .int (nI (adr tp S L R y))])).length) Slot.unset).toArray = ls at hl ⊢
  have hl : lv_has ls 3 [(0, .ref rm), (1, .int (nI (adr tp S L R y)))] := hl
  obtain ⟨b0, hb0, hb2, hb3, hb4, hba, hbr⟩ := bW_y hR hT0 hB hry
  refine lv_aload_n hx hb dX4_free_0 rfl (lv_at hl 0 rfl) ?_
  refine k_goI (wr := [(b1, .inl (cJ, 14000, .inr (.inl (fun j => lN (nd0 j))))), (a4, .inl (cI, 25, .inl sz)), (a5, .inl (cI, 25, .inl lf)), (a6, .inl (cI, 25, .inl rt)), (a9, .inl (cI, 25, .inl (fun j => nI (kp j)))), (b2, .inl (cI, 256, .inl (fun j => nI (ba j)))), (b3, .inl (cI, 256, .inl (fun j => nI (rv j))))]) (va_runV (As := []) (rest := []) ⟨hx, hb, hml, hown, hts⟩ (c_X4_isThere l g cI cJ cZ rm a1 a2 a3 a4 a5 a6 a7 a8 a9 b1 b2 b3 b4 b5 b6 b7 b8 b9 cd tp ((lvs sp0 1).length) bl jn sn wt wm wg wo wd  htp _) (cwV 0 hts gX4_free_X4_isThere rfl rfl rfl (by decide +kernel) ⟨Nat.le_of_ble_eq_true rfl, Nat.le_of_ble_eq_true rfl⟩) (k_preV hk hP hD [0] rfl rfl (ci := 4) (q0 := 0) rfl rfl) rfl rfl hl.1 rfl (lv_room (Nat.le_of_ble_eq_true rfl)) dX4_free_1 ⟨by first | exact Nat.zero_le _ | omega, by first | exact Nat.zero_le _ | omega⟩) hP hD hS hA [0] [1, 2, 3, 4, 5, 6, 7] rfl rfl rfl (by decide) (fun rv _ H locs hu hP hD hS => ?_)
  subst hu
  have hP : va_P g vwCl [(b1, .inl (cJ, 14000, .inr (.inl (fun j => lN (nd0 j))))), (a4, .inl (cI, 25, .inl sz)), (a5, .inl (cI, 25, .inl lf)), (a6, .inl (cI, 25, .inl rt)), (a9, .inl (cI, 25, .inl (fun j => nI (kp j)))), (b2, .inl (cI, 256, .inl (fun j => nI (ba j)))), (b3, .inl (cI, 256, .inl (fun j => nI (rv j)))), (rm, .inr (4, [.int (nI 0), .ref a1, .ref a2, .ref a3, .ref a4, .ref a5, .ref a6, .ref a7, .ref a8, .ref a9, .int (nI tp), .int (nI ((lvs sp0 1).length)), .ref b1, .int (nI bl), .ref b2, .ref b3, .int (nI jn), .int (nI sn), .ref b4, .ref b5, .ref b6, .ref b7, .ref b8, .int (nI wt), .int (nI wm), .int (nI wg), .long (lN wo), .int (nI wd), .ref b9]))] H := hP
  have hD : va_D A [(b1, .inl (cJ, 14000, .inr (.inl (fun j => lN (nd0 j))))), (a4, .inl (cI, 25, .inl sz)), (a5, .inl (cI, 25, .inl lf)), (a6, .inl (cI, 25, .inl rt)), (a9, .inl (cI, 25, .inl (fun j => nI (kp j)))), (b2, .inl (cI, 256, .inl (fun j => nI (ba j)))), (b3, .inl (cI, 256, .inl (fun j => nI (rv j)))), (rm, .inr (4, [.int (nI 0), .ref a1, .ref a2, .ref a3, .ref a4, .ref a5, .ref a6, .ref a7, .ref a8, .ref a9, .int (nI tp), .int (nI ((lvs sp0 1).length)), .ref b1, .int (nI bl), .ref b2, .ref b3, .int (nI jn), .int (nI sn), .ref b4, .ref b5, .ref b6, .ref b7, .ref b8, .int (nI wt), .int (nI wm), .int (nI wg), .long (lN wo), .int (nI wd), .ref b9]))] := hD
  refine n_if_ne (tgt := 8) hx hb dX4_free_4 (by decide) (by first | assumption | omega) (fun c1 => ?_) (fun c1 => ?_)
  · skip
    refine lv_aload_n hx hb dX4_free_8 rfl (lv_at hl 0 rfl) ?_
    refine lv_iload_n hx hb dX4_free_9 rfl (lv_at hl 1 rfl) ?_
    refine k_goR (W.runV (As := [.int (nI (adr tp S L R y))]) (rest := []) ⟨hx, hb, hml, hown, hts⟩ (c_X4_blockOf l g cI cJ cZ rm a1 a2 a3 a4 a5 a6 a7 a8 a9 b1 b2 b3 b4 b5 b6 b7 b8 b9 0 tp ((lvs sp0 1).length) bl jn sn wt wm wg wo wd ba (nI (adr tp S L R y)) b0 hbl hb0 hb3 hb4) (cwV 1 hts gX4_free_X4_blockOf rfl rfl rfl (by decide +kernel) ⟨Nat.le_of_ble_eq_true rfl, Nat.le_of_ble_eq_true rfl⟩) (k_preRV hk hP [7, 5] rfl (ci := 4) (q0 := 0) rfl rfl) rfl rfl hl.1 rfl (lv_room (Nat.le_of_ble_eq_true rfl)) dX4_free_10 ⟨by first | exact Nat.zero_le _ | omega, by first | exact Nat.zero_le _ | omega⟩) ?_
    refine lv_istore_n (lv' := [(2, .int (nI b0)), (0, .ref rm), (1, .int (nI (adr tp S L R y)))]) hx hb dX4_free_13 rfl hl (by decide) rfl (fun ls hl => ?_)
    refine lv_aload_n hx hb dX4_free_14 rfl (lv_at hl 1 rfl) ?_
    refine lv_iload_n hx hb dX4_free_15 rfl (lv_at hl 0 rfl) ?_
    refine n_if_ge (tgt := 23) hx hb dX4_free_16 (by decide) (by first | assumption | omega) ?_
    refine lv_iconst (v := nI 0) hx hb dX4_free_23 (by decide) ?_
    refine va_put (D := g) (ci := 4) (v := .int (nI 0)) (ty := .int) (C := RX4) (T := TX4) (N := 29) hx hb hts hinX4 tyX4 tyX4_ok nmX4 hown hK hP hD hS 7 rfl rfl 0 (by decide) (hts (.fieldLink RX4 66 "BuddyRoofModel" "code" "I") (by decide +kernel)) (fun _ h9 => h9) rfl (by decide +kernel) rfl rfl (Nat.le_of_ble_eq_true rfl) dX4_free_24 (fun H locs hP hD hS => ?_)
    have hP : va_P g vwCl [(b1, .inl (cJ, 14000, .inr (.inl (fun j => lN (nd0 j))))), (a4, .inl (cI, 25, .inl sz)), (a5, .inl (cI, 25, .inl lf)), (a6, .inl (cI, 25, .inl rt)), (a9, .inl (cI, 25, .inl (fun j => nI (kp j)))), (b2, .inl (cI, 256, .inl (fun j => nI (ba j)))), (b3, .inl (cI, 256, .inl (fun j => nI (rv j)))), (rm, .inr (4, [.int (nI 0), .ref a1, .ref a2, .ref a3, .ref a4, .ref a5, .ref a6, .ref a7, .ref a8, .ref a9, .int (nI tp), .int (nI ((lvs sp0 1).length)), .ref b1, .int (nI bl), .ref b2, .ref b3, .int (nI jn), .int (nI sn), .ref b4, .ref b5, .ref b6, .ref b7, .ref b8, .int (nI wt), .int (nI wm), .int (nI wg), .long (lN wo), .int (nI wd), .ref b9]))] H := hP
    have hD : va_D A [(b1, .inl (cJ, 14000, .inr (.inl (fun j => lN (nd0 j))))), (a4, .inl (cI, 25, .inl sz)), (a5, .inl (cI, 25, .inl lf)), (a6, .inl (cI, 25, .inl rt)), (a9, .inl (cI, 25, .inl (fun j => nI (kp j)))), (b2, .inl (cI, 256, .inl (fun j => nI (ba j)))), (b3, .inl (cI, 256, .inl (fun j => nI (rv j)))), (rm, .inr (4, [.int (nI 0), .ref a1, .ref a2, .ref a3, .ref a4, .ref a5, .ref a6, .ref a7, .ref a8, .ref a9, .int (nI tp), .int (nI ((lvs sp0 1).length)), .ref b1, .int (nI bl), .ref b2, .ref b3, .int (nI jn), .int (nI sn), .ref b4, .ref b5, .ref b6, .ref b7, .ref b8, .int (nI wt), .int (nI wm), .int (nI wg), .long (lN wo), .int (nI wd), .ref b9]))] := hD
    refine lv_iload_n hx hb dX4_free_27 rfl (lv_at hl 0 rfl) ?_
    refine n_if_lt (tgt := 36) hx hb dX4_free_28 (by decide) (by first | assumption | omega) ?_
    refine lv_aload_n hx hb dX4_free_31 rfl (lv_at hl 1 rfl) ?_
    refine lv_iload_n hx hb dX4_free_32 rfl (lv_at hl 0 rfl) ?_
    refine k_goV (wr := []) (va_runV (As := [.int (nI b0)]) (rest := []) ⟨hx, hb, hml, hown, hts⟩ (c_X4_freeBlock l g cI cJ cZ rm a1 a2 a3 a4 a5 a6 a7 a8 a9 b1 b2 b3 b4 b5 b6 b7 b8 b9 0 tp bl jn sn wt wm wg wo wd sz lf rt S L R rc sp0 rq0 nd0 kp ba rv b0 y  hR hT0 hW0 hlen0 hrl hkp hbl hb0 hba hry _) (cwV 1 hts gX4_free_X4_freeBlock rfl rfl rfl (by decide +kernel) ⟨Nat.le_of_ble_eq_true rfl, Nat.le_of_ble_eq_true rfl⟩) (k_preV hk hP hD [7, 0, 1, 2, 3, 4, 5, 6] rfl rfl (ci := 4) (q0 := 0) rfl rfl) rfl rfl hl.1 rfl (lv_room (Nat.le_of_ble_eq_true rfl)) dX4_free_33 ⟨by first | exact Nat.zero_le _ | omega, by first | exact Nat.zero_le _ | omega⟩) hP hD hS hA [7, 0, 1, 2, 3, 4, 5, 6] [] rfl rfl rfl (by decide) (fun nd1 H locs hu hP hD hS => ?_)
    have hP : va_P g vwCl [(rm, .inr (4, [.int (nI 0), .ref a1, .ref a2, .ref a3, .ref a4, .ref a5, .ref a6, .ref a7, .ref a8, .ref a9, .int (nI tp), .int (nI ((lvs (aUp (cls tp L R) kp (upN rq0 y 0) 24 (sp0, y, 0)).1 1).length)), .ref b1, .int (nI (bl - 1)), .ref b2, .ref b3, .int (nI (jn + (aUp (cls tp L R) kp (upN rq0 y 0) 24 (sp0, y, 0)).2.2)), .int (nI sn), .ref b4, .ref b5, .ref b6, .ref b7, .ref b8, .int (nI wt), .int (nI wm), .int (nI wg), .long (lN wo), .int (nI wd), .ref b9])), (b1, .inl (cJ, 14000, .inr (.inl (fun j => lN (nd1 j))))), (a4, .inl (cI, 25, .inl sz)), (a5, .inl (cI, 25, .inl lf)), (a6, .inl (cI, 25, .inl rt)), (a9, .inl (cI, 25, .inl (fun j => nI (kp j)))), (b2, .inl (cI, 256, .inl (fun j => nI ((upN ba b0 (ba (bl - 1))) j)))), (b3, .inl (cI, 256, .inl (fun j => nI ((upN rv b0 (rv (bl - 1))) j))))] H := hP
    have hD : va_D A [(rm, .inr (4, [.int (nI 0), .ref a1, .ref a2, .ref a3, .ref a4, .ref a5, .ref a6, .ref a7, .ref a8, .ref a9, .int (nI tp), .int (nI ((lvs (aUp (cls tp L R) kp (upN rq0 y 0) 24 (sp0, y, 0)).1 1).length)), .ref b1, .int (nI (bl - 1)), .ref b2, .ref b3, .int (nI (jn + (aUp (cls tp L R) kp (upN rq0 y 0) 24 (sp0, y, 0)).2.2)), .int (nI sn), .ref b4, .ref b5, .ref b6, .ref b7, .ref b8, .int (nI wt), .int (nI wm), .int (nI wg), .long (lN wo), .int (nI wd), .ref b9])), (b1, .inl (cJ, 14000, .inr (.inl (fun j => lN (nd1 j))))), (a4, .inl (cI, 25, .inl sz)), (a5, .inl (cI, 25, .inl lf)), (a6, .inl (cI, 25, .inl rt)), (a9, .inl (cI, 25, .inl (fun j => nI (kp j)))), (b2, .inl (cI, 256, .inl (fun j => nI ((upN ba b0 (ba (bl - 1))) j)))), (b3, .inl (cI, 256, .inl (fun j => nI ((upN rv b0 (rv (bl - 1))) j))))] := hD
    have hP := hP.sub (ws' := [(rm, .inr (4, [.int (nI 0), .ref a1, .ref a2, .ref a3, .ref a4, .ref a5, .ref a6, .ref a7, .ref a8, .ref a9, .int (nI tp), .int (nI ((lvs (aUp (cls tp L R) kp (upN rq0 y 0) 24 (sp0, y, 0)).1 1).length)), .ref b1, .int (nI (bl - 1)), .ref b2, .ref b3, .int (nI (jn + (aUp (cls tp L R) kp (upN rq0 y 0) 24 (sp0, y, 0)).2.2)), .int (nI sn), .ref b4, .ref b5, .ref b6, .ref b7, .ref b8, .int (nI wt), .int (nI wm), .int (nI wg), .long (lN wo), .int (nI wd), .ref b9])), (b1, .inl (cJ, 14000, .inr (.inl (fun j => lN (nd1 j))))), (a4, .inl (cI, 25, .inl sz)), (a5, .inl (cI, 25, .inl lf)), (a6, .inl (cI, 25, .inl rt)), (a9, .inl (cI, 25, .inl (fun j => nI (kp j)))), (b2, .inl (cI, 256, .inl (fun j => nI ((upN ba b0 (ba (bl - 1))) j)))), (b3, .inl (cI, 256, .inl (fun j => nI ((upN rv b0 (rv (bl - 1))) j))))]) [0, 1, 2, 3, 4, 5, 6, 7] rfl
    have hD := hD.sub (ws' := [(rm, .inr (4, [.int (nI 0), .ref a1, .ref a2, .ref a3, .ref a4, .ref a5, .ref a6, .ref a7, .ref a8, .ref a9, .int (nI tp), .int (nI ((lvs (aUp (cls tp L R) kp (upN rq0 y 0) 24 (sp0, y, 0)).1 1).length)), .ref b1, .int (nI (bl - 1)), .ref b2, .ref b3, .int (nI (jn + (aUp (cls tp L R) kp (upN rq0 y 0) 24 (sp0, y, 0)).2.2)), .int (nI sn), .ref b4, .ref b5, .ref b6, .ref b7, .ref b8, .int (nI wt), .int (nI wm), .int (nI wg), .long (lN wo), .int (nI wd), .ref b9])), (b1, .inl (cJ, 14000, .inr (.inl (fun j => lN (nd1 j))))), (a4, .inl (cI, 25, .inl sz)), (a5, .inl (cI, 25, .inl lf)), (a6, .inl (cI, 25, .inl rt)), (a9, .inl (cI, 25, .inl (fun j => nI (kp j)))), (b2, .inl (cI, 256, .inl (fun j => nI ((upN ba b0 (ba (bl - 1))) j)))), (b3, .inl (cI, 256, .inl (fun j => nI ((upN rv b0 (rv (bl - 1))) j))))]) [0, 1, 2, 3, 4, 5, 6, 7] rfl rfl
    refine W.widen (k := 0) (n := 0) (by first | exact Nat.le_refl _ | omega) (by first | exact Nat.le_refl _ | omega) ?_
    exact k_retV (sz := 0) hx hb hr hlocks hAe hS hP hD (nd1, (upN ba b0 (ba (bl - 1))), (upN rv b0 (rv (bl - 1))), upN bf b0 (bf (bl - 1))) (rfl) (⟨hu, by have q9 := bW_free hB hb0; rw [hb2] at q9; exact q9⟩) dX4_free_36
  · exact (by exact absurd c1 (by decide))
set_option maxHeartbeats 4000000 in
set_option maxRecDepth 100000 in
theorem c_X4_free_n (l : Launch) (g : va_G) (cI cJ cZ : ClassId) (rm a1 a2 a3 a4 a5 a6 a7 a8 a9 b1 b2 b3 b4 b5 b6 b7 b8 b9 : Nat) (cd tp mn bl jn sn wt wm wg wo wd : Nat) (ba : Nat → Nat) (v : Int32) (htp : 0 < tp ∧ tp < 2 ^ 31) (hbl : bl ≤ 256) (hbn : ∀ j, j < bl → ¬ nI (ba j) = v) : kV l g (kty cI cJ cZ) yX4_free wsX4_free ({ frames := 1, cells := 0, slots := 0, locals := 22 }) [.ref rm, .int v] [(rm, .inr (4, [.int (nI cd), .ref a1, .ref a2, .ref a3, .ref a4, .ref a5, .ref a6, .ref a7, .ref a8, .ref a9, .int (nI tp), .int (nI mn), .ref b1, .int (nI bl), .ref b2, .ref b3, .int (nI jn), .int (nI sn), .ref b4, .ref b5, .ref b6, .ref b7, .ref b8, .int (nI wt), .int (nI wm), .int (nI wg), .long (lN wo), .int (nI wd), .ref b9])), (b2, .inl (cI, 256, .inl (fun j => nI (ba j))))] (S := Unit) (fun _ => True) (fun u => [(rm, .inr (4, [.int (nI 2), .ref a1, .ref a2, .ref a3, .ref a4, .ref a5, .ref a6, .ref a7, .ref a8, .ref a9, .int (nI tp), .int (nI mn), .ref b1, .int (nI bl), .ref b2, .ref b3, .int (nI jn), .int (nI sn), .ref b4, .ref b5, .ref b6, .ref b7, .ref b8, .int (nI wt), .int (nI wm), .int (nI wg), .long (lN wo), .int (nI wd), .ref b9])), (b2, .inl (cI, 256, .inl (fun j => nI (ba j))))]) 0 0 := by
  intro sz
  refine Met.ofW (cc := cX4_free) (maxL := 3) (ret := none) (by decide) rfl ?_
  intro p e s m args below meth c s₁ B hml hv
  obtain ⟨rfl, hsz, hP, hk, hD0⟩ := hv
  subst hsz
  have hx := B.exec
  have hb := B.bytes
  have hr := B.returns
  have hts := atoms_spec (ws := wsX4_free) B.pre
  have hown : s.vm.findClass RX4 = some m.cls := findClass_of_methodNamed B.named
  have hlocks := B.notSynchronized
  have hK := hk.1
  have hinX4 : ∀ w ∈ wsX40, w ∈ wsX4_free := by decide +kernel
  obtain ⟨A, hAe⟩ : ∃ A, va_A [(rm, .inr (4, [.int (nI cd), .ref a1, .ref a2, .ref a3, .ref a4, .ref a5, .ref a6, .ref a7, .ref a8, .ref a9, .int (nI tp), .int (nI mn), .ref b1, .int (nI bl), .ref b2, .ref b3, .int (nI jn), .int (nI sn), .ref b4, .ref b5, .ref b6, .ref b7, .ref b8, .int (nI wt), .int (nI wm), .int (nI wg), .long (lN wo), .int (nI wd), .ref b9])), (b2, .inl (cI, 256, .inl (fun j => nI (ba j))))] s.heap.size = A := ⟨_, rfl⟩
  have hD := hD0.self (sz := s.heap.size)
  rw [hAe] at hD
  have hA : ∀ q : Nat, s.heap.size ≤ q → A q := fun q h => by rw [← hAe]; exact Or.inr h
  have hS : va_S A s.heap s.heap [] := va_S.rf
  have hl := lv_entry ([.ref rm, .int v]) (n := 3) (Nat.le_of_ble_eq_true rfl)
  rw [lg_entry_eq]
  generalize (lg_sl ([.ref rm, .int v]) ++ List.replicate (3 - (lg_sl ([.ref rm, .int v])).length) Slot.unset).toArray = ls at hl ⊢
  have hl : lv_has ls 3 [(0, .ref rm), (1, .int v)] := hl
  refine lv_aload_n hx hb dX4_free_0 rfl (lv_at hl 0 rfl) ?_
  refine k_goI (wr := [(b2, .inl (cI, 256, .inl (fun j => nI (ba j))))]) (va_runV (As := []) (rest := []) ⟨hx, hb, hml, hown, hts⟩ (c_X4_isThere l g cI cJ cZ rm a1 a2 a3 a4 a5 a6 a7 a8 a9 b1 b2 b3 b4 b5 b6 b7 b8 b9 cd tp mn bl jn sn wt wm wg wo wd  htp _) (cwV 0 hts gX4_free_X4_isThere rfl rfl rfl (by decide +kernel) ⟨Nat.le_of_ble_eq_true rfl, Nat.le_of_ble_eq_true rfl⟩) (k_preV hk hP hD [0] rfl rfl (ci := 4) (q0 := 0) rfl rfl) rfl rfl hl.1 rfl (lv_room (Nat.le_of_ble_eq_true rfl)) dX4_free_1 ⟨by first | exact Nat.zero_le _ | omega, by first | exact Nat.zero_le _ | omega⟩) hP hD hS hA [0] [1] rfl rfl rfl (by decide) (fun rv _ H locs hu hP hD hS => ?_)
  subst hu
  have hP : va_P g vwCl [(b2, .inl (cI, 256, .inl (fun j => nI (ba j)))), (rm, .inr (4, [.int (nI 0), .ref a1, .ref a2, .ref a3, .ref a4, .ref a5, .ref a6, .ref a7, .ref a8, .ref a9, .int (nI tp), .int (nI mn), .ref b1, .int (nI bl), .ref b2, .ref b3, .int (nI jn), .int (nI sn), .ref b4, .ref b5, .ref b6, .ref b7, .ref b8, .int (nI wt), .int (nI wm), .int (nI wg), .long (lN wo), .int (nI wd), .ref b9]))] H := hP
  have hD : va_D A [(b2, .inl (cI, 256, .inl (fun j => nI (ba j)))), (rm, .inr (4, [.int (nI 0), .ref a1, .ref a2, .ref a3, .ref a4, .ref a5, .ref a6, .ref a7, .ref a8, .ref a9, .int (nI tp), .int (nI mn), .ref b1, .int (nI bl), .ref b2, .ref b3, .int (nI jn), .int (nI sn), .ref b4, .ref b5, .ref b6, .ref b7, .ref b8, .int (nI wt), .int (nI wm), .int (nI wg), .long (lN wo), .int (nI wd), .ref b9]))] := hD
  refine n_if_ne (tgt := 8) hx hb dX4_free_4 (by decide) (by first | assumption | omega) (fun c1 => ?_) (fun c1 => ?_)
  · skip
    refine lv_aload_n hx hb dX4_free_8 rfl (lv_at hl 0 rfl) ?_
    refine lv_iload_n hx hb dX4_free_9 rfl (lv_at hl 1 rfl) ?_
    refine k_goR (W.runV (As := [.int v]) (rest := []) ⟨hx, hb, hml, hown, hts⟩ (c_X4_blockOf_n l g cI cJ cZ rm a1 a2 a3 a4 a5 a6 a7 a8 a9 b1 b2 b3 b4 b5 b6 b7 b8 b9 0 tp mn bl jn sn wt wm wg wo wd ba v hbl hbn) (cwV 1 hts gX4_free_X4_blockOf rfl rfl rfl (by decide +kernel) ⟨Nat.le_of_ble_eq_true rfl, Nat.le_of_ble_eq_true rfl⟩) (k_preRV hk hP [1, 0] rfl (ci := 4) (q0 := 0) rfl rfl) rfl rfl hl.1 rfl (lv_room (Nat.le_of_ble_eq_true rfl)) dX4_free_10 ⟨by first | exact Nat.zero_le _ | omega, by first | exact Nat.zero_le _ | omega⟩) ?_
    refine lv_istore_n (lv' := [(2, .int (-1)), (0, .ref rm), (1, .int v)]) hx hb dX4_free_13 rfl hl (by decide) rfl (fun ls hl => ?_)
    refine lv_aload_n hx hb dX4_free_14 rfl (lv_at hl 1 rfl) ?_
    refine lv_iload_n hx hb dX4_free_15 rfl (lv_at hl 0 rfl) ?_
    refine lv_if_ge (tgt := 23) hx hb dX4_free_16 (by decide) (fun c2 => ?_) (fun c2 => ?_)
    · exact (by exact absurd c2 (by decide))
    · skip
      refine lv_iconst (v := nI 2) hx hb dX4_free_19 (by decide) ?_
      refine lv_goto (tgt := 24) hx hb dX4_free_20 (by decide) ?_
      refine va_put (D := g) (ci := 4) (v := .int (nI 2)) (ty := .int) (C := RX4) (T := TX4) (N := 29) hx hb hts hinX4 tyX4 tyX4_ok nmX4 hown hK hP hD hS 1 rfl rfl 0 (by decide) (hts (.fieldLink RX4 66 "BuddyRoofModel" "code" "I") (by decide +kernel)) (fun _ h9 => h9) rfl (by decide +kernel) rfl rfl (Nat.le_of_ble_eq_true rfl) dX4_free_24 (fun H locs hP hD hS => ?_)
      have hP : va_P g vwCl [(b2, .inl (cI, 256, .inl (fun j => nI (ba j)))), (rm, .inr (4, [.int (nI 2), .ref a1, .ref a2, .ref a3, .ref a4, .ref a5, .ref a6, .ref a7, .ref a8, .ref a9, .int (nI tp), .int (nI mn), .ref b1, .int (nI bl), .ref b2, .ref b3, .int (nI jn), .int (nI sn), .ref b4, .ref b5, .ref b6, .ref b7, .ref b8, .int (nI wt), .int (nI wm), .int (nI wg), .long (lN wo), .int (nI wd), .ref b9]))] H := hP
      have hD : va_D A [(b2, .inl (cI, 256, .inl (fun j => nI (ba j)))), (rm, .inr (4, [.int (nI 2), .ref a1, .ref a2, .ref a3, .ref a4, .ref a5, .ref a6, .ref a7, .ref a8, .ref a9, .int (nI tp), .int (nI mn), .ref b1, .int (nI bl), .ref b2, .ref b3, .int (nI jn), .int (nI sn), .ref b4, .ref b5, .ref b6, .ref b7, .ref b8, .int (nI wt), .int (nI wm), .int (nI wg), .long (lN wo), .int (nI wd), .ref b9]))] := hD
      refine lv_iload_n hx hb dX4_free_27 rfl (lv_at hl 0 rfl) ?_
      refine lv_if_lt (tgt := 36) hx hb dX4_free_28 (by decide) (fun c3 => ?_) (fun c3 => ?_)
      · skip
        have hP := hP.sub (ws' := [(rm, .inr (4, [.int (nI 2), .ref a1, .ref a2, .ref a3, .ref a4, .ref a5, .ref a6, .ref a7, .ref a8, .ref a9, .int (nI tp), .int (nI mn), .ref b1, .int (nI bl), .ref b2, .ref b3, .int (nI jn), .int (nI sn), .ref b4, .ref b5, .ref b6, .ref b7, .ref b8, .int (nI wt), .int (nI wm), .int (nI wg), .long (lN wo), .int (nI wd), .ref b9])), (b2, .inl (cI, 256, .inl (fun j => nI (ba j))))]) [1, 0] rfl
        have hD := hD.sub (ws' := [(rm, .inr (4, [.int (nI 2), .ref a1, .ref a2, .ref a3, .ref a4, .ref a5, .ref a6, .ref a7, .ref a8, .ref a9, .int (nI tp), .int (nI mn), .ref b1, .int (nI bl), .ref b2, .ref b3, .int (nI jn), .int (nI sn), .ref b4, .ref b5, .ref b6, .ref b7, .ref b8, .int (nI wt), .int (nI wm), .int (nI wg), .long (lN wo), .int (nI wd), .ref b9])), (b2, .inl (cI, 256, .inl (fun j => nI (ba j))))]) [1, 0] rfl rfl
        refine W.widen (k := 0) (n := 0) (by first | exact Nat.le_refl _ | omega) (by first | exact Nat.le_refl _ | omega) ?_
        exact k_retV (sz := 0) hx hb hr hlocks hAe hS hP hD () (rfl) (trivial) dX4_free_36
      · exact (by exact absurd (by decide) c3)
  · exact (by exact absurd c1 (by decide))
set_option maxHeartbeats 4000000 in
set_option maxRecDepth 100000 in
theorem c_X4_change_n (l : Launch) (g : va_G) (cI cJ cZ : ClassId) (rm a1 a2 a3 a4 a5 a6 a7 a8 a9 b1 b2 b3 b4 b5 b6 b7 b8 b9 : Nat) (cd tp mn bl jn sn wt wm wg wo wd : Nat) (ba : Nat → Nat) (v v2 : Int32) (htp : 0 < tp ∧ tp < 2 ^ 31) (hbl : bl ≤ 256) (hbn : ∀ j, j < bl → ¬ nI (ba j) = v) : kI l g (kty cI cJ cZ) yX4_change wsX4_change ({ frames := 1, cells := 0, slots := 0, locals := 22 }) [.ref rm, .int v, .int v2] [(rm, .inr (4, [.int (nI cd), .ref a1, .ref a2, .ref a3, .ref a4, .ref a5, .ref a6, .ref a7, .ref a8, .ref a9, .int (nI tp), .int (nI mn), .ref b1, .int (nI bl), .ref b2, .ref b3, .int (nI jn), .int (nI sn), .ref b4, .ref b5, .ref b6, .ref b7, .ref b8, .int (nI wt), .int (nI wm), .int (nI wg), .long (lN wo), .int (nI wd), .ref b9])), (b2, .inl (cI, 256, .inl (fun j => nI (ba j))))] (S := Unit) (fun r _ => r = nI 0) (fun u => [(rm, .inr (4, [.int (nI 2), .ref a1, .ref a2, .ref a3, .ref a4, .ref a5, .ref a6, .ref a7, .ref a8, .ref a9, .int (nI tp), .int (nI mn), .ref b1, .int (nI bl), .ref b2, .ref b3, .int (nI jn), .int (nI sn), .ref b4, .ref b5, .ref b6, .ref b7, .ref b8, .int (nI wt), .int (nI wm), .int (nI wg), .long (lN wo), .int (nI wd), .ref b9])), (b2, .inl (cI, 256, .inl (fun j => nI (ba j))))]) 0 0 := by
  intro sz
  refine Met.ofW (cc := cX4_change) (maxL := 5) (ret := (some .int)) (by decide) rfl ?_
  intro p e s m args below meth c s₁ B hml hv
  obtain ⟨rfl, hsz, hP, hk, hD0⟩ := hv
  subst hsz
  have hx := B.exec
  have hb := B.bytes
  have hr := B.returns
  have hts := atoms_spec (ws := wsX4_change) B.pre
  have hown : s.vm.findClass RX4 = some m.cls := findClass_of_methodNamed B.named
  have hlocks := B.notSynchronized
  have hK := hk.1
  obtain ⟨A, hAe⟩ : ∃ A, va_A [(rm, .inr (4, [.int (nI cd), .ref a1, .ref a2, .ref a3, .ref a4, .ref a5, .ref a6, .ref a7, .ref a8, .ref a9, .int (nI tp), .int (nI mn), .ref b1, .int (nI bl), .ref b2, .ref b3, .int (nI jn), .int (nI sn), .ref b4, .ref b5, .ref b6, .ref b7, .ref b8, .int (nI wt), .int (nI wm), .int (nI wg), .long (lN wo), .int (nI wd), .ref b9])), (b2, .inl (cI, 256, .inl (fun j => nI (ba j))))] s.heap.size = A := ⟨_, rfl⟩
  have hD := hD0.self (sz := s.heap.size)
  rw [hAe] at hD
  have hA : ∀ q : Nat, s.heap.size ≤ q → A q := fun q h => by rw [← hAe]; exact Or.inr h
  have hS : va_S A s.heap s.heap [] := va_S.rf
  have hl := lv_entry ([.ref rm, .int v, .int v2]) (n := 5) (Nat.le_of_ble_eq_true rfl)
  rw [lg_entry_eq]
  generalize (lg_sl ([.ref rm, .int v, .int v2]) ++ List.replicate (5 - (lg_sl ([.ref rm, .int v, .int v2])).length) Slot.unset).toArray = ls at hl ⊢
  have hl : lv_has ls 5 [(0, .ref rm), (1, .int v), (2, .int v2)] := hl
  refine lv_aload_n hx hb dX4_change_0 rfl (lv_at hl 0 rfl) ?_
  refine k_goI (wr := [(b2, .inl (cI, 256, .inl (fun j => nI (ba j))))]) (va_runV (As := []) (rest := []) ⟨hx, hb, hml, hown, hts⟩ (c_X4_isThere l g cI cJ cZ rm a1 a2 a3 a4 a5 a6 a7 a8 a9 b1 b2 b3 b4 b5 b6 b7 b8 b9 cd tp mn bl jn sn wt wm wg wo wd  htp _) (cwV 0 hts gX4_change_X4_isThere rfl rfl rfl (by decide +kernel) ⟨Nat.le_of_ble_eq_true rfl, Nat.le_of_ble_eq_true rfl⟩) (k_preV hk hP hD [0] rfl rfl (ci := 4) (q0 := 0) rfl rfl) rfl rfl hl.1 rfl (lv_room (Nat.le_of_ble_eq_true rfl)) dX4_change_1 ⟨by first | exact Nat.zero_le _ | omega, by first | exact Nat.zero_le _ | omega⟩) hP hD hS hA [0] [1] rfl rfl rfl (by decide) (fun rv _ H locs hu hP hD hS => ?_)
  subst hu
  have hP : va_P g vwCl [(b2, .inl (cI, 256, .inl (fun j => nI (ba j)))), (rm, .inr (4, [.int (nI 0), .ref a1, .ref a2, .ref a3, .ref a4, .ref a5, .ref a6, .ref a7, .ref a8, .ref a9, .int (nI tp), .int (nI mn), .ref b1, .int (nI bl), .ref b2, .ref b3, .int (nI jn), .int (nI sn), .ref b4, .ref b5, .ref b6, .ref b7, .ref b8, .int (nI wt), .int (nI wm), .int (nI wg), .long (lN wo), .int (nI wd), .ref b9]))] H := hP
  have hD : va_D A [(b2, .inl (cI, 256, .inl (fun j => nI (ba j)))), (rm, .inr (4, [.int (nI 0), .ref a1, .ref a2, .ref a3, .ref a4, .ref a5, .ref a6, .ref a7, .ref a8, .ref a9, .int (nI tp), .int (nI mn), .ref b1, .int (nI bl), .ref b2, .ref b3, .int (nI jn), .int (nI sn), .ref b4, .ref b5, .ref b6, .ref b7, .ref b8, .int (nI wt), .int (nI wm), .int (nI wg), .long (lN wo), .int (nI wd), .ref b9]))] := hD
  refine n_if_ne (tgt := 9) hx hb dX4_change_4 (by decide) (by first | assumption | omega) (fun c1 => ?_) (fun c1 => ?_)
  · skip
    refine lv_aload_n hx hb dX4_change_9 rfl (lv_at hl 0 rfl) ?_
    refine lv_iload_n hx hb dX4_change_10 rfl (lv_at hl 1 rfl) ?_
    refine k_goR (W.runV (As := [.int v]) (rest := []) ⟨hx, hb, hml, hown, hts⟩ (c_X4_blockOf_n l g cI cJ cZ rm a1 a2 a3 a4 a5 a6 a7 a8 a9 b1 b2 b3 b4 b5 b6 b7 b8 b9 0 tp mn bl jn sn wt wm wg wo wd ba v hbl hbn) (cwV 1 hts gX4_change_X4_blockOf rfl rfl rfl (by decide +kernel) ⟨Nat.le_of_ble_eq_true rfl, Nat.le_of_ble_eq_true rfl⟩) (k_preRV hk hP [1, 0] rfl (ci := 4) (q0 := 0) rfl rfl) rfl rfl hl.1 rfl (lv_room (Nat.le_of_ble_eq_true rfl)) dX4_change_11 ⟨by first | exact Nat.zero_le _ | omega, by first | exact Nat.zero_le _ | omega⟩) ?_
    refine lv_istore_n (lv' := [(3, .int (-1)), (0, .ref rm), (1, .int v), (2, .int v2)]) hx hb dX4_change_14 rfl hl (by decide) rfl (fun ls hl => ?_)
    refine lv_iload_n hx hb dX4_change_15 rfl (lv_at hl 0 rfl) ?_
    refine lv_if_lt (tgt := 24) hx hb dX4_change_16 (by decide) (fun c2 => ?_) (fun c2 => ?_)
    · skip
      refine lv_aload_n hx hb dX4_change_24 rfl (lv_at hl 1 rfl) ?_
      refine lv_iconst (v := nI 2) hx hb dX4_change_25 (by decide) ?_
      refine k_goI (wr := [(b2, .inl (cI, 256, .inl (fun j => nI (ba j))))]) (va_runV (As := [.int (nI 2)]) (rest := []) ⟨hx, hb, hml, hown, hts⟩ (c_X4_raise l g cI cJ cZ rm a1 a2 a3 a4 a5 a6 a7 a8 a9 b1 b2 b3 b4 b5 b6 b7 b8 b9 0 tp mn bl jn sn wt wm wg wo wd 2  _) (cwV 1 hts gX4_change_X4_raise rfl rfl rfl (by decide +kernel) ⟨Nat.le_of_ble_eq_true rfl, Nat.le_of_ble_eq_true rfl⟩) (k_preV hk hP hD [1] rfl rfl (ci := 4) (q0 := 0) rfl rfl) rfl rfl hl.1 rfl (lv_room (Nat.le_of_ble_eq_true rfl)) dX4_change_26 ⟨by first | exact Nat.zero_le _ | omega, by first | exact Nat.zero_le _ | omega⟩) hP hD hS hA [1] [0] rfl rfl rfl (by decide) (fun rv _ H locs hu hP hD hS => ?_)
      subst hu
      have hP : va_P g vwCl [(b2, .inl (cI, 256, .inl (fun j => nI (ba j)))), (rm, .inr (4, [.int (nI 2), .ref a1, .ref a2, .ref a3, .ref a4, .ref a5, .ref a6, .ref a7, .ref a8, .ref a9, .int (nI tp), .int (nI mn), .ref b1, .int (nI bl), .ref b2, .ref b3, .int (nI jn), .int (nI sn), .ref b4, .ref b5, .ref b6, .ref b7, .ref b8, .int (nI wt), .int (nI wm), .int (nI wg), .long (lN wo), .int (nI wd), .ref b9]))] H := hP
      have hD : va_D A [(b2, .inl (cI, 256, .inl (fun j => nI (ba j)))), (rm, .inr (4, [.int (nI 2), .ref a1, .ref a2, .ref a3, .ref a4, .ref a5, .ref a6, .ref a7, .ref a8, .ref a9, .int (nI tp), .int (nI mn), .ref b1, .int (nI bl), .ref b2, .ref b3, .int (nI jn), .int (nI sn), .ref b4, .ref b5, .ref b6, .ref b7, .ref b8, .int (nI wt), .int (nI wm), .int (nI wg), .long (lN wo), .int (nI wd), .ref b9]))] := hD
      have hP := hP.sub (ws' := [(rm, .inr (4, [.int (nI 2), .ref a1, .ref a2, .ref a3, .ref a4, .ref a5, .ref a6, .ref a7, .ref a8, .ref a9, .int (nI tp), .int (nI mn), .ref b1, .int (nI bl), .ref b2, .ref b3, .int (nI jn), .int (nI sn), .ref b4, .ref b5, .ref b6, .ref b7, .ref b8, .int (nI wt), .int (nI wm), .int (nI wg), .long (lN wo), .int (nI wd), .ref b9])), (b2, .inl (cI, 256, .inl (fun j => nI (ba j))))]) [1, 0] rfl
      have hD := hD.sub (ws' := [(rm, .inr (4, [.int (nI 2), .ref a1, .ref a2, .ref a3, .ref a4, .ref a5, .ref a6, .ref a7, .ref a8, .ref a9, .int (nI tp), .int (nI mn), .ref b1, .int (nI bl), .ref b2, .ref b3, .int (nI jn), .int (nI sn), .ref b4, .ref b5, .ref b6, .ref b7, .ref b8, .int (nI wt), .int (nI wm), .int (nI wg), .long (lN wo), .int (nI wd), .ref b9])), (b2, .inl (cI, 256, .inl (fun j => nI (ba j))))]) [1, 0] rfl rfl
      refine W.widen (k := 0) (n := 0) (by first | exact Nat.le_refl _ | omega) (by first | exact Nat.le_refl _ | omega) ?_
      exact k_retI (sz := 0) (v := nI 0) hx hb hr hlocks hAe hS hP hD () (rfl) (rfl) dX4_change_29
    · exact (by exact absurd (by decide) c2)
  · exact (by exact absurd c1 (by decide))
set_option maxHeartbeats 4000000 in
set_option maxRecDepth 100000 in
theorem c_X4_change_w (l : Launch) (g : va_G) (cI cJ cZ : ClassId) (rm a1 a2 a3 a4 a5 a6 a7 a8 a9 b1 b2 b3 b4 b5 b6 b7 b8 b9 : Nat) (cd tp mn bl jn sn wt wm wg wo wd : Nat) (ba : Nat → Nat) (yv b0 : Nat) (v2 : Int32) (htp : 0 < tp ∧ tp < 2 ^ 31) (hbl : bl ≤ 256) (hb0 : b0 < bl) (hb3 : nI (ba b0) = nI yv) (hb4 : ∀ j, j < b0 → ¬ nI (ba j) = nI yv) (hv : ¬ nI 1 ≤ v2) : kI l g (kty cI cJ cZ) yX4_change wsX4_change ({ frames := 1, cells := 0, slots := 0, locals := 22 }) [.ref rm, .int (nI yv), .int v2] [(rm, .inr (4, [.int (nI cd), .ref a1, .ref a2, .ref a3, .ref a4, .ref a5, .ref a6, .ref a7, .ref a8, .ref a9, .int (nI tp), .int (nI mn), .ref b1, .int (nI bl), .ref b2, .ref b3, .int (nI jn), .int (nI sn), .ref b4, .ref b5, .ref b6, .ref b7, .ref b8, .int (nI wt), .int (nI wm), .int (nI wg), .long (lN wo), .int (nI wd), .ref b9])), (b2, .inl (cI, 256, .inl (fun j => nI (ba j))))] (S := Unit) (fun r _ => r = nI 0) (fun u => [(rm, .inr (4, [.int (nI 2), .ref a1, .ref a2, .ref a3, .ref a4, .ref a5, .ref a6, .ref a7, .ref a8, .ref a9, .int (nI tp), .int (nI mn), .ref b1, .int (nI bl), .ref b2, .ref b3, .int (nI jn), .int (nI sn), .ref b4, .ref b5, .ref b6, .ref b7, .ref b8, .int (nI wt), .int (nI wm), .int (nI wg), .long (lN wo), .int (nI wd), .ref b9])), (b2, .inl (cI, 256, .inl (fun j => nI (ba j))))]) 0 0 := by
  intro sz
  refine Met.ofW (cc := cX4_change) (maxL := 5) (ret := (some .int)) (by decide) rfl ?_
  intro p e s m args below meth c s₁ B hml hv
  obtain ⟨rfl, hsz, hP, hk, hD0⟩ := hv
  subst hsz
  have hx := B.exec
  have hb := B.bytes
  have hr := B.returns
  have hts := atoms_spec (ws := wsX4_change) B.pre
  have hown : s.vm.findClass RX4 = some m.cls := findClass_of_methodNamed B.named
  have hlocks := B.notSynchronized
  have hK := hk.1
  obtain ⟨A, hAe⟩ : ∃ A, va_A [(rm, .inr (4, [.int (nI cd), .ref a1, .ref a2, .ref a3, .ref a4, .ref a5, .ref a6, .ref a7, .ref a8, .ref a9, .int (nI tp), .int (nI mn), .ref b1, .int (nI bl), .ref b2, .ref b3, .int (nI jn), .int (nI sn), .ref b4, .ref b5, .ref b6, .ref b7, .ref b8, .int (nI wt), .int (nI wm), .int (nI wg), .long (lN wo), .int (nI wd), .ref b9])), (b2, .inl (cI, 256, .inl (fun j => nI (ba j))))] s.heap.size = A := ⟨_, rfl⟩
  have hD := hD0.self (sz := s.heap.size)
  rw [hAe] at hD
  have hA : ∀ q : Nat, s.heap.size ≤ q → A q := fun q h => by rw [← hAe]; exact Or.inr h
  have hS : va_S A s.heap s.heap [] := va_S.rf
  have hl := lv_entry ([.ref rm, .int (nI yv), .int v2]) (n := 5) (Nat.le_of_ble_eq_true rfl)
  rw [lg_entry_eq]
  generalize (lg_sl ([.ref rm, .int (nI yv), .int v2]) ++ List.replicate (5 - (lg_sl ([.ref rm, .int (nI yv), .int v2])).length) Slot.unset).toArray = ls at hl ⊢
  have hl : lv_has ls 5 [(0, .ref rm), (1, .int (nI yv)), (2, .int v2)] := hl
  refine lv_aload_n hx hb dX4_change_0 rfl (lv_at hl 0 rfl) ?_
  refine k_goI (wr := [(b2, .inl (cI, 256, .inl (fun j => nI (ba j))))]) (va_runV (As := []) (rest := []) ⟨hx, hb, hml, hown, hts⟩ (c_X4_isThere l g cI cJ cZ rm a1 a2 a3 a4 a5 a6 a7 a8 a9 b1 b2 b3 b4 b5 b6 b7 b8 b9 cd tp mn bl jn sn wt wm wg wo wd  htp _) (cwV 0 hts gX4_change_X4_isThere rfl rfl rfl (by decide +kernel) ⟨Nat.le_of_ble_eq_true rfl, Nat.le_of_ble_eq_true rfl⟩) (k_preV hk hP hD [0] rfl rfl (ci := 4) (q0 := 0) rfl rfl) rfl rfl hl.1 rfl (lv_room (Nat.le_of_ble_eq_true rfl)) dX4_change_1 ⟨by first | exact Nat.zero_le _ | omega, by first | exact Nat.zero_le _ | omega⟩) hP hD hS hA [0] [1] rfl rfl rfl (by decide) (fun rv _ H locs hu hP hD hS => ?_)
  subst hu
  have hP : va_P g vwCl [(b2, .inl (cI, 256, .inl (fun j => nI (ba j)))), (rm, .inr (4, [.int (nI 0), .ref a1, .ref a2, .ref a3, .ref a4, .ref a5, .ref a6, .ref a7, .ref a8, .ref a9, .int (nI tp), .int (nI mn), .ref b1, .int (nI bl), .ref b2, .ref b3, .int (nI jn), .int (nI sn), .ref b4, .ref b5, .ref b6, .ref b7, .ref b8, .int (nI wt), .int (nI wm), .int (nI wg), .long (lN wo), .int (nI wd), .ref b9]))] H := hP
  have hD : va_D A [(b2, .inl (cI, 256, .inl (fun j => nI (ba j)))), (rm, .inr (4, [.int (nI 0), .ref a1, .ref a2, .ref a3, .ref a4, .ref a5, .ref a6, .ref a7, .ref a8, .ref a9, .int (nI tp), .int (nI mn), .ref b1, .int (nI bl), .ref b2, .ref b3, .int (nI jn), .int (nI sn), .ref b4, .ref b5, .ref b6, .ref b7, .ref b8, .int (nI wt), .int (nI wm), .int (nI wg), .long (lN wo), .int (nI wd), .ref b9]))] := hD
  refine n_if_ne (tgt := 9) hx hb dX4_change_4 (by decide) (by first | assumption | omega) (fun c1 => ?_) (fun c1 => ?_)
  · skip
    refine lv_aload_n hx hb dX4_change_9 rfl (lv_at hl 0 rfl) ?_
    refine lv_iload_n hx hb dX4_change_10 rfl (lv_at hl 1 rfl) ?_
    refine k_goR (W.runV (As := [.int (nI yv)]) (rest := []) ⟨hx, hb, hml, hown, hts⟩ (c_X4_blockOf l g cI cJ cZ rm a1 a2 a3 a4 a5 a6 a7 a8 a9 b1 b2 b3 b4 b5 b6 b7 b8 b9 0 tp mn bl jn sn wt wm wg wo wd ba (nI yv) b0 hbl hb0 hb3 hb4) (cwV 1 hts gX4_change_X4_blockOf rfl rfl rfl (by decide +kernel) ⟨Nat.le_of_ble_eq_true rfl, Nat.le_of_ble_eq_true rfl⟩) (k_preRV hk hP [1, 0] rfl (ci := 4) (q0 := 0) rfl rfl) rfl rfl hl.1 rfl (lv_room (Nat.le_of_ble_eq_true rfl)) dX4_change_11 ⟨by first | exact Nat.zero_le _ | omega, by first | exact Nat.zero_le _ | omega⟩) ?_
    refine lv_istore_n (lv' := [(3, .int (nI b0)), (0, .ref rm), (1, .int (nI yv)), (2, .int v2)]) hx hb dX4_change_14 rfl hl (by decide) rfl (fun ls hl => ?_)
    refine lv_iload_n hx hb dX4_change_15 rfl (lv_at hl 0 rfl) ?_
    refine n_if_lt (tgt := 24) hx hb dX4_change_16 (by decide) (by first | assumption | omega) ?_
    refine lv_iload_n hx hb dX4_change_19 rfl (lv_at hl 3 rfl) ?_
    refine lv_iconst (v := nI 1) hx hb dX4_change_20 (by decide) ?_
    refine lv_icmp_ge (tgt := 30) hx hb dX4_change_21 (by decide) (fun c3 => ?_) (fun c3 => ?_)
    · exact (by exact absurd c3 hv)
    · skip
      refine lv_aload_n hx hb dX4_change_24 rfl (lv_at hl 1 rfl) ?_
      refine lv_iconst (v := nI 2) hx hb dX4_change_25 (by decide) ?_
      refine k_goI (wr := [(b2, .inl (cI, 256, .inl (fun j => nI (ba j))))]) (va_runV (As := [.int (nI 2)]) (rest := []) ⟨hx, hb, hml, hown, hts⟩ (c_X4_raise l g cI cJ cZ rm a1 a2 a3 a4 a5 a6 a7 a8 a9 b1 b2 b3 b4 b5 b6 b7 b8 b9 0 tp mn bl jn sn wt wm wg wo wd 2  _) (cwV 1 hts gX4_change_X4_raise rfl rfl rfl (by decide +kernel) ⟨Nat.le_of_ble_eq_true rfl, Nat.le_of_ble_eq_true rfl⟩) (k_preV hk hP hD [1] rfl rfl (ci := 4) (q0 := 0) rfl rfl) rfl rfl hl.1 rfl (lv_room (Nat.le_of_ble_eq_true rfl)) dX4_change_26 ⟨by first | exact Nat.zero_le _ | omega, by first | exact Nat.zero_le _ | omega⟩) hP hD hS hA [1] [0] rfl rfl rfl (by decide) (fun rv _ H locs hu hP hD hS => ?_)
      subst hu
      have hP : va_P g vwCl [(b2, .inl (cI, 256, .inl (fun j => nI (ba j)))), (rm, .inr (4, [.int (nI 2), .ref a1, .ref a2, .ref a3, .ref a4, .ref a5, .ref a6, .ref a7, .ref a8, .ref a9, .int (nI tp), .int (nI mn), .ref b1, .int (nI bl), .ref b2, .ref b3, .int (nI jn), .int (nI sn), .ref b4, .ref b5, .ref b6, .ref b7, .ref b8, .int (nI wt), .int (nI wm), .int (nI wg), .long (lN wo), .int (nI wd), .ref b9]))] H := hP
      have hD : va_D A [(b2, .inl (cI, 256, .inl (fun j => nI (ba j)))), (rm, .inr (4, [.int (nI 2), .ref a1, .ref a2, .ref a3, .ref a4, .ref a5, .ref a6, .ref a7, .ref a8, .ref a9, .int (nI tp), .int (nI mn), .ref b1, .int (nI bl), .ref b2, .ref b3, .int (nI jn), .int (nI sn), .ref b4, .ref b5, .ref b6, .ref b7, .ref b8, .int (nI wt), .int (nI wm), .int (nI wg), .long (lN wo), .int (nI wd), .ref b9]))] := hD
      have hP := hP.sub (ws' := [(rm, .inr (4, [.int (nI 2), .ref a1, .ref a2, .ref a3, .ref a4, .ref a5, .ref a6, .ref a7, .ref a8, .ref a9, .int (nI tp), .int (nI mn), .ref b1, .int (nI bl), .ref b2, .ref b3, .int (nI jn), .int (nI sn), .ref b4, .ref b5, .ref b6, .ref b7, .ref b8, .int (nI wt), .int (nI wm), .int (nI wg), .long (lN wo), .int (nI wd), .ref b9])), (b2, .inl (cI, 256, .inl (fun j => nI (ba j))))]) [1, 0] rfl
      have hD := hD.sub (ws' := [(rm, .inr (4, [.int (nI 2), .ref a1, .ref a2, .ref a3, .ref a4, .ref a5, .ref a6, .ref a7, .ref a8, .ref a9, .int (nI tp), .int (nI mn), .ref b1, .int (nI bl), .ref b2, .ref b3, .int (nI jn), .int (nI sn), .ref b4, .ref b5, .ref b6, .ref b7, .ref b8, .int (nI wt), .int (nI wm), .int (nI wg), .long (lN wo), .int (nI wd), .ref b9])), (b2, .inl (cI, 256, .inl (fun j => nI (ba j))))]) [1, 0] rfl rfl
      refine W.widen (k := 0) (n := 0) (by first | exact Nat.le_refl _ | omega) (by first | exact Nat.le_refl _ | omega) ?_
      exact k_retI (sz := 0) (v := nI 0) hx hb hr hlocks hAe hS hP hD () (rfl) (rfl) dX4_change_29
  · exact (by exact absurd c1 (by decide))
set_option maxHeartbeats 4000000 in
set_option maxRecDepth 100000 in
theorem c_X4_change_f (l : Launch) (g : va_G) (cI cJ cZ : ClassId) (rm a1 a2 a3 a4 a5 a6 a7 a8 a9 b1 b2 b3 b4 b5 b6 b7 b8 b9 : Nat) (cd tp bl jn sn wt wm wg wo wd : Nat) (sz lf rt : Nat → Int32) (S L R : Nat → Nat) (rc : Nat → Bool) (sp0 : Nat → Bool) (rq0 nd0 : Nat → Nat) (kp ba rv bf : Nat → Nat) (y w : Nat) (htp : 0 < tp ∧ tp < 2 ^ 31) (hR : RuleOK S L R rc tp) (hT0 : TOK tp S L R sp0 rq0) (hW0 : nW tp S L R rq0 nd0 (lvs sp0 1)) (hlen0 : (lvs sp0 1).length ≤ 14000) (hrl : rOK S L R rc sz lf rt) (hkp : ∀ j, kp j < 2 ^ 31) (hbl : bl ≤ 256) (hB : bW (adr tp S L R) rq0 bl ba rv bf) (hry : 0 < rq0 y) (hw1 : 1 ≤ w) (hwS : w ≤ S (cls tp L R y)) : kI l g (kty cI cJ cZ) yX4_change wsX4_change ({ frames := 2, cells := 0, slots := 0, locals := 43 }) [.ref rm, .int (nI (adr tp S L R y)), .int (nI w)] [(rm, .inr (4, [.int (nI cd), .ref a1, .ref a2, .ref a3, .ref a4, .ref a5, .ref a6, .ref a7, .ref a8, .ref a9, .int (nI tp), .int (nI ((lvs sp0 1).length)), .ref b1, .int (nI bl), .ref b2, .ref b3, .int (nI jn), .int (nI sn), .ref b4, .ref b5, .ref b6, .ref b7, .ref b8, .int (nI wt), .int (nI wm), .int (nI wg), .long (lN wo), .int (nI wd), .ref b9])), (b1, .inl (cJ, 14000, .inr (.inl (fun j => lN (nd0 j))))), (a4, .inl (cI, 25, .inl sz)), (a5, .inl (cI, 25, .inl lf)), (a6, .inl (cI, 25, .inl rt)), (a9, .inl (cI, 25, .inl (fun j => nI (kp j)))), (b2, .inl (cI, 256, .inl (fun j => nI (ba j)))), (b3, .inl (cI, 256, .inl (fun j => nI (rv j))))] (S := (Nat → Nat) × (Nat → Nat) × (Nat → Nat) × (Nat → Nat)) (fun r u => r = nI (adr tp S L R y) ∧ nW tp S L R (upN rq0 y w) u.1 (lvs sp0 1) ∧ bW (adr tp S L R) (upN rq0 y w) bl u.2.1 u.2.2.1 u.2.2.2) (fun u => [(rm, .inr (4, [.int (nI 0), .ref a1, .ref a2, .ref a3, .ref a4, .ref a5, .ref a6, .ref a7, .ref a8, .ref a9, .int (nI tp), .int (nI ((lvs sp0 1).length)), .ref b1, .int (nI bl), .ref b2, .ref b3, .int (nI jn), .int (nI sn), .ref b4, .ref b5, .ref b6, .ref b7, .ref b8, .int (nI wt), .int (nI wm), .int (nI wg), .long (lN wo), .int (nI wd), .ref b9])), (b1, .inl (cJ, 14000, .inr (.inl (fun j => lN (u.1 j))))), (a4, .inl (cI, 25, .inl sz)), (a5, .inl (cI, 25, .inl lf)), (a6, .inl (cI, 25, .inl rt)), (a9, .inl (cI, 25, .inl (fun j => nI (kp j)))), (b2, .inl (cI, 256, .inl (fun j => nI (u.2.1 j)))), (b3, .inl (cI, 256, .inl (fun j => nI (u.2.2.1 j))))]) 0 0 := by
  intro sz
  refine Met.ofW (cc := cX4_change) (maxL := 5) (ret := (some .int)) (by decide) rfl ?_
  intro p e s m args below meth c s₁ B hml hv
  obtain ⟨rfl, hsz, hP, hk, hD0⟩ := hv
  subst hsz
  have hx := B.exec
  have hb := B.bytes
  have hr := B.returns
  have hts := atoms_spec (ws := wsX4_change) B.pre
  have hown : s.vm.findClass RX4 = some m.cls := findClass_of_methodNamed B.named
  have hlocks := B.notSynchronized
  have hK := hk.1
  have hinX4 : ∀ w ∈ wsX40, w ∈ wsX4_change := by decide +kernel
  obtain ⟨A, hAe⟩ : ∃ A, va_A [(rm, .inr (4, [.int (nI cd), .ref a1, .ref a2, .ref a3, .ref a4, .ref a5, .ref a6, .ref a7, .ref a8, .ref a9, .int (nI tp), .int (nI ((lvs sp0 1).length)), .ref b1, .int (nI bl), .ref b2, .ref b3, .int (nI jn), .int (nI sn), .ref b4, .ref b5, .ref b6, .ref b7, .ref b8, .int (nI wt), .int (nI wm), .int (nI wg), .long (lN wo), .int (nI wd), .ref b9])), (b1, .inl (cJ, 14000, .inr (.inl (fun j => lN (nd0 j))))), (a4, .inl (cI, 25, .inl sz)), (a5, .inl (cI, 25, .inl lf)), (a6, .inl (cI, 25, .inl rt)), (a9, .inl (cI, 25, .inl (fun j => nI (kp j)))), (b2, .inl (cI, 256, .inl (fun j => nI (ba j)))), (b3, .inl (cI, 256, .inl (fun j => nI (rv j))))] s.heap.size = A := ⟨_, rfl⟩
  have hD := hD0.self (sz := s.heap.size)
  rw [hAe] at hD
  have hA : ∀ q : Nat, s.heap.size ≤ q → A q := fun q h => by rw [← hAe]; exact Or.inr h
  have hS : va_S A s.heap s.heap [] := va_S.rf
  have hl := lv_entry ([.ref rm, .int (nI (adr tp S L R y)), .int (nI w)]) (n := 5) (Nat.le_of_ble_eq_true rfl)
  rw [lg_entry_eq]
  generalize (lg_sl ([.ref rm, .int (nI (adr tp S L R y)), .int (nI w)]) ++ List.replicate (5 - (lg_sl ([.ref rm, .int (nI (adr tp S L R y)), .int (nI w)])).length) Slot.unset).toArray = ls at hl ⊢
  have hl : lv_has ls 5 [(0, .ref rm), (1, .int (nI (adr tp S L R y))), (2, .int (nI w))] := hl
  obtain ⟨b0, hb0, hb2, hb3, hb4, hba, hbr⟩ := bW_y hR hT0 hB hry
  have hyl := hT0.2 y hry
  have hyx := hyl.1
  obtain ⟨iy, hiy0⟩ : ∃ iy, plc (lvs sp0 1) y = iy := ⟨_, rfl⟩
  have hiy := plc_mem (lvs_all hR hT0 hyx hyl.2.1)
  rw [hiy0] at hiy
  have hil := at_lt hiy
  obtain ⟨pp, pp_1, pp_2, pp_3, pp_4, pp_5, pp_6, pp_7, pp_8, pp_9, pp_10⟩ := nW_rd (i := iy) hR hT0 hW0 hlen0 hil
  obtain rfl : y = pp := by rw [hiy] at pp_1; exact Option.some.inj pp_1
  have hck := cls_ok hR hT0 hyx
  have hrk := rl_kids hR hrl hck.1
  have hya := adr_lt hR hT0 hyx
  have hyd := sid_b hR hT0 hyx
  refine lv_aload_n hx hb dX4_change_0 rfl (lv_at hl 0 rfl) ?_
  refine k_goI (wr := [(b1, .inl (cJ, 14000, .inr (.inl (fun j => lN (nd0 j))))), (a4, .inl (cI, 25, .inl sz)), (a5, .inl (cI, 25, .inl lf)), (a6, .inl (cI, 25, .inl rt)), (a9, .inl (cI, 25, .inl (fun j => nI (kp j)))), (b2, .inl (cI, 256, .inl (fun j => nI (ba j)))), (b3, .inl (cI, 256, .inl (fun j => nI (rv j))))]) (va_runV (As := []) (rest := []) ⟨hx, hb, hml, hown, hts⟩ (c_X4_isThere l g cI cJ cZ rm a1 a2 a3 a4 a5 a6 a7 a8 a9 b1 b2 b3 b4 b5 b6 b7 b8 b9 cd tp ((lvs sp0 1).length) bl jn sn wt wm wg wo wd  htp _) (cwV 0 hts gX4_change_X4_isThere rfl rfl rfl (by decide +kernel) ⟨Nat.le_of_ble_eq_true rfl, Nat.le_of_ble_eq_true rfl⟩) (k_preV hk hP hD [0] rfl rfl (ci := 4) (q0 := 0) rfl rfl) rfl rfl hl.1 rfl (lv_room (Nat.le_of_ble_eq_true rfl)) dX4_change_1 ⟨by first | exact Nat.zero_le _ | omega, by first | exact Nat.zero_le _ | omega⟩) hP hD hS hA [0] [1, 2, 3, 4, 5, 6, 7] rfl rfl rfl (by decide) (fun rv _ H locs hu hP hD hS => ?_)
  subst hu
  have hP : va_P g vwCl [(b1, .inl (cJ, 14000, .inr (.inl (fun j => lN (nd0 j))))), (a4, .inl (cI, 25, .inl sz)), (a5, .inl (cI, 25, .inl lf)), (a6, .inl (cI, 25, .inl rt)), (a9, .inl (cI, 25, .inl (fun j => nI (kp j)))), (b2, .inl (cI, 256, .inl (fun j => nI (ba j)))), (b3, .inl (cI, 256, .inl (fun j => nI (rv j)))), (rm, .inr (4, [.int (nI 0), .ref a1, .ref a2, .ref a3, .ref a4, .ref a5, .ref a6, .ref a7, .ref a8, .ref a9, .int (nI tp), .int (nI ((lvs sp0 1).length)), .ref b1, .int (nI bl), .ref b2, .ref b3, .int (nI jn), .int (nI sn), .ref b4, .ref b5, .ref b6, .ref b7, .ref b8, .int (nI wt), .int (nI wm), .int (nI wg), .long (lN wo), .int (nI wd), .ref b9]))] H := hP
  have hD : va_D A [(b1, .inl (cJ, 14000, .inr (.inl (fun j => lN (nd0 j))))), (a4, .inl (cI, 25, .inl sz)), (a5, .inl (cI, 25, .inl lf)), (a6, .inl (cI, 25, .inl rt)), (a9, .inl (cI, 25, .inl (fun j => nI (kp j)))), (b2, .inl (cI, 256, .inl (fun j => nI (ba j)))), (b3, .inl (cI, 256, .inl (fun j => nI (rv j)))), (rm, .inr (4, [.int (nI 0), .ref a1, .ref a2, .ref a3, .ref a4, .ref a5, .ref a6, .ref a7, .ref a8, .ref a9, .int (nI tp), .int (nI ((lvs sp0 1).length)), .ref b1, .int (nI bl), .ref b2, .ref b3, .int (nI jn), .int (nI sn), .ref b4, .ref b5, .ref b6, .ref b7, .ref b8, .int (nI wt), .int (nI wm), .int (nI wg), .long (lN wo), .int (nI wd), .ref b9]))] := hD
  refine n_if_ne (tgt := 9) hx hb dX4_change_4 (by decide) (by first | assumption | omega) (fun c1 => ?_) (fun c1 => ?_)
  · skip
    refine lv_aload_n hx hb dX4_change_9 rfl (lv_at hl 0 rfl) ?_
    refine lv_iload_n hx hb dX4_change_10 rfl (lv_at hl 1 rfl) ?_
    refine k_goR (W.runV (As := [.int (nI (adr tp S L R y))]) (rest := []) ⟨hx, hb, hml, hown, hts⟩ (c_X4_blockOf l g cI cJ cZ rm a1 a2 a3 a4 a5 a6 a7 a8 a9 b1 b2 b3 b4 b5 b6 b7 b8 b9 0 tp ((lvs sp0 1).length) bl jn sn wt wm wg wo wd ba (nI (adr tp S L R y)) b0 hbl hb0 hb3 hb4) (cwV 1 hts gX4_change_X4_blockOf rfl rfl rfl (by decide +kernel) ⟨Nat.le_of_ble_eq_true rfl, Nat.le_of_ble_eq_true rfl⟩) (k_preRV hk hP [7, 5] rfl (ci := 4) (q0 := 0) rfl rfl) rfl rfl hl.1 rfl (lv_room (Nat.le_of_ble_eq_true rfl)) dX4_change_11 ⟨by first | exact Nat.zero_le _ | omega, by first | exact Nat.zero_le _ | omega⟩) ?_
    refine lv_istore_n (lv' := [(3, .int (nI b0)), (0, .ref rm), (1, .int (nI (adr tp S L R y))), (2, .int (nI w))]) hx hb dX4_change_14 rfl hl (by decide) rfl (fun ls hl => ?_)
    refine lv_iload_n hx hb dX4_change_15 rfl (lv_at hl 0 rfl) ?_
    refine n_if_lt (tgt := 24) hx hb dX4_change_16 (by decide) (by first | assumption | omega) ?_
    refine lv_iload_n hx hb dX4_change_19 rfl (lv_at hl 3 rfl) ?_
    refine lv_iconst (v := nI 1) hx hb dX4_change_20 (by decide) ?_
    refine n_icmp_ge (tgt := 30) hx hb dX4_change_21 (by decide) (by first | assumption | omega) (by first | assumption | omega) (fun c3 => ?_) (fun c3 => ?_)
    · skip
      refine lv_aload_n hx hb dX4_change_30 rfl (lv_at hl 1 rfl) ?_
      refine va_get (D := g) (ci := 4) (v := .ref a4) (C := RX4) (T := TX4) (N := 29) hx hb hts hinX4 hown hK hP 7 rfl rfl 4 (by decide) (hts (.fieldLink RX4 19 "BuddyRoofModel" "sizes" "[I") (by decide +kernel)) (fun _ h9 => h9) rfl dX4_change_31 ?_
      refine lv_aload_n hx hb dX4_change_34 rfl (lv_at hl 1 rfl) ?_
      refine lv_aload_n hx hb dX4_change_35 rfl (lv_at hl 1 rfl) ?_
      refine lv_iload_n hx hb dX4_change_36 rfl (lv_at hl 2 rfl) ?_
      refine k_goR (W.runV (As := [.int (nI (adr tp S L R y))]) (rest := [.ref rm, .ref a4]) ⟨hx, hb, hml, hown, hts⟩ (c_X4_nodeAt l g cI cJ cZ rm a1 a2 a3 a4 a5 a6 a7 a8 a9 b1 b2 b3 b4 b5 b6 b7 b8 b9 0 tp bl jn sn wt wm wg wo wd S L R rc sp0 rq0 nd0 y iy hR hT0 hW0 hlen0 hiy) (cwV 1 hts gX4_change_X4_nodeAt rfl rfl rfl (by decide +kernel) ⟨Nat.le_of_ble_eq_true rfl, Nat.le_of_ble_eq_true rfl⟩) (k_preRV hk hP [7, 0] rfl (ci := 4) (q0 := 0) rfl rfl) rfl rfl hl.1 rfl (lv_room (Nat.le_of_ble_eq_true rfl)) dX4_change_37 ⟨by first | exact Nat.zero_le _ | omega, by first | exact Nat.zero_le _ | omega⟩) ?_
      refine k_goR (W.runV (As := [.int (nI iy)]) (rest := [.ref a4]) ⟨hx, hb, hml, hown, hts⟩ (c_X4_classOf l g cI cJ cZ rm a1 a2 a3 a4 a5 a6 a7 a8 a9 b1 b2 b3 b4 b5 b6 b7 b8 b9 0 tp ((lvs sp0 1).length) bl jn sn wt wm wg wo wd nd0 iy pp_4 pp_5) (cwV 1 hts gX4_change_X4_classOf rfl rfl rfl (by decide +kernel) ⟨Nat.le_of_ble_eq_true rfl, Nat.le_of_ble_eq_true rfl⟩) (k_preRV hk hP [7, 0] rfl (ci := 4) (q0 := 0) rfl rfl) rfl rfl hl.1 rfl (lv_room (Nat.le_of_ble_eq_true rfl)) dX4_change_40 ⟨by first | exact Nat.zero_le _ | omega, by first | exact Nat.zero_le _ | omega⟩) ?_
      refine n_top _ (nI (cls tp L R y)) (congrArg nI pp_8) ?_
      refine n_ald (v := nI (S (cls tp L R y))) hx hb hK hP 1 0 rfl rfl (i := (cls tp L R y)) (by omega) (by decide) (by exact hrk.1) dX4_change_43 ?_
      refine lv_iload_n hx hb dX4_change_44 rfl (lv_at hl 3 rfl) ?_
      refine n_icmp_lt (tgt := 57) hx hb dX4_change_45 (by decide) (by first | assumption | omega) (by first | assumption | omega) (fun c4 => ?_) (fun c4 => ?_)
      · exact (by exfalso; omega)
      · skip
        refine lv_aload_n hx hb dX4_change_48 rfl (lv_at hl 1 rfl) ?_
        refine va_get (D := g) (ci := 4) (v := .ref b3) (C := RX4) (T := TX4) (N := 29) hx hb hts hinX4 hown hK hP 7 rfl rfl 15 (by decide) (hts (.fieldLink RX4 45 "BuddyRoofModel" "request" "[I") (by decide +kernel)) (fun _ h9 => h9) rfl dX4_change_49 ?_
        refine lv_iload_n hx hb dX4_change_52 rfl (lv_at hl 0 rfl) ?_
        refine lv_iload_n hx hb dX4_change_53 rfl (lv_at hl 3 rfl) ?_
        refine n_ast hx hb hK hP hD hS 6 0 rfl rfl (i := b0) (v := w) (by omega) (by decide) dX4_change_54 (fun H locs hP hD hS => ?_)
        have hP : va_P g vwCl [(b1, .inl (cJ, 14000, .inr (.inl (fun j => lN (nd0 j))))), (a4, .inl (cI, 25, .inl sz)), (a5, .inl (cI, 25, .inl lf)), (a6, .inl (cI, 25, .inl rt)), (a9, .inl (cI, 25, .inl (fun j => nI (kp j)))), (b2, .inl (cI, 256, .inl (fun j => nI (ba j)))), (b3, .inl (cI, 256, .inl (fun j => nI ((upN rv b0 w) j)))), (rm, .inr (4, [.int (nI 0), .ref a1, .ref a2, .ref a3, .ref a4, .ref a5, .ref a6, .ref a7, .ref a8, .ref a9, .int (nI tp), .int (nI ((lvs sp0 1).length)), .ref b1, .int (nI bl), .ref b2, .ref b3, .int (nI jn), .int (nI sn), .ref b4, .ref b5, .ref b6, .ref b7, .ref b8, .int (nI wt), .int (nI wm), .int (nI wg), .long (lN wo), .int (nI wd), .ref b9]))] H := hP
        have hD : va_D A [(b1, .inl (cJ, 14000, .inr (.inl (fun j => lN (nd0 j))))), (a4, .inl (cI, 25, .inl sz)), (a5, .inl (cI, 25, .inl lf)), (a6, .inl (cI, 25, .inl rt)), (a9, .inl (cI, 25, .inl (fun j => nI (kp j)))), (b2, .inl (cI, 256, .inl (fun j => nI (ba j)))), (b3, .inl (cI, 256, .inl (fun j => nI ((upN rv b0 w) j)))), (rm, .inr (4, [.int (nI 0), .ref a1, .ref a2, .ref a3, .ref a4, .ref a5, .ref a6, .ref a7, .ref a8, .ref a9, .int (nI tp), .int (nI ((lvs sp0 1).length)), .ref b1, .int (nI bl), .ref b2, .ref b3, .int (nI jn), .int (nI sn), .ref b4, .ref b5, .ref b6, .ref b7, .ref b8, .int (nI wt), .int (nI wm), .int (nI wg), .long (lN wo), .int (nI wd), .ref b9]))] := hD
        refine lv_iload_n hx hb dX4_change_55 rfl (lv_at hl 2 rfl) ?_
        have hP := hP.sub (ws' := [(rm, .inr (4, [.int (nI 0), .ref a1, .ref a2, .ref a3, .ref a4, .ref a5, .ref a6, .ref a7, .ref a8, .ref a9, .int (nI tp), .int (nI ((lvs sp0 1).length)), .ref b1, .int (nI bl), .ref b2, .ref b3, .int (nI jn), .int (nI sn), .ref b4, .ref b5, .ref b6, .ref b7, .ref b8, .int (nI wt), .int (nI wm), .int (nI wg), .long (lN wo), .int (nI wd), .ref b9])), (b1, .inl (cJ, 14000, .inr (.inl (fun j => lN (nd0 j))))), (a4, .inl (cI, 25, .inl sz)), (a5, .inl (cI, 25, .inl lf)), (a6, .inl (cI, 25, .inl rt)), (a9, .inl (cI, 25, .inl (fun j => nI (kp j)))), (b2, .inl (cI, 256, .inl (fun j => nI (ba j)))), (b3, .inl (cI, 256, .inl (fun j => nI ((upN rv b0 w) j))))]) [7, 0, 1, 2, 3, 4, 5, 6] rfl
        have hD := hD.sub (ws' := [(rm, .inr (4, [.int (nI 0), .ref a1, .ref a2, .ref a3, .ref a4, .ref a5, .ref a6, .ref a7, .ref a8, .ref a9, .int (nI tp), .int (nI ((lvs sp0 1).length)), .ref b1, .int (nI bl), .ref b2, .ref b3, .int (nI jn), .int (nI sn), .ref b4, .ref b5, .ref b6, .ref b7, .ref b8, .int (nI wt), .int (nI wm), .int (nI wg), .long (lN wo), .int (nI wd), .ref b9])), (b1, .inl (cJ, 14000, .inr (.inl (fun j => lN (nd0 j))))), (a4, .inl (cI, 25, .inl sz)), (a5, .inl (cI, 25, .inl lf)), (a6, .inl (cI, 25, .inl rt)), (a9, .inl (cI, 25, .inl (fun j => nI (kp j)))), (b2, .inl (cI, 256, .inl (fun j => nI (ba j)))), (b3, .inl (cI, 256, .inl (fun j => nI ((upN rv b0 w) j))))]) [7, 0, 1, 2, 3, 4, 5, 6] rfl rfl
        refine W.widen (k := 0) (n := 0) (by first | exact Nat.le_refl _ | omega) (by first | exact Nat.le_refl _ | omega) ?_
        exact k_retI (sz := 0) (v := nI (adr tp S L R y)) hx hb hr hlocks hAe hS hP hD (nd0, ba, upN rv b0 w, bf) (rfl) (⟨rfl, nW_live hW0 hry hw1, by have q9 := bW_set (w := w) hB hb0 hw1; rw [hb2] at q9; exact q9⟩) dX4_change_56
    · exact (by exfalso; omega)
  · exact (by exact absurd c1 (by decide))
set_option maxHeartbeats 4000000 in
set_option maxRecDepth 100000 in
theorem c_X4_change_F (l : Launch) (g : va_G) (cI cJ cZ : ClassId) (rm a1 a2 a3 a4 a5 a6 a7 a8 a9 b1 b2 b3 b4 b5 b6 b7 b8 b9 : Nat) (cd tp bl jn sn wt wm wg wo wd : Nat) (sz lf rt : Nat → Int32) (S L R : Nat → Nat) (rc : Nat → Bool) (sp0 : Nat → Bool) (rq0 nd0 : Nat → Nat) (kp ba rv bf : Nat → Nat) (y w : Nat) (htp : 0 < tp ∧ tp < 2 ^ 31) (hR : RuleOK S L R rc tp) (hT0 : TOK tp S L R sp0 rq0) (hW0 : nW tp S L R rq0 nd0 (lvs sp0 1)) (hlen0 : (lvs sp0 1).length ≤ 14000) (hrl : rOK S L R rc sz lf rt) (hkp : ∀ j, kp j < 2 ^ 31) (hbl : bl ≤ 256) (hB : bW (adr tp S L R) rq0 bl ba rv bf) (hry : 0 < rq0 y) (hw1 : 1 ≤ w) (hw : w < 2 ^ 31) (hwS : S (cls tp L R y) < w) (hb256 : bl = 256) : kI l g (kty cI cJ cZ) yX4_change wsX4_change ({ frames := 2, cells := 0, slots := 0, locals := 43 }) [.ref rm, .int (nI (adr tp S L R y)), .int (nI w)] [(rm, .inr (4, [.int (nI cd), .ref a1, .ref a2, .ref a3, .ref a4, .ref a5, .ref a6, .ref a7, .ref a8, .ref a9, .int (nI tp), .int (nI ((lvs sp0 1).length)), .ref b1, .int (nI bl), .ref b2, .ref b3, .int (nI jn), .int (nI sn), .ref b4, .ref b5, .ref b6, .ref b7, .ref b8, .int (nI wt), .int (nI wm), .int (nI wg), .long (lN wo), .int (nI wd), .ref b9])), (b1, .inl (cJ, 14000, .inr (.inl (fun j => lN (nd0 j))))), (a4, .inl (cI, 25, .inl sz)), (a5, .inl (cI, 25, .inl lf)), (a6, .inl (cI, 25, .inl rt)), (a9, .inl (cI, 25, .inl (fun j => nI (kp j)))), (b2, .inl (cI, 256, .inl (fun j => nI (ba j)))), (b3, .inl (cI, 256, .inl (fun j => nI (rv j))))] (S := Unit) (fun r u => r = nI 0) (fun u => [(rm, .inr (4, [.int (nI 1), .ref a1, .ref a2, .ref a3, .ref a4, .ref a5, .ref a6, .ref a7, .ref a8, .ref a9, .int (nI tp), .int (nI ((lvs sp0 1).length)), .ref b1, .int (nI bl), .ref b2, .ref b3, .int (nI jn), .int (nI sn), .ref b4, .ref b5, .ref b6, .ref b7, .ref b8, .int (nI wt), .int (nI wm), .int (nI wg), .long (lN wo), .int (nI wd), .ref b9])), (b1, .inl (cJ, 14000, .inr (.inl (fun j => lN (nd0 j))))), (a4, .inl (cI, 25, .inl sz)), (a5, .inl (cI, 25, .inl lf)), (a6, .inl (cI, 25, .inl rt)), (a9, .inl (cI, 25, .inl (fun j => nI (kp j)))), (b2, .inl (cI, 256, .inl (fun j => nI (ba j)))), (b3, .inl (cI, 256, .inl (fun j => nI (rv j))))]) 0 0 := by
  intro sz
  refine Met.ofW (cc := cX4_change) (maxL := 5) (ret := (some .int)) (by decide) rfl ?_
  intro p e s m args below meth c s₁ B hml hv
  obtain ⟨rfl, hsz, hP, hk, hD0⟩ := hv
  subst hsz
  have hx := B.exec
  have hb := B.bytes
  have hr := B.returns
  have hts := atoms_spec (ws := wsX4_change) B.pre
  have hown : s.vm.findClass RX4 = some m.cls := findClass_of_methodNamed B.named
  have hlocks := B.notSynchronized
  have hK := hk.1
  have hinX4 : ∀ w ∈ wsX40, w ∈ wsX4_change := by decide +kernel
  obtain ⟨A, hAe⟩ : ∃ A, va_A [(rm, .inr (4, [.int (nI cd), .ref a1, .ref a2, .ref a3, .ref a4, .ref a5, .ref a6, .ref a7, .ref a8, .ref a9, .int (nI tp), .int (nI ((lvs sp0 1).length)), .ref b1, .int (nI bl), .ref b2, .ref b3, .int (nI jn), .int (nI sn), .ref b4, .ref b5, .ref b6, .ref b7, .ref b8, .int (nI wt), .int (nI wm), .int (nI wg), .long (lN wo), .int (nI wd), .ref b9])), (b1, .inl (cJ, 14000, .inr (.inl (fun j => lN (nd0 j))))), (a4, .inl (cI, 25, .inl sz)), (a5, .inl (cI, 25, .inl lf)), (a6, .inl (cI, 25, .inl rt)), (a9, .inl (cI, 25, .inl (fun j => nI (kp j)))), (b2, .inl (cI, 256, .inl (fun j => nI (ba j)))), (b3, .inl (cI, 256, .inl (fun j => nI (rv j))))] s.heap.size = A := ⟨_, rfl⟩
  have hD := hD0.self (sz := s.heap.size)
  rw [hAe] at hD
  have hA : ∀ q : Nat, s.heap.size ≤ q → A q := fun q h => by rw [← hAe]; exact Or.inr h
  have hS : va_S A s.heap s.heap [] := va_S.rf
  have hl := lv_entry ([.ref rm, .int (nI (adr tp S L R y)), .int (nI w)]) (n := 5) (Nat.le_of_ble_eq_true rfl)
  rw [lg_entry_eq]
  generalize (lg_sl ([.ref rm, .int (nI (adr tp S L R y)), .int (nI w)]) ++ List.replicate (5 - (lg_sl ([.ref rm, .int (nI (adr tp S L R y)), .int (nI w)])).length) Slot.unset).toArray = ls at hl ⊢
  have hl : lv_has ls 5 [(0, .ref rm), (1, .int (nI (adr tp S L R y))), (2, .int (nI w))] := hl
  obtain ⟨b0, hb0, hb2, hb3, hb4, hba, hbr⟩ := bW_y hR hT0 hB hry
  have hyl := hT0.2 y hry
  have hyx := hyl.1
  obtain ⟨iy, hiy0⟩ : ∃ iy, plc (lvs sp0 1) y = iy := ⟨_, rfl⟩
  have hiy := plc_mem (lvs_all hR hT0 hyx hyl.2.1)
  rw [hiy0] at hiy
  have hil := at_lt hiy
  obtain ⟨pp, pp_1, pp_2, pp_3, pp_4, pp_5, pp_6, pp_7, pp_8, pp_9, pp_10⟩ := nW_rd (i := iy) hR hT0 hW0 hlen0 hil
  obtain rfl : y = pp := by rw [hiy] at pp_1; exact Option.some.inj pp_1
  have hck := cls_ok hR hT0 hyx
  have hrk := rl_kids hR hrl hck.1
  have hya := adr_lt hR hT0 hyx
  have hyd := sid_b hR hT0 hyx
  refine lv_aload_n hx hb dX4_change_0 rfl (lv_at hl 0 rfl) ?_
  refine k_goI (wr := [(b1, .inl (cJ, 14000, .inr (.inl (fun j => lN (nd0 j))))), (a4, .inl (cI, 25, .inl sz)), (a5, .inl (cI, 25, .inl lf)), (a6, .inl (cI, 25, .inl rt)), (a9, .inl (cI, 25, .inl (fun j => nI (kp j)))), (b2, .inl (cI, 256, .inl (fun j => nI (ba j)))), (b3, .inl (cI, 256, .inl (fun j => nI (rv j))))]) (va_runV (As := []) (rest := []) ⟨hx, hb, hml, hown, hts⟩ (c_X4_isThere l g cI cJ cZ rm a1 a2 a3 a4 a5 a6 a7 a8 a9 b1 b2 b3 b4 b5 b6 b7 b8 b9 cd tp ((lvs sp0 1).length) bl jn sn wt wm wg wo wd  htp _) (cwV 0 hts gX4_change_X4_isThere rfl rfl rfl (by decide +kernel) ⟨Nat.le_of_ble_eq_true rfl, Nat.le_of_ble_eq_true rfl⟩) (k_preV hk hP hD [0] rfl rfl (ci := 4) (q0 := 0) rfl rfl) rfl rfl hl.1 rfl (lv_room (Nat.le_of_ble_eq_true rfl)) dX4_change_1 ⟨by first | exact Nat.zero_le _ | omega, by first | exact Nat.zero_le _ | omega⟩) hP hD hS hA [0] [1, 2, 3, 4, 5, 6, 7] rfl rfl rfl (by decide) (fun rv _ H locs hu hP hD hS => ?_)
  subst hu
  have hP : va_P g vwCl [(b1, .inl (cJ, 14000, .inr (.inl (fun j => lN (nd0 j))))), (a4, .inl (cI, 25, .inl sz)), (a5, .inl (cI, 25, .inl lf)), (a6, .inl (cI, 25, .inl rt)), (a9, .inl (cI, 25, .inl (fun j => nI (kp j)))), (b2, .inl (cI, 256, .inl (fun j => nI (ba j)))), (b3, .inl (cI, 256, .inl (fun j => nI (rv j)))), (rm, .inr (4, [.int (nI 0), .ref a1, .ref a2, .ref a3, .ref a4, .ref a5, .ref a6, .ref a7, .ref a8, .ref a9, .int (nI tp), .int (nI ((lvs sp0 1).length)), .ref b1, .int (nI bl), .ref b2, .ref b3, .int (nI jn), .int (nI sn), .ref b4, .ref b5, .ref b6, .ref b7, .ref b8, .int (nI wt), .int (nI wm), .int (nI wg), .long (lN wo), .int (nI wd), .ref b9]))] H := hP
  have hD : va_D A [(b1, .inl (cJ, 14000, .inr (.inl (fun j => lN (nd0 j))))), (a4, .inl (cI, 25, .inl sz)), (a5, .inl (cI, 25, .inl lf)), (a6, .inl (cI, 25, .inl rt)), (a9, .inl (cI, 25, .inl (fun j => nI (kp j)))), (b2, .inl (cI, 256, .inl (fun j => nI (ba j)))), (b3, .inl (cI, 256, .inl (fun j => nI (rv j)))), (rm, .inr (4, [.int (nI 0), .ref a1, .ref a2, .ref a3, .ref a4, .ref a5, .ref a6, .ref a7, .ref a8, .ref a9, .int (nI tp), .int (nI ((lvs sp0 1).length)), .ref b1, .int (nI bl), .ref b2, .ref b3, .int (nI jn), .int (nI sn), .ref b4, .ref b5, .ref b6, .ref b7, .ref b8, .int (nI wt), .int (nI wm), .int (nI wg), .long (lN wo), .int (nI wd), .ref b9]))] := hD
  refine n_if_ne (tgt := 9) hx hb dX4_change_4 (by decide) (by first | assumption | omega) (fun c1 => ?_) (fun c1 => ?_)
  · skip
    refine lv_aload_n hx hb dX4_change_9 rfl (lv_at hl 0 rfl) ?_
    refine lv_iload_n hx hb dX4_change_10 rfl (lv_at hl 1 rfl) ?_
    refine k_goR (W.runV (As := [.int (nI (adr tp S L R y))]) (rest := []) ⟨hx, hb, hml, hown, hts⟩ (c_X4_blockOf l g cI cJ cZ rm a1 a2 a3 a4 a5 a6 a7 a8 a9 b1 b2 b3 b4 b5 b6 b7 b8 b9 0 tp ((lvs sp0 1).length) bl jn sn wt wm wg wo wd ba (nI (adr tp S L R y)) b0 hbl hb0 hb3 hb4) (cwV 1 hts gX4_change_X4_blockOf rfl rfl rfl (by decide +kernel) ⟨Nat.le_of_ble_eq_true rfl, Nat.le_of_ble_eq_true rfl⟩) (k_preRV hk hP [7, 5] rfl (ci := 4) (q0 := 0) rfl rfl) rfl rfl hl.1 rfl (lv_room (Nat.le_of_ble_eq_true rfl)) dX4_change_11 ⟨by first | exact Nat.zero_le _ | omega, by first | exact Nat.zero_le _ | omega⟩) ?_
    refine lv_istore_n (lv' := [(3, .int (nI b0)), (0, .ref rm), (1, .int (nI (adr tp S L R y))), (2, .int (nI w))]) hx hb dX4_change_14 rfl hl (by decide) rfl (fun ls hl => ?_)
    refine lv_iload_n hx hb dX4_change_15 rfl (lv_at hl 0 rfl) ?_
    refine n_if_lt (tgt := 24) hx hb dX4_change_16 (by decide) (by first | assumption | omega) ?_
    refine lv_iload_n hx hb dX4_change_19 rfl (lv_at hl 3 rfl) ?_
    refine lv_iconst (v := nI 1) hx hb dX4_change_20 (by decide) ?_
    refine n_icmp_ge (tgt := 30) hx hb dX4_change_21 (by decide) (by first | assumption | omega) (by first | assumption | omega) (fun c3 => ?_) (fun c3 => ?_)
    · skip
      refine lv_aload_n hx hb dX4_change_30 rfl (lv_at hl 1 rfl) ?_
      refine va_get (D := g) (ci := 4) (v := .ref a4) (C := RX4) (T := TX4) (N := 29) hx hb hts hinX4 hown hK hP 7 rfl rfl 4 (by decide) (hts (.fieldLink RX4 19 "BuddyRoofModel" "sizes" "[I") (by decide +kernel)) (fun _ h9 => h9) rfl dX4_change_31 ?_
      refine lv_aload_n hx hb dX4_change_34 rfl (lv_at hl 1 rfl) ?_
      refine lv_aload_n hx hb dX4_change_35 rfl (lv_at hl 1 rfl) ?_
      refine lv_iload_n hx hb dX4_change_36 rfl (lv_at hl 2 rfl) ?_
      refine k_goR (W.runV (As := [.int (nI (adr tp S L R y))]) (rest := [.ref rm, .ref a4]) ⟨hx, hb, hml, hown, hts⟩ (c_X4_nodeAt l g cI cJ cZ rm a1 a2 a3 a4 a5 a6 a7 a8 a9 b1 b2 b3 b4 b5 b6 b7 b8 b9 0 tp bl jn sn wt wm wg wo wd S L R rc sp0 rq0 nd0 y iy hR hT0 hW0 hlen0 hiy) (cwV 1 hts gX4_change_X4_nodeAt rfl rfl rfl (by decide +kernel) ⟨Nat.le_of_ble_eq_true rfl, Nat.le_of_ble_eq_true rfl⟩) (k_preRV hk hP [7, 0] rfl (ci := 4) (q0 := 0) rfl rfl) rfl rfl hl.1 rfl (lv_room (Nat.le_of_ble_eq_true rfl)) dX4_change_37 ⟨by first | exact Nat.zero_le _ | omega, by first | exact Nat.zero_le _ | omega⟩) ?_
      refine k_goR (W.runV (As := [.int (nI iy)]) (rest := [.ref a4]) ⟨hx, hb, hml, hown, hts⟩ (c_X4_classOf l g cI cJ cZ rm a1 a2 a3 a4 a5 a6 a7 a8 a9 b1 b2 b3 b4 b5 b6 b7 b8 b9 0 tp ((lvs sp0 1).length) bl jn sn wt wm wg wo wd nd0 iy pp_4 pp_5) (cwV 1 hts gX4_change_X4_classOf rfl rfl rfl (by decide +kernel) ⟨Nat.le_of_ble_eq_true rfl, Nat.le_of_ble_eq_true rfl⟩) (k_preRV hk hP [7, 0] rfl (ci := 4) (q0 := 0) rfl rfl) rfl rfl hl.1 rfl (lv_room (Nat.le_of_ble_eq_true rfl)) dX4_change_40 ⟨by first | exact Nat.zero_le _ | omega, by first | exact Nat.zero_le _ | omega⟩) ?_
      refine n_top _ (nI (cls tp L R y)) (congrArg nI pp_8) ?_
      refine n_ald (v := nI (S (cls tp L R y))) hx hb hK hP 1 0 rfl rfl (i := (cls tp L R y)) (by omega) (by decide) (by exact hrk.1) dX4_change_43 ?_
      refine lv_iload_n hx hb dX4_change_44 rfl (lv_at hl 3 rfl) ?_
      refine n_icmp_lt (tgt := 57) hx hb dX4_change_45 (by decide) (by first | assumption | omega) (by first | assumption | omega) (fun c4 => ?_) (fun c4 => ?_)
      · skip
        refine lv_aload_n hx hb dX4_change_57 rfl (lv_at hl 1 rfl) ?_
        refine va_get (D := g) (ci := 4) (v := .int (nI bl)) (C := RX4) (T := TX4) (N := 29) hx hb hts hinX4 hown hK hP 7 rfl rfl 13 (by decide) (hts (.fieldLink RX4 103 "BuddyRoofModel" "blocks" "I") (by decide +kernel)) (fun _ h9 => h9) rfl dX4_change_58 ?_
        refine lv_sipush (v := nI 256) hx hb dX4_change_61 (by decide) ?_
        refine n_icmp_ne (tgt := 73) hx hb dX4_change_64 (by decide) (by first | assumption | omega) (by first | assumption | omega) (fun c5 => ?_) (fun c5 => ?_)
        · exact (by exfalso; omega)
        · skip
          refine lv_aload_n hx hb dX4_change_67 rfl (lv_at hl 1 rfl) ?_
          refine lv_iconst (v := nI 1) hx hb dX4_change_68 (by decide) ?_
          refine k_goI (wr := [(b1, .inl (cJ, 14000, .inr (.inl (fun j => lN (nd0 j))))), (a4, .inl (cI, 25, .inl sz)), (a5, .inl (cI, 25, .inl lf)), (a6, .inl (cI, 25, .inl rt)), (a9, .inl (cI, 25, .inl (fun j => nI (kp j)))), (b2, .inl (cI, 256, .inl (fun j => nI (ba j)))), (b3, .inl (cI, 256, .inl (fun j => nI (rv j))))]) (va_runV (As := [.int (nI 1)]) (rest := []) ⟨hx, hb, hml, hown, hts⟩ (c_X4_raise l g cI cJ cZ rm a1 a2 a3 a4 a5 a6 a7 a8 a9 b1 b2 b3 b4 b5 b6 b7 b8 b9 0 tp ((lvs sp0 1).length) bl jn sn wt wm wg wo wd 1  _) (cwV 1 hts gX4_change_X4_raise rfl rfl rfl (by decide +kernel) ⟨Nat.le_of_ble_eq_true rfl, Nat.le_of_ble_eq_true rfl⟩) (k_preV hk hP hD [7] rfl rfl (ci := 4) (q0 := 0) rfl rfl) rfl rfl hl.1 rfl (lv_room (Nat.le_of_ble_eq_true rfl)) dX4_change_69 ⟨by first | exact Nat.zero_le _ | omega, by first | exact Nat.zero_le _ | omega⟩) hP hD hS hA [7] [0, 1, 2, 3, 4, 5, 6] rfl rfl rfl (by decide) (fun rv _ H locs hu hP hD hS => ?_)
          subst hu
          have hP : va_P g vwCl [(b1, .inl (cJ, 14000, .inr (.inl (fun j => lN (nd0 j))))), (a4, .inl (cI, 25, .inl sz)), (a5, .inl (cI, 25, .inl lf)), (a6, .inl (cI, 25, .inl rt)), (a9, .inl (cI, 25, .inl (fun j => nI (kp j)))), (b2, .inl (cI, 256, .inl (fun j => nI (ba j)))), (b3, .inl (cI, 256, .inl (fun j => nI (rv j)))), (rm, .inr (4, [.int (nI 1), .ref a1, .ref a2, .ref a3, .ref a4, .ref a5, .ref a6, .ref a7, .ref a8, .ref a9, .int (nI tp), .int (nI ((lvs sp0 1).length)), .ref b1, .int (nI bl), .ref b2, .ref b3, .int (nI jn), .int (nI sn), .ref b4, .ref b5, .ref b6, .ref b7, .ref b8, .int (nI wt), .int (nI wm), .int (nI wg), .long (lN wo), .int (nI wd), .ref b9]))] H := hP
          have hD : va_D A [(b1, .inl (cJ, 14000, .inr (.inl (fun j => lN (nd0 j))))), (a4, .inl (cI, 25, .inl sz)), (a5, .inl (cI, 25, .inl lf)), (a6, .inl (cI, 25, .inl rt)), (a9, .inl (cI, 25, .inl (fun j => nI (kp j)))), (b2, .inl (cI, 256, .inl (fun j => nI (ba j)))), (b3, .inl (cI, 256, .inl (fun j => nI (rv j)))), (rm, .inr (4, [.int (nI 1), .ref a1, .ref a2, .ref a3, .ref a4, .ref a5, .ref a6, .ref a7, .ref a8, .ref a9, .int (nI tp), .int (nI ((lvs sp0 1).length)), .ref b1, .int (nI bl), .ref b2, .ref b3, .int (nI jn), .int (nI sn), .ref b4, .ref b5, .ref b6, .ref b7, .ref b8, .int (nI wt), .int (nI wm), .int (nI wg), .long (lN wo), .int (nI wd), .ref b9]))] := hD
          have hP := hP.sub (ws' := [(rm, .inr (4, [.int (nI 1), .ref a1, .ref a2, .ref a3, .ref a4, .ref a5, .ref a6, .ref a7, .ref a8, .ref a9, .int (nI tp), .int (nI ((lvs sp0 1).length)), .ref b1, .int (nI bl), .ref b2, .ref b3, .int (nI jn), .int (nI sn), .ref b4, .ref b5, .ref b6, .ref b7, .ref b8, .int (nI wt), .int (nI wm), .int (nI wg), .long (lN wo), .int (nI wd), .ref b9])), (b1, .inl (cJ, 14000, .inr (.inl (fun j => lN (nd0 j))))), (a4, .inl (cI, 25, .inl sz)), (a5, .inl (cI, 25, .inl lf)), (a6, .inl (cI, 25, .inl rt)), (a9, .inl (cI, 25, .inl (fun j => nI (kp j)))), (b2, .inl (cI, 256, .inl (fun j => nI (ba j)))), (b3, .inl (cI, 256, .inl (fun j => nI (rv j))))]) [7, 0, 1, 2, 3, 4, 5, 6] rfl
          have hD := hD.sub (ws' := [(rm, .inr (4, [.int (nI 1), .ref a1, .ref a2, .ref a3, .ref a4, .ref a5, .ref a6, .ref a7, .ref a8, .ref a9, .int (nI tp), .int (nI ((lvs sp0 1).length)), .ref b1, .int (nI bl), .ref b2, .ref b3, .int (nI jn), .int (nI sn), .ref b4, .ref b5, .ref b6, .ref b7, .ref b8, .int (nI wt), .int (nI wm), .int (nI wg), .long (lN wo), .int (nI wd), .ref b9])), (b1, .inl (cJ, 14000, .inr (.inl (fun j => lN (nd0 j))))), (a4, .inl (cI, 25, .inl sz)), (a5, .inl (cI, 25, .inl lf)), (a6, .inl (cI, 25, .inl rt)), (a9, .inl (cI, 25, .inl (fun j => nI (kp j)))), (b2, .inl (cI, 256, .inl (fun j => nI (ba j)))), (b3, .inl (cI, 256, .inl (fun j => nI (rv j))))]) [7, 0, 1, 2, 3, 4, 5, 6] rfl rfl
          refine W.widen (k := 0) (n := 0) (by first | exact Nat.le_refl _ | omega) (by first | exact Nat.le_refl _ | omega) ?_
          exact k_retI (sz := 0) (v := nI 0) hx hb hr hlocks hAe hS hP hD () (rfl) (rfl) dX4_change_72
      · exact (by exfalso; omega)
    · exact (by exfalso; omega)
  · exact (by exact absurd c1 (by decide))
