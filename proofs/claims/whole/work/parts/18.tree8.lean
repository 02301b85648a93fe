/-- takePair: the length, what is made, what is spare behind it, and the pair -/
def tpN (n mk sp : Nat) : Nat := if sp = 0 ∧ n < mk + 2 then n * 2 else n
def tpM (mk sp : Nat) : Nat := if sp = 0 then mk + 2 else mk
def tpS (pa : Nat → Nat) (sp : Nat) : Nat := if sp = 0 then sp else pa sp
def tpP (mk sp : Nat) : Nat := if sp = 0 then mk else sp
theorem tp_a {n mk sp : Nat} {pa : Nat → Nat} (h : 0 < sp) : tpN n mk sp = n ∧ tpM mk sp = mk ∧ tpS pa sp = pa sp ∧ tpP mk sp = sp := by
  refine ⟨if_neg (by omega), if_neg (by omega), if_neg (by omega), if_neg (by omega)⟩
theorem tp_b {n mk sp : Nat} {pa : Nat → Nat} (h : sp = 0) (h2 : mk + 2 ≤ n) : tpN n mk sp = n ∧ tpM mk sp = mk + 2 ∧ tpS pa sp = sp ∧ tpP mk sp = mk := by
  refine ⟨if_neg (by omega), if_pos h, if_pos h, if_pos h⟩
theorem tp_c {n mk sp : Nat} {pa : Nat → Nat} (h : sp = 0) (h2 : n < mk + 2) : tpN n mk sp = n * 2 ∧ tpM mk sp = mk + 2 ∧ tpS pa sp = sp ∧ tpP mk sp = mk := by
  refine ⟨if_pos ⟨h, h2⟩, if_pos h, if_pos h, if_pos h⟩
theorem tpN_le (n mk sp : Nat) : n ≤ tpN n mk sp ∧ tpN n mk sp ≤ n * 2 := by
  unfold tpN; split <;> omega
theorem tpP_lt {n mk sp : Nat} (h1 : mk ≤ n) (h2 : 2 ≤ n) (h3 : sp + 1 < n) : tpP mk sp + 1 < tpN n mk sp := by
  unfold tpP tpN
  by_cases h : sp = 0
  · rw [if_pos h]
    split <;> omega
  · rw [if_neg h, if_neg (by omega)]
    exact h3
set_option maxHeartbeats 4000000 in
set_option maxRecDepth 100000 in
theorem c_X2_takePair (l : Launch) (g : va_G) (cI cJ cZ : ClassId) (h q1 q2 q3 q4 q5 q6 q7 n : Nat) (pa ch kd ad rq su un : Nat → Nat) (mk sp : Nat) (hn : n < 2 ^ 25) (hsp : sp < n) (hmk : mk < 2 ^ 30) (h1 : 1 ≤ n) (hz1 : ∀ j, n ≤ j → pa j = 0) (hz2 : ∀ j, n ≤ j → ch j = 0) (hz3 : ∀ j, n ≤ j → kd j = 0) (hz4 : ∀ j, n ≤ j → ad j = 0) (hz5 : ∀ j, n ≤ j → rq j = 0) (hz6 : ∀ j, n ≤ j → su j = 0) (hz7 : ∀ j, n ≤ j → un j = 0) : kI l g (kty cI cJ cZ) yX2_takePair wsX2_takePair ({ frames := 3, cells := (7 * (tpN n mk sp - n)), slots := (14 * (tpN n mk sp - n)), locals := 107 }) [.ref h] [(h, .inr (2, [.ref q1, .ref q2, .ref q3, .ref q4, .ref q5, .ref q6, .ref q7, .int (nI mk), .int (nI sp)])), (q1, .inl (cI, n, .inl (fun j => nI (pa j)))), (q2, .inl (cI, n, .inl (fun j => nI (ch j)))), (q3, .inl (cI, n, .inl (fun j => nI (kd j)))), (q4, .inl (cI, n, .inl (fun j => nI (ad j)))), (q5, .inl (cI, n, .inl (fun j => nI (rq j)))), (q6, .inl (cI, n, .inl (fun j => nI (su j)))), (q7, .inl (cI, n, .inl (fun j => nI (un j))))] (S := Nat → Nat) (fun r _ => r = nI (tpP mk sp)) (fun u => [(h, .inr (2, [.ref (u 1), .ref (u 2), .ref (u 3), .ref (u 4), .ref (u 5), .ref (u 6), .ref (u 7), .int (nI (tpM mk sp)), .int (nI (tpS pa sp))])), ((u 1), .inl (cI, (tpN n mk sp), .inl (fun j => nI (pa j)))), ((u 2), .inl (cI, (tpN n mk sp), .inl (fun j => nI (ch j)))), ((u 3), .inl (cI, (tpN n mk sp), .inl (fun j => nI (kd j)))), ((u 4), .inl (cI, (tpN n mk sp), .inl (fun j => nI (ad j)))), ((u 5), .inl (cI, (tpN n mk sp), .inl (fun j => nI (rq j)))), ((u 6), .inl (cI, (tpN n mk sp), .inl (fun j => nI (su j)))), ((u 7), .inl (cI, (tpN n mk sp), .inl (fun j => nI (un j))))]) (7 * (tpN n mk sp - n)) (14 * (tpN n mk sp - n)) := by
  intro sz
  refine Met.ofW (cc := cX2_takePair) (maxL := 2) (ret := (some .int)) (by decide) rfl ?_
  intro p e s m args below meth c s₁ B hml hv
  obtain ⟨rfl, hsz, hP, hk, hD0⟩ := hv
  subst hsz
  have hx := B.exec
  have hb := B.bytes
  have hr := B.returns
  have hts := atoms_spec (ws := wsX2_takePair) B.pre
  have hown : s.vm.findClass RX2 = some m.cls := findClass_of_methodNamed B.named
  have hlocks := B.notSynchronized
  have hK := hk.1
  have hinX2 : ∀ w ∈ wsX20, w ∈ wsX2_takePair := by decide +kernel
  obtain ⟨A, hAe⟩ : ∃ A, va_A [(h, .inr (2, [.ref q1, .ref q2, .ref q3, .ref q4, .ref q5, .ref q6, .ref q7, .int (nI mk), .int (nI sp)])), (q1, .inl (cI, n, .inl (fun j => nI (pa j)))), (q2, .inl (cI, n, .inl (fun j => nI (ch j)))), (q3, .inl (cI, n, .inl (fun j => nI (kd j)))), (q4, .inl (cI, n, .inl (fun j => nI (ad j)))), (q5, .inl (cI, n, .inl (fun j => nI (rq j)))), (q6, .inl (cI, n, .inl (fun j => nI (su j)))), (q7, .inl (cI, n, .inl (fun j => nI (un j))))] s.heap.size = A := ⟨_, rfl⟩
  have hD := hD0.self (sz := s.heap.size)
  rw [hAe] at hD
  have hA : ∀ q : Nat, s.heap.size ≤ q → A q := fun q h => by rw [← hAe]; exact Or.inr h
  have hS : va_S A s.heap s.heap [] := va_S.rf
  have hl := lv_entry ([.ref h]) (n := 2) (Nat.le_of_ble_eq_true rfl)
  rw [lg_entry_eq]
  generalize (lg_sl ([.ref h]) ++ List.replicate (2 - (lg_sl ([.ref h])).length) Slot.unset).toArray = ls at hl ⊢
  have hl : lv_has ls 2 [(0, .ref h)] := hl
  refine lv_aload_n hx hb dX2_takePair_0 rfl (lv_at hl 0 rfl) ?_
  refine va_get (D := g) (ci := 2) (v := .int (nI sp)) (C := RX2) (T := TX2) (N := 9) hx hb hts hinX2 hown hK hP 0 rfl rfl 8 (by decide) (hts (.fieldLink RX2 37 "BuddyRoof$Tree" "spare" "I") (by decide +kernel)) (fun _ h9 => h9) rfl dX2_takePair_1 ?_
  refine lv_istore_n (lv' := [(1, .int (nI sp)), (0, .ref h)]) hx hb dX2_takePair_4 rfl hl (by decide) rfl (fun ls hl => ?_)
  refine lv_iload_n hx hb dX2_takePair_5 rfl (lv_at hl 0 rfl) ?_
  refine n_if_eq (tgt := 21) hx hb dX2_takePair_6 (by decide) (by first | assumption | omega) (fun c1 => ?_) (fun c1 => ?_)
  · skip
    refine lv_aload_n hx hb dX2_takePair_21 rfl (lv_at hl 1 rfl) ?_
    refine va_get (D := g) (ci := 2) (v := .int (nI mk)) (C := RX2) (T := TX2) (N := 9) hx hb hts hinX2 hown hK hP 0 rfl rfl 7 (by decide) (hts (.fieldLink RX2 33 "BuddyRoof$Tree" "made" "I") (by decide +kernel)) (fun _ h9 => h9) rfl dX2_takePair_22 ?_
    refine lv_istore_n (lv' := [(1, .int (nI mk)), (0, .ref h)]) hx hb dX2_takePair_25 rfl hl (by decide) rfl (fun ls hl => ?_)
    refine lv_aload_n hx hb dX2_takePair_26 rfl (lv_at hl 1 rfl) ?_
    refine lv_dup hx hb dX2_takePair_27 rfl ?_
    refine va_get (D := g) (ci := 2) (v := .int (nI mk)) (C := RX2) (T := TX2) (N := 9) hx hb hts hinX2 hown hK hP 0 rfl rfl 7 (by decide) (hts (.fieldLink RX2 33 "BuddyRoof$Tree" "made" "I") (by decide +kernel)) (fun _ h9 => h9) rfl dX2_takePair_28 ?_
    refine lv_iconst (v := nI 2) hx hb dX2_takePair_31 (by decide) ?_
    refine n_iadd hx hb dX2_takePair_32 ?_
    refine va_put (D := g) (ci := 2) (v := .int (nI (mk + 2))) (ty := .int) (C := RX2) (T := TX2) (N := 9) hx hb hts hinX2 tyX2 tyX2_ok nmX2 hown hK hP hD hS 0 rfl rfl 7 (by decide) (hts (.fieldLink RX2 33 "BuddyRoof$Tree" "made" "I") (by decide +kernel)) (fun _ h9 => h9) rfl (by decide +kernel) rfl rfl (Nat.le_of_ble_eq_true rfl) dX2_takePair_33 (fun H locs hP hD hS => ?_)
    have hP : va_P g vwCl [(h, .inr (2, [.ref q1, .ref q2, .ref q3, .ref q4, .ref q5, .ref q6, .ref q7, .int (nI (mk + 2)), .int (nI sp)])), (q1, .inl (cI, n, .inl (fun j => nI (pa j)))), (q2, .inl (cI, n, .inl (fun j => nI (ch j)))), (q3, .inl (cI, n, .inl (fun j => nI (kd j)))), (q4, .inl (cI, n, .inl (fun j => nI (ad j)))), (q5, .inl (cI, n, .inl (fun j => nI (rq j)))), (q6, .inl (cI, n, .inl (fun j => nI (su j)))), (q7, .inl (cI, n, .inl (fun j => nI (un j))))] H := hP
    have hD : va_D A [(h, .inr (2, [.ref q1, .ref q2, .ref q3, .ref q4, .ref q5, .ref q6, .ref q7, .int (nI (mk + 2)), .int (nI sp)])), (q1, .inl (cI, n, .inl (fun j => nI (pa j)))), (q2, .inl (cI, n, .inl (fun j => nI (ch j)))), (q3, .inl (cI, n, .inl (fun j => nI (kd j)))), (q4, .inl (cI, n, .inl (fun j => nI (ad j)))), (q5, .inl (cI, n, .inl (fun j => nI (rq j)))), (q6, .inl (cI, n, .inl (fun j => nI (su j)))), (q7, .inl (cI, n, .inl (fun j => nI (un j))))] := hD
    refine lv_aload_n hx hb dX2_takePair_36 rfl (lv_at hl 1 rfl) ?_
    refine va_get (D := g) (ci := 2) (v := .int (nI (mk + 2))) (C := RX2) (T := TX2) (N := 9) hx hb hts hinX2 hown hK hP 0 rfl rfl 7 (by decide) (hts (.fieldLink RX2 33 "BuddyRoof$Tree" "made" "I") (by decide +kernel)) (fun _ h9 => h9) rfl dX2_takePair_37 ?_
    refine lv_aload_n hx hb dX2_takePair_40 rfl (lv_at hl 1 rfl) ?_
    refine va_get (D := g) (ci := 2) (v := .ref q1) (C := RX2) (T := TX2) (N := 9) hx hb hts hinX2 hown hK hP 0 rfl rfl 0 (by decide) (hts (.fieldLink RX2 11 "BuddyRoof$Tree" "parent" "[I") (by decide +kernel)) (fun _ h9 => h9) rfl dX2_takePair_41 ?_
    refine va_alen (v := nI n) hx hb hK hP 1 0 rfl rfl rfl dX2_takePair_44 ?_
    refine n_icmp_le (tgt := 59) hx hb dX2_takePair_45 (by decide) (by first | assumption | omega) (by first | assumption | omega) (fun c2 => ?_) (fun c2 => ?_)
    · skip
      refine lv_iload_n hx hb dX2_takePair_59 rfl (lv_at hl 0 rfl) ?_
      obtain ⟨e1, e2, e3, e4⟩ := tp_b (n := n) (mk := mk) (pa := pa) c1 c2
      refine W.widen (k := (7 * (tpN n mk sp - n))) (n := (14 * (tpN n mk sp - n))) (by rw [e1]; omega) (by rw [e1]; omega) ?_
      exact k_retI (sz := 0) (v := nI mk) hx hb hr hlocks hAe hS hP hD (fun k => if k = 1 then q1 else if k = 2 then q2 else if k = 3 then q3 else if k = 4 then q4 else if k = 5 then q5 else if k = 6 then q6 else q7) (by rw [e1, e2, e3] <;> rfl) (by rw [e4]) dX2_takePair_60
    · skip
      refine lv_aload_n hx hb dX2_takePair_48 rfl (lv_at hl 1 rfl) ?_
      refine lv_aload_n hx hb dX2_takePair_49 rfl (lv_at hl 1 rfl) ?_
      refine va_get (D := g) (ci := 2) (v := .ref q1) (C := RX2) (T := TX2) (N := 9) hx hb hts hinX2 hown hK hP 0 rfl rfl 0 (by decide) (hts (.fieldLink RX2 11 "BuddyRoof$Tree" "parent" "[I") (by decide +kernel)) (fun _ h9 => h9) rfl dX2_takePair_50 ?_
      refine va_alen (v := nI n) hx hb hK hP 1 0 rfl rfl rfl dX2_takePair_53 ?_
      refine lv_iconst (v := nI 2) hx hb dX2_takePair_54 (by decide) ?_
      refine n_imul hx hb dX2_takePair_55 ?_
      refine k_goV (wr := []) (va_runV (As := [.int (nI (n * 2))]) (rest := []) ⟨hx, hb, hml, hown, hts⟩ (c_X2_grow l g cI cJ cZ h q1 q2 q3 q4 q5 q6 q7 n pa ch kd ad rq su un (mk + 2) sp (n * 2) (by omega) (by omega) hz1 hz2 hz3 hz4 hz5 hz6 hz7 _) (cwV 1 hts gX2_takePair_X2_grow rfl rfl rfl (by decide +kernel) ⟨Nat.le_of_ble_eq_true rfl, Nat.le_of_ble_eq_true rfl⟩) (k_preV hk hP hD [0, 1, 2, 3, 4, 5, 6, 7] rfl rfl (ci := 2) (q0 := 0) rfl rfl) rfl rfl hl.1 rfl (lv_room (Nat.le_of_ble_eq_true rfl)) dX2_takePair_56 ⟨by show 0 + 7 ≤ 7 * (tpN n mk sp - n); rw [(tp_c (n := n) (mk := mk) (pa := pa) c1 c2).1]; omega, by show 0 + 7 * (n * 2) ≤ 14 * (tpN n mk sp - n); rw [(tp_c (n := n) (mk := mk) (pa := pa) c1 c2).1]; omega⟩) hP hD hS hA [0, 1, 2, 3, 4, 5, 6, 7] [] rfl rfl rfl (by decide) (fun u H locs hu hP hD hS => ?_)
      have hP : va_P g vwCl [(h, .inr (2, [.ref (u 1), .ref (u 2), .ref (u 3), .ref (u 4), .ref (u 5), .ref (u 6), .ref (u 7), .int (nI (mk + 2)), .int (nI sp)])), ((u 1), .inl (cI, (n * 2), .inl (fun j => nI (pa j)))), ((u 2), .inl (cI, (n * 2), .inl (fun j => nI (ch j)))), ((u 3), .inl (cI, (n * 2), .inl (fun j => nI (kd j)))), ((u 4), .inl (cI, (n * 2), .inl (fun j => nI (ad j)))), ((u 5), .inl (cI, (n * 2), .inl (fun j => nI (rq j)))), ((u 6), .inl (cI, (n * 2), .inl (fun j => nI (su j)))), ((u 7), .inl (cI, (n * 2), .inl (fun j => nI (un j))))] H := hP
      have hD : va_D A [(h, .inr (2, [.ref (u 1), .ref (u 2), .ref (u 3), .ref (u 4), .ref (u 5), .ref (u 6), .ref (u 7), .int (nI (mk + 2)), .int (nI sp)])), ((u 1), .inl (cI, (n * 2), .inl (fun j => nI (pa j)))), ((u 2), .inl (cI, (n * 2), .inl (fun j => nI (ch j)))), ((u 3), .inl (cI, (n * 2), .inl (fun j => nI (kd j)))), ((u 4), .inl (cI, (n * 2), .inl (fun j => nI (ad j)))), ((u 5), .inl (cI, (n * 2), .inl (fun j => nI (rq j)))), ((u 6), .inl (cI, (n * 2), .inl (fun j => nI (su j)))), ((u 7), .inl (cI, (n * 2), .inl (fun j => nI (un j))))] := hD
      refine lv_iload_n hx hb dX2_takePair_59 rfl (lv_at hl 0 rfl) ?_
      obtain ⟨e1, e2, e3, e4⟩ := tp_c (n := n) (mk := mk) (pa := pa) c1 c2
      refine W.widen (k := (7 * (tpN n mk sp - n))) (n := (14 * (tpN n mk sp - n))) (by rw [e1]; omega) (by rw [e1]; omega) ?_
      exact k_retI (sz := 0) (v := nI mk) hx hb hr hlocks hAe hS hP hD u (by rw [e1, e2, e3] <;> rfl) (by rw [e4]) dX2_takePair_60
  · skip
    refine lv_aload_n hx hb dX2_takePair_9 rfl (lv_at hl 1 rfl) ?_
    refine lv_aload_n hx hb dX2_takePair_10 rfl (lv_at hl 1 rfl) ?_
    refine va_get (D := g) (ci := 2) (v := .ref q1) (C := RX2) (T := TX2) (N := 9) hx hb hts hinX2 hown hK hP 0 rfl rfl 0 (by decide) (hts (.fieldLink RX2 11 "BuddyRoof$Tree" "parent" "[I") (by decide +kernel)) (fun _ h9 => h9) rfl dX2_takePair_11 ?_
    refine lv_iload_n hx hb dX2_takePair_14 rfl (lv_at hl 0 rfl) ?_
    refine n_ald (v := nI (pa sp)) hx hb hK hP 1 0 rfl rfl (i := sp) (by first | assumption | omega) (by first | assumption | omega) rfl dX2_takePair_15 ?_
    refine va_put (D := g) (ci := 2) (v := .int (nI (pa sp))) (ty := .int) (C := RX2) (T := TX2) (N := 9) hx hb hts hinX2 tyX2 tyX2_ok nmX2 hown hK hP hD hS 0 rfl rfl 8 (by decide) (hts (.fieldLink RX2 37 "BuddyRoof$Tree" "spare" "I") (by decide +kernel)) (fun _ h9 => h9) rfl (by decide +kernel) rfl rfl (Nat.le_of_ble_eq_true rfl) dX2_takePair_16 (fun H locs hP hD hS => ?_)
    have hP : va_P g vwCl [(h, .inr (2, [.ref q1, .ref q2, .ref q3, .ref q4, .ref q5, .ref q6, .ref q7, .int (nI mk), .int (nI (pa sp))])), (q1, .inl (cI, n, .inl (fun j => nI (pa j)))), (q2, .inl (cI, n, .inl (fun j => nI (ch j)))), (q3, .inl (cI, n, .inl (fun j => nI (kd j)))), (q4, .inl (cI, n, .inl (fun j => nI (ad j)))), (q5, .inl (cI, n, .inl (fun j => nI (rq j)))), (q6, .inl (cI, n, .inl (fun j => nI (su j)))), (q7, .inl (cI, n, .inl (fun j => nI (un j))))] H := hP
    have hD : va_D A [(h, .inr (2, [.ref q1, .ref q2, .ref q3, .ref q4, .ref q5, .ref q6, .ref q7, .int (nI mk), .int (nI (pa sp))])), (q1, .inl (cI, n, .inl (fun j => nI (pa j)))), (q2, .inl (cI, n, .inl (fun j => nI (ch j)))), (q3, .inl (cI, n, .inl (fun j => nI (kd j)))), (q4, .inl (cI, n, .inl (fun j => nI (ad j)))), (q5, .inl (cI, n, .inl (fun j => nI (rq j)))), (q6, .inl (cI, n, .inl (fun j => nI (su j)))), (q7, .inl (cI, n, .inl (fun j => nI (un j))))] := hD
    refine lv_iload_n hx hb dX2_takePair_19 rfl (lv_at hl 0 rfl) ?_
    obtain ⟨e1, e2, e3, e4⟩ := tp_a (n := n) (mk := mk) (pa := pa) c1
    refine W.widen (k := (7 * (tpN n mk sp - n))) (n := (14 * (tpN n mk sp - n))) (by rw [e1]; omega) (by rw [e1]; omega) ?_
    exact k_retI (sz := 0) (v := nI sp) hx hb hr hlocks hAe hS hP hD (fun k => if k = 1 then q1 else if k = 2 then q2 else if k = 3 then q3 else if k = 4 then q4 else if k = 5 then q5 else if k = 6 then q6 else q7) (by rw [e1, e2, e3] <;> rfl) (by rw [e4]) dX2_takePair_20
set_option maxHeartbeats 4000000 in
set_option maxRecDepth 100000 in
theorem c_X2_split (l : Launch) (g : va_G) (cI cJ cZ : ClassId) (h q1 q2 q3 q4 q5 q6 q7 n : Nat) (pa ch kd ad rq su un : Nat → Nat) (mk sp : Nat) (i lc rc lz : Nat) (hn : n < 2 ^ 25) (hi : i < n) (hkd : ∀ i, kd i ≤ 24) (hlc : lc ≤ 24) (hrc : rc ≤ 24) (hmk : mk ≤ n) (h2 : 2 ≤ n) (hsp : sp + 1 < n) (hz1 : ∀ j, n ≤ j → pa j = 0) (hz2 : ∀ j, n ≤ j → ch j = 0) (hz3 : ∀ j, n ≤ j → kd j = 0) (hz4 : ∀ j, n ≤ j → ad j = 0) (hz5 : ∀ j, n ≤ j → rq j = 0) (hz6 : ∀ j, n ≤ j → su j = 0) (hz7 : ∀ j, n ≤ j → un j = 0) : kV l g (kty cI cJ cZ) yX2_split wsX2_split ({ frames := 4, cells := (7 * (tpN n mk sp - n)), slots := (14 * (tpN n mk sp - n)), locals := 128 }) [.ref h, .int (nI i), .int (nI lc), .int (nI rc), .int (nI lz)] [(h, .inr (2, [.ref q1, .ref q2, .ref q3, .ref q4, .ref q5, .ref q6, .ref q7, .int (nI mk), .int (nI sp)])), (q1, .inl (cI, n, .inl (fun j => nI (pa j)))), (q2, .inl (cI, n, .inl (fun j => nI (ch j)))), (q3, .inl (cI, n, .inl (fun j => nI (kd j)))), (q4, .inl (cI, n, .inl (fun j => nI (ad j)))), (q5, .inl (cI, n, .inl (fun j => nI (rq j)))), (q6, .inl (cI, n, .inl (fun j => nI (su j)))), (q7, .inl (cI, n, .inl (fun j => nI (un j))))] (S := Nat → Nat) (fun _ => True) (fun u => [(h, .inr (2, [.ref (u 1), .ref (u 2), .ref (u 3), .ref (u 4), .ref (u 5), .ref (u 6), .ref (u 7), .int (nI (tpM mk sp)), .int (nI (tpS pa sp))])), ((u 1), .inl (cI, (tpN n mk sp), .inl (fun j => nI ((upN (upN pa (tpP mk sp) i) (tpP mk sp + 1) i) j)))), ((u 2), .inl (cI, (tpN n mk sp), .inl (fun j => nI ((upN (upN (upN ch (tpP mk sp) 0) (tpP mk sp + 1) 0) i (tpP mk sp)) j)))), ((u 3), .inl (cI, (tpN n mk sp), .inl (fun j => nI ((upN (upN kd (tpP mk sp) lc) (tpP mk sp + 1) rc) j)))), ((u 4), .inl (cI, (tpN n mk sp), .inl (fun j => nI ((upN (upN ad (tpP mk sp) (ad i)) (tpP mk sp + 1) (upN ad (tpP mk sp) (ad i) i + lz)) j)))), ((u 5), .inl (cI, (tpN n mk sp), .inl (fun j => nI ((upN (upN rq (tpP mk sp) 0) (tpP mk sp + 1) 0) j)))), ((u 6), .inl (cI, (tpN n mk sp), .inl (fun j => nI ((upN (upN su (tpP mk sp) (1 * 2 ^ lc)) (tpP mk sp + 1) (1 * 2 ^ rc)) j)))), ((u 7), .inl (cI, (tpN n mk sp), .inl (fun j => nI ((upN (upN un (tpP mk sp) 1) (tpP mk sp + 1) 1) j))))]) (7 * (tpN n mk sp - n)) (14 * (tpN n mk sp - n)) := by
  intro sz
  refine Met.ofW (cc := cX2_split) (maxL := 6) (ret := none) (by decide) rfl ?_
  intro p e s m args below meth c s₁ B hml hv
  obtain ⟨rfl, hsz, hP, hk, hD0⟩ := hv
  subst hsz
  have hx := B.exec
  have hb := B.bytes
  have hr := B.returns
  have hts := atoms_spec (ws := wsX2_split) B.pre
  have hown : s.vm.findClass RX2 = some m.cls := findClass_of_methodNamed B.named
  have hlocks := B.notSynchronized
  have hK := hk.1
  have hinX2 : ∀ w ∈ wsX20, w ∈ wsX2_split := by decide +kernel
  obtain ⟨A, hAe⟩ : ∃ A, va_A [(h, .inr (2, [.ref q1, .ref q2, .ref q3, .ref q4, .ref q5, .ref q6, .ref q7, .int (nI mk), .int (nI sp)])), (q1, .inl (cI, n, .inl (fun j => nI (pa j)))), (q2, .inl (cI, n, .inl (fun j => nI (ch j)))), (q3, .inl (cI, n, .inl (fun j => nI (kd j)))), (q4, .inl (cI, n, .inl (fun j => nI (ad j)))), (q5, .inl (cI, n, .inl (fun j => nI (rq j)))), (q6, .inl (cI, n, .inl (fun j => nI (su j)))), (q7, .inl (cI, n, .inl (fun j => nI (un j))))] s.heap.size = A := ⟨_, rfl⟩
  have hD := hD0.self (sz := s.heap.size)
  rw [hAe] at hD
  have hA : ∀ q : Nat, s.heap.size ≤ q → A q := fun q h => by rw [← hAe]; exact Or.inr h
  have hS : va_S A s.heap s.heap [] := va_S.rf
  have hl := lv_entry ([.ref h, .int (nI i), .int (nI lc), .int (nI rc), .int (nI lz)]) (n := 6) (Nat.le_of_ble_eq_true rfl)
  rw [lg_entry_eq]
  generalize (lg_sl ([.ref h, .int (nI i), .int (nI lc), .int (nI rc), .int (nI lz)]) ++ List.replicate (6 - (lg_sl ([.ref h, .int (nI i), .int (nI lc), .int (nI rc), .int (nI lz)])).length) Slot.unset).toArray = ls at hl ⊢
  have hl : lv_has ls 6 [(0, .ref h), (1, .int (nI i)), (2, .int (nI lc)), (3, .int (nI rc)), (4, .int (nI lz))] := hl
  have hN1 := tpN_le n mk sp
  have hN2 := tpP_lt hmk h2 hsp
  refine lv_aload_n hx hb dX2_split_0 rfl (lv_at hl 0 rfl) ?_
  refine k_goI (wr := []) (va_runV (As := []) (rest := []) ⟨hx, hb, hml, hown, hts⟩ (c_X2_takePair l g cI cJ cZ h q1 q2 q3 q4 q5 q6 q7 n pa ch kd ad rq su un mk sp  (by omega) (by omega) (by omega) (by omega) hz1 hz2 hz3 hz4 hz5 hz6 hz7 _) (cwV 0 hts gX2_split_X2_takePair rfl rfl rfl (by decide +kernel) ⟨Nat.le_of_ble_eq_true rfl, Nat.le_of_ble_eq_true rfl⟩) (k_preV hk hP hD [0, 1, 2, 3, 4, 5, 6, 7] rfl rfl (ci := 2) (q0 := 0) rfl rfl) rfl rfl hl.1 rfl (lv_room (Nat.le_of_ble_eq_true rfl)) dX2_split_1 ⟨by show 0 + 7 * (tpN n mk sp - n) ≤ 7 * (tpN n mk sp - n); omega, by show 0 + 14 * (tpN n mk sp - n) ≤ 14 * (tpN n mk sp - n); omega⟩) hP hD hS hA [0, 1, 2, 3, 4, 5, 6, 7] [] rfl rfl rfl (by decide) (fun rv u H locs hu hP hD hS => ?_)
  subst hu
  have hP : va_P g vwCl [(h, .inr (2, [.ref (u 1), .ref (u 2), .ref (u 3), .ref (u 4), .ref (u 5), .ref (u 6), .ref (u 7), .int (nI (tpM mk sp)), .int (nI (tpS pa sp))])), ((u 1), .inl (cI, (tpN n mk sp), .inl (fun j => nI (pa j)))), ((u 2), .inl (cI, (tpN n mk sp), .inl (fun j => nI (ch j)))), ((u 3), .inl (cI, (tpN n mk sp), .inl (fun j => nI (kd j)))), ((u 4), .inl (cI, (tpN n mk sp), .inl (fun j => nI (ad j)))), ((u 5), .inl (cI, (tpN n mk sp), .inl (fun j => nI (rq j)))), ((u 6), .inl (cI, (tpN n mk sp), .inl (fun j => nI (su j)))), ((u 7), .inl (cI, (tpN n mk sp), .inl (fun j => nI (un j))))] H := hP
  have hD : va_D A [(h, .inr (2, [.ref (u 1), .ref (u 2), .ref (u 3), .ref (u 4), .ref (u 5), .ref (u 6), .ref (u 7), .int (nI (tpM mk sp)), .int (nI (tpS pa sp))])), ((u 1), .inl (cI, (tpN n mk sp), .inl (fun j => nI (pa j)))), ((u 2), .inl (cI, (tpN n mk sp), .inl (fun j => nI (ch j)))), ((u 3), .inl (cI, (tpN n mk sp), .inl (fun j => nI (kd j)))), ((u 4), .inl (cI, (tpN n mk sp), .inl (fun j => nI (ad j)))), ((u 5), .inl (cI, (tpN n mk sp), .inl (fun j => nI (rq j)))), ((u 6), .inl (cI, (tpN n mk sp), .inl (fun j => nI (su j)))), ((u 7), .inl (cI, (tpN n mk sp), .inl (fun j => nI (un j))))] := hD
  refine lv_istore (lv' := [(5, .int (nI (tpP mk sp))), (0, .ref h), (1, .int (nI i)), (2, .int (nI lc)), (3, .int (nI rc)), (4, .int (nI lz))]) hx hb dX2_split_4 hl (by decide) rfl (fun ls hl => ?_)
  refine lv_aload_n hx hb dX2_split_6 rfl (lv_at hl 1 rfl) ?_
  refine lv_iload hx hb dX2_split_7 (lv_at hl 0 rfl) ?_
  refine lv_iload_n hx hb dX2_split_9 rfl (lv_at hl 2 rfl) ?_
  refine lv_iload_n hx hb dX2_split_10 rfl (lv_at hl 3 rfl) ?_
  refine lv_aload_n hx hb dX2_split_11 rfl (lv_at hl 1 rfl) ?_
  refine va_get (D := g) (ci := 2) (v := .ref (u 4)) (C := RX2) (T := TX2) (N := 9) hx hb hts hinX2 hown hK hP 0 rfl rfl 3 (by decide) (hts (.fieldLink RX2 21 "BuddyRoof$Tree" "address" "[I") (by decide +kernel)) (fun _ h9 => h9) rfl dX2_split_12 ?_
  refine lv_iload_n hx hb dX2_split_15 rfl (lv_at hl 2 rfl) ?_
  refine n_ald (v := nI (ad i)) hx hb hK hP 4 0 rfl rfl (i := i) (by first | assumption | omega) (by first | assumption | omega) rfl dX2_split_16 ?_
  refine k_goV (wr := []) (va_runV (As := [.int (nI (tpP mk sp)), .int (nI i), .int (nI lc), .int (nI (ad i))]) (rest := []) ⟨hx, hb, hml, hown, hts⟩ (c_X2_put l g cI cJ cZ h (u 1) (u 2) (u 3) (u 4) (u 5) (u 6) (u 7) (tpN n mk sp) pa ch kd ad rq su un (tpM mk sp) (tpS pa sp) (tpP mk sp) i lc (ad i) (by omega) (by omega) hkd hlc _) (cwV 4 hts gX2_split_X2_put rfl rfl rfl (by decide +kernel) ⟨Nat.le_of_ble_eq_true rfl, Nat.le_of_ble_eq_true rfl⟩) (k_preV hk hP hD [0, 1, 2, 3, 4, 5, 6, 7] rfl rfl (ci := 2) (q0 := 0) rfl rfl) rfl rfl hl.1 rfl (lv_room (Nat.le_of_ble_eq_true rfl)) dX2_split_17 ⟨by show 0 + 7 * (tpN n mk sp - n) ≤ 7 * (tpN n mk sp - n); omega, by show 0 + 14 * (tpN n mk sp - n) ≤ 14 * (tpN n mk sp - n); omega⟩) hP hD hS hA [0, 1, 2, 3, 4, 5, 6, 7] [] rfl rfl rfl (by decide) (fun _ H locs hu hP hD hS => ?_)
  have hP : va_P g vwCl [(h, .inr (2, [.ref (u 1), .ref (u 2), .ref (u 3), .ref (u 4), .ref (u 5), .ref (u 6), .ref (u 7), .int (nI (tpM mk sp)), .int (nI (tpS pa sp))])), ((u 1), .inl (cI, (tpN n mk sp), .inl (fun j => nI ((upN pa (tpP mk sp) i) j)))), ((u 2), .inl (cI, (tpN n mk sp), .inl (fun j => nI ((upN ch (tpP mk sp) 0) j)))), ((u 3), .inl (cI, (tpN n mk sp), .inl (fun j => nI ((upN kd (tpP mk sp) lc) j)))), ((u 4), .inl (cI, (tpN n mk sp), .inl (fun j => nI ((upN ad (tpP mk sp) (ad i)) j)))), ((u 5), .inl (cI, (tpN n mk sp), .inl (fun j => nI ((upN rq (tpP mk sp) 0) j)))), ((u 6), .inl (cI, (tpN n mk sp), .inl (fun j => nI ((upN su (tpP mk sp) (1 * 2 ^ lc)) j)))), ((u 7), .inl (cI, (tpN n mk sp), .inl (fun j => nI ((upN un (tpP mk sp) 1) j))))] H := hP
  have hD : va_D A [(h, .inr (2, [.ref (u 1), .ref (u 2), .ref (u 3), .ref (u 4), .ref (u 5), .ref (u 6), .ref (u 7), .int (nI (tpM mk sp)), .int (nI (tpS pa sp))])), ((u 1), .inl (cI, (tpN n mk sp), .inl (fun j => nI ((upN pa (tpP mk sp) i) j)))), ((u 2), .inl (cI, (tpN n mk sp), .inl (fun j => nI ((upN ch (tpP mk sp) 0) j)))), ((u 3), .inl (cI, (tpN n mk sp), .inl (fun j => nI ((upN kd (tpP mk sp) lc) j)))), ((u 4), .inl (cI, (tpN n mk sp), .inl (fun j => nI ((upN ad (tpP mk sp) (ad i)) j)))), ((u 5), .inl (cI, (tpN n mk sp), .inl (fun j => nI ((upN rq (tpP mk sp) 0) j)))), ((u 6), .inl (cI, (tpN n mk sp), .inl (fun j => nI ((upN su (tpP mk sp) (1 * 2 ^ lc)) j)))), ((u 7), .inl (cI, (tpN n mk sp), .inl (fun j => nI ((upN un (tpP mk sp) 1) j))))] := hD
  refine lv_aload_n hx hb dX2_split_20 rfl (lv_at hl 1 rfl) ?_
  refine lv_iload hx hb dX2_split_21 (lv_at hl 0 rfl) ?_
  refine lv_iconst (v := nI 1) hx hb dX2_split_23 (by decide) ?_
  refine n_iadd hx hb dX2_split_24 ?_
  refine lv_iload_n hx hb dX2_split_25 rfl (lv_at hl 2 rfl) ?_
  refine lv_iload_n hx hb dX2_split_26 rfl (lv_at hl 4 rfl) ?_
  refine lv_aload_n hx hb dX2_split_27 rfl (lv_at hl 1 rfl) ?_
  refine va_get (D := g) (ci := 2) (v := .ref (u 4)) (C := RX2) (T := TX2) (N := 9) hx hb hts hinX2 hown hK hP 0 rfl rfl 3 (by decide) (hts (.fieldLink RX2 21 "BuddyRoof$Tree" "address" "[I") (by decide +kernel)) (fun _ h9 => h9) rfl dX2_split_28 ?_
  refine lv_iload_n hx hb dX2_split_31 rfl (lv_at hl 2 rfl) ?_
  refine n_ald (v := nI ((upN ad (tpP mk sp) (ad i)) i)) hx hb hK hP 4 0 rfl rfl (i := i) (by first | assumption | omega) (by first | assumption | omega) rfl dX2_split_32 ?_
  refine lv_iload hx hb dX2_split_33 (lv_at hl 5 rfl) ?_
  refine n_iadd hx hb dX2_split_35 ?_
  refine k_goV (wr := []) (va_runV (As := [.int (nI ((tpP mk sp) + 1)), .int (nI i), .int (nI rc), .int (nI (((upN ad (tpP mk sp) (ad i)) i) + lz))]) (rest := []) ⟨hx, hb, hml, hown, hts⟩ (c_X2_put l g cI cJ cZ h (u 1) (u 2) (u 3) (u 4) (u 5) (u 6) (u 7) (tpN n mk sp) (upN pa (tpP mk sp) i) (upN ch (tpP mk sp) 0) (upN kd (tpP mk sp) lc) (upN ad (tpP mk sp) (ad i)) (upN rq (tpP mk sp) 0) (upN su (tpP mk sp) (1 * 2 ^ lc)) (upN un (tpP mk sp) 1) (tpM mk sp) (tpS pa sp) (tpP mk sp + 1) i rc (upN ad (tpP mk sp) (ad i) i + lz) (by omega) (by omega) (upN_le hkd hlc) hrc _) (cwV 4 hts gX2_split_X2_put rfl rfl rfl (by decide +kernel) ⟨Nat.le_of_ble_eq_true rfl, Nat.le_of_ble_eq_true rfl⟩) (k_preV hk hP hD [0, 1, 2, 3, 4, 5, 6, 7] rfl rfl (ci := 2) (q0 := 0) rfl rfl) rfl rfl hl.1 rfl (lv_room (Nat.le_of_ble_eq_true rfl)) dX2_split_36 ⟨by show 0 + 7 * (tpN n mk sp - n) ≤ 7 * (tpN n mk sp - n); omega, by show 0 + 14 * (tpN n mk sp - n) ≤ 14 * (tpN n mk sp - n); omega⟩) hP hD hS hA [0, 1, 2, 3, 4, 5, 6, 7] [] rfl rfl rfl (by decide) (fun _ H locs hu hP hD hS => ?_)
  have hP : va_P g vwCl [(h, .inr (2, [.ref (u 1), .ref (u 2), .ref (u 3), .ref (u 4), .ref (u 5), .ref (u 6), .ref (u 7), .int (nI (tpM mk sp)), .int (nI (tpS pa sp))])), ((u 1), .inl (cI, (tpN n mk sp), .inl (fun j => nI ((upN (upN pa (tpP mk sp) i) (tpP mk sp + 1) i) j)))), ((u 2), .inl (cI, (tpN n mk sp), .inl (fun j => nI ((upN (upN ch (tpP mk sp) 0) (tpP mk sp + 1) 0) j)))), ((u 3), .inl (cI, (tpN n mk sp), .inl (fun j => nI ((upN (upN kd (tpP mk sp) lc) (tpP mk sp + 1) rc) j)))), ((u 4), .inl (cI, (tpN n mk sp), .inl (fun j => nI ((upN (upN ad (tpP mk sp) (ad i)) (tpP mk sp + 1) (upN ad (tpP mk sp) (ad i) i + lz)) j)))), ((u 5), .inl (cI, (tpN n mk sp), .inl (fun j => nI ((upN (upN rq (tpP mk sp) 0) (tpP mk sp + 1) 0) j)))), ((u 6), .inl (cI, (tpN n mk sp), .inl (fun j => nI ((upN (upN su (tpP mk sp) (1 * 2 ^ lc)) (tpP mk sp + 1) (1 * 2 ^ rc)) j)))), ((u 7), .inl (cI, (tpN n mk sp), .inl (fun j => nI ((upN (upN un (tpP mk sp) 1) (tpP mk sp + 1) 1) j))))] H := hP
  have hD : va_D A [(h, .inr (2, [.ref (u 1), .ref (u 2), .ref (u 3), .ref (u 4), .ref (u 5), .ref (u 6), .ref (u 7), .int (nI (tpM mk sp)), .int (nI (tpS pa sp))])), ((u 1), .inl (cI, (tpN n mk sp), .inl (fun j => nI ((upN (upN pa (tpP mk sp) i) (tpP mk sp + 1) i) j)))), ((u 2), .inl (cI, (tpN n mk sp), .inl (fun j => nI ((upN (upN ch (tpP mk sp) 0) (tpP mk sp + 1) 0) j)))), ((u 3), .inl (cI, (tpN n mk sp), .inl (fun j => nI ((upN (upN kd (tpP mk sp) lc) (tpP mk sp + 1) rc) j)))), ((u 4), .inl (cI, (tpN n mk sp), .inl (fun j => nI ((upN (upN ad (tpP mk sp) (ad i)) (tpP mk sp + 1) (upN ad (tpP mk sp) (ad i) i + lz)) j)))), ((u 5), .inl (cI, (tpN n mk sp), .inl (fun j => nI ((upN (upN rq (tpP mk sp) 0) (tpP mk sp + 1) 0) j)))), ((u 6), .inl (cI, (tpN n mk sp), .inl (fun j => nI ((upN (upN su (tpP mk sp) (1 * 2 ^ lc)) (tpP mk sp + 1) (1 * 2 ^ rc)) j)))), ((u 7), .inl (cI, (tpN n mk sp), .inl (fun j => nI ((upN (upN un (tpP mk sp) 1) (tpP mk sp + 1) 1) j))))] := hD
  refine lv_aload_n hx hb dX2_split_39 rfl (lv_at hl 1 rfl) ?_
  refine va_get (D := g) (ci := 2) (v := .ref (u 2)) (C := RX2) (T := TX2) (N := 9) hx hb hts hinX2 hown hK hP 0 rfl rfl 1 (by decide) (hts (.fieldLink RX2 15 "BuddyRoof$Tree" "child" "[I") (by decide +kernel)) (fun _ h9 => h9) rfl dX2_split_40 ?_
  refine lv_iload_n hx hb dX2_split_43 rfl (lv_at hl 2 rfl) ?_
  refine lv_iload hx hb dX2_split_44 (lv_at hl 0 rfl) ?_
  refine n_ast hx hb hK hP hD hS 2 0 rfl rfl (i := i) (v := (tpP mk sp)) (by first | assumption | omega) (by first | assumption | omega) dX2_split_46 (fun H locs hP hD hS => ?_)
  have hP : va_P g vwCl [(h, .inr (2, [.ref (u 1), .ref (u 2), .ref (u 3), .ref (u 4), .ref (u 5), .ref (u 6), .ref (u 7), .int (nI (tpM mk sp)), .int (nI (tpS pa sp))])), ((u 1), .inl (cI, (tpN n mk sp), .inl (fun j => nI ((upN (upN pa (tpP mk sp) i) (tpP mk sp + 1) i) j)))), ((u 2), .inl (cI, (tpN n mk sp), .inl (fun j => nI ((upN (upN (upN ch (tpP mk sp) 0) (tpP mk sp + 1) 0) i (tpP mk sp)) j)))), ((u 3), .inl (cI, (tpN n mk sp), .inl (fun j => nI ((upN (upN kd (tpP mk sp) lc) (tpP mk sp + 1) rc) j)))), ((u 4), .inl (cI, (tpN n mk sp), .inl (fun j => nI ((upN (upN ad (tpP mk sp) (ad i)) (tpP mk sp + 1) (upN ad (tpP mk sp) (ad i) i + lz)) j)))), ((u 5), .inl (cI, (tpN n mk sp), .inl (fun j => nI ((upN (upN rq (tpP mk sp) 0) (tpP mk sp + 1) 0) j)))), ((u 6), .inl (cI, (tpN n mk sp), .inl (fun j => nI ((upN (upN su (tpP mk sp) (1 * 2 ^ lc)) (tpP mk sp + 1) (1 * 2 ^ rc)) j)))), ((u 7), .inl (cI, (tpN n mk sp), .inl (fun j => nI ((upN (upN un (tpP mk sp) 1) (tpP mk sp + 1) 1) j))))] H := hP
  have hD : va_D A [(h, .inr (2, [.ref (u 1), .ref (u 2), .ref (u 3), .ref (u 4), .ref (u 5), .ref (u 6), .ref (u 7), .int (nI (tpM mk sp)), .int (nI (tpS pa sp))])), ((u 1), .inl (cI, (tpN n mk sp), .inl (fun j => nI ((upN (upN pa (tpP mk sp) i) (tpP mk sp + 1) i) j)))), ((u 2), .inl (cI, (tpN n mk sp), .inl (fun j => nI ((upN (upN (upN ch (tpP mk sp) 0) (tpP mk sp + 1) 0) i (tpP mk sp)) j)))), ((u 3), .inl (cI, (tpN n mk sp), .inl (fun j => nI ((upN (upN kd (tpP mk sp) lc) (tpP mk sp + 1) rc) j)))), ((u 4), .inl (cI, (tpN n mk sp), .inl (fun j => nI ((upN (upN ad (tpP mk sp) (ad i)) (tpP mk sp + 1) (upN ad (tpP mk sp) (ad i) i + lz)) j)))), ((u 5), .inl (cI, (tpN n mk sp), .inl (fun j => nI ((upN (upN rq (tpP mk sp) 0) (tpP mk sp + 1) 0) j)))), ((u 6), .inl (cI, (tpN n mk sp), .inl (fun j => nI ((upN (upN su (tpP mk sp) (1 * 2 ^ lc)) (tpP mk sp + 1) (1 * 2 ^ rc)) j)))), ((u 7), .inl (cI, (tpN n mk sp), .inl (fun j => nI ((upN (upN un (tpP mk sp) 1) (tpP mk sp + 1) 1) j))))] := hD
  refine W.widen (k := (7 * (tpN n mk sp - n))) (n := (14 * (tpN n mk sp - n))) (by first | exact Nat.le_refl _ | omega) (by first | exact Nat.le_refl _ | omega) ?_
  exact k_retV (sz := 0) hx hb hr hlocks hAe hS hP hD u (rfl) (trivial) dX2_split_47
set_option maxHeartbeats 4000000 in
set_option maxRecDepth 100000 in
theorem c_X2_begin (l : Launch) (g : va_G) (cI cJ cZ : ClassId) (h q1 q2 q3 q4 q5 q6 q7 n : Nat) (pa ch kd ad rq su un : Nat → Nat) (mk sp : Nat) (top : Nat) (hn : n < 2 ^ 31) (h1 : 1 < n) (hkd : ∀ i, kd i ≤ 24) (htop : top ≤ 24) : kV l g (kty cI cJ cZ) yX2_begin wsX2_begin ({ frames := 2, cells := 0, slots := 0, locals := 46 }) [.ref h, .int (nI top)] [(h, .inr (2, [.ref q1, .ref q2, .ref q3, .ref q4, .ref q5, .ref q6, .ref q7, .int (nI mk), .int (nI sp)])), (q1, .inl (cI, n, .inl (fun j => nI (pa j)))), (q2, .inl (cI, n, .inl (fun j => nI (ch j)))), (q3, .inl (cI, n, .inl (fun j => nI (kd j)))), (q4, .inl (cI, n, .inl (fun j => nI (ad j)))), (q5, .inl (cI, n, .inl (fun j => nI (rq j)))), (q6, .inl (cI, n, .inl (fun j => nI (su j)))), (q7, .inl (cI, n, .inl (fun j => nI (un j))))] (S := Unit) (fun _ => True) (fun u => [(h, .inr (2, [.ref q1, .ref q2, .ref q3, .ref q4, .ref q5, .ref q6, .ref q7, .int (nI 2), .int (nI 0)])), (q1, .inl (cI, n, .inl (fun j => nI ((upN pa 1 0) j)))), (q2, .inl (cI, n, .inl (fun j => nI ((upN ch 1 0) j)))), (q3, .inl (cI, n, .inl (fun j => nI ((upN kd 1 top) j)))), (q4, .inl (cI, n, .inl (fun j => nI ((upN ad 1 0) j)))), (q5, .inl (cI, n, .inl (fun j => nI ((upN rq 1 0) j)))), (q6, .inl (cI, n, .inl (fun j => nI ((upN su 1 (1 * 2 ^ top)) j)))), (q7, .inl (cI, n, .inl (fun j => nI ((upN un 1 1) j))))]) 0 0 := by
  intro sz
  refine Met.ofW (cc := cX2_begin) (maxL := 2) (ret := none) (by decide) rfl ?_
  intro p e s m args below meth c s₁ B hml hv
  obtain ⟨rfl, hsz, hP, hk, hD0⟩ := hv
  subst hsz
  have hx := B.exec
  have hb := B.bytes
  have hr := B.returns
  have hts := atoms_spec (ws := wsX2_begin) B.pre
  have hown : s.vm.findClass RX2 = some m.cls := findClass_of_methodNamed B.named
  have hlocks := B.notSynchronized
  have hK := hk.1
  have hinX2 : ∀ w ∈ wsX20, w ∈ wsX2_begin := by decide +kernel
  obtain ⟨A, hAe⟩ : ∃ A, va_A [(h, .inr (2, [.ref q1, .ref q2, .ref q3, .ref q4, .ref q5, .ref q6, .ref q7, .int (nI mk), .int (nI sp)])), (q1, .inl (cI, n, .inl (fun j => nI (pa j)))), (q2, .inl (cI, n, .inl (fun j => nI (ch j)))), (q3, .inl (cI, n, .inl (fun j => nI (kd j)))), (q4, .inl (cI, n, .inl (fun j => nI (ad j)))), (q5, .inl (cI, n, .inl (fun j => nI (rq j)))), (q6, .inl (cI, n, .inl (fun j => nI (su j)))), (q7, .inl (cI, n, .inl (fun j => nI (un j))))] s.heap.size = A := ⟨_, rfl⟩
  have hD := hD0.self (sz := s.heap.size)
  rw [hAe] at hD
  have hA : ∀ q : Nat, s.heap.size ≤ q → A q := fun q h => by rw [← hAe]; exact Or.inr h
  have hS : va_S A s.heap s.heap [] := va_S.rf
  have hl := lv_entry ([.ref h, .int (nI top)]) (n := 2) (Nat.le_of_ble_eq_true rfl)
  rw [lg_entry_eq]
  generalize (lg_sl ([.ref h, .int (nI top)]) ++ List.replicate (2 - (lg_sl ([.ref h, .int (nI top)])).length) Slot.unset).toArray = ls at hl ⊢
  have hl : lv_has ls 2 [(0, .ref h), (1, .int (nI top))] := hl
  refine lv_aload_n hx hb dX2_begin_0 rfl (lv_at hl 0 rfl) ?_
  refine lv_iconst (v := nI 2) hx hb dX2_begin_1 (by decide) ?_
  refine va_put (D := g) (ci := 2) (v := .int (nI 2)) (ty := .int) (C := RX2) (T := TX2) (N := 9) hx hb hts hinX2 tyX2 tyX2_ok nmX2 hown hK hP hD hS 0 rfl rfl 7 (by decide) (hts (.fieldLink RX2 33 "BuddyRoof$Tree" "made" "I") (by decide +kernel)) (fun _ h9 => h9) rfl (by decide +kernel) rfl rfl (Nat.le_of_ble_eq_true rfl) dX2_begin_2 (fun H locs hP hD hS => ?_)
  have hP : va_P g vwCl [(h, .inr (2, [.ref q1, .ref q2, .ref q3, .ref q4, .ref q5, .ref q6, .ref q7, .int (nI 2), .int (nI sp)])), (q1, .inl (cI, n, .inl (fun j => nI (pa j)))), (q2, .inl (cI, n, .inl (fun j => nI (ch j)))), (q3, .inl (cI, n, .inl (fun j => nI (kd j)))), (q4, .inl (cI, n, .inl (fun j => nI (ad j)))), (q5, .inl (cI, n, .inl (fun j => nI (rq j)))), (q6, .inl (cI, n, .inl (fun j => nI (su j)))), (q7, .inl (cI, n, .inl (fun j => nI (un j))))] H := hP
  have hD : va_D A [(h, .inr (2, [.ref q1, .ref q2, .ref q3, .ref q4, .ref q5, .ref q6, .ref q7, .int (nI 2), .int (nI sp)])), (q1, .inl (cI, n, .inl (fun j => nI (pa j)))), (q2, .inl (cI, n, .inl (fun j => nI (ch j)))), (q3, .inl (cI, n, .inl (fun j => nI (kd j)))), (q4, .inl (cI, n, .inl (fun j => nI (ad j)))), (q5, .inl (cI, n, .inl (fun j => nI (rq j)))), (q6, .inl (cI, n, .inl (fun j => nI (su j)))), (q7, .inl (cI, n, .inl (fun j => nI (un j))))] := hD
  refine lv_aload_n hx hb dX2_begin_5 rfl (lv_at hl 0 rfl) ?_
  refine lv_iconst (v := nI 0) hx hb dX2_begin_6 (by decide) ?_
  refine va_put (D := g) (ci := 2) (v := .int (nI 0)) (ty := .int) (C := RX2) (T := TX2) (N := 9) hx hb hts hinX2 tyX2 tyX2_ok nmX2 hown hK hP hD hS 0 rfl rfl 8 (by decide) (hts (.fieldLink RX2 37 "BuddyRoof$Tree" "spare" "I") (by decide +kernel)) (fun _ h9 => h9) rfl (by decide +kernel) rfl rfl (Nat.le_of_ble_eq_true rfl) dX2_begin_7 (fun H locs hP hD hS => ?_)
  have hP : va_P g vwCl [(h, .inr (2, [.ref q1, .ref q2, .ref q3, .ref q4, .ref q5, .ref q6, .ref q7, .int (nI 2), .int (nI 0)])), (q1, .inl (cI, n, .inl (fun j => nI (pa j)))), (q2, .inl (cI, n, .inl (fun j => nI (ch j)))), (q3, .inl (cI, n, .inl (fun j => nI (kd j)))), (q4, .inl (cI, n, .inl (fun j => nI (ad j)))), (q5, .inl (cI, n, .inl (fun j => nI (rq j)))), (q6, .inl (cI, n, .inl (fun j => nI (su j)))), (q7, .inl (cI, n, .inl (fun j => nI (un j))))] H := hP
  have hD : va_D A [(h, .inr (2, [.ref q1, .ref q2, .ref q3, .ref q4, .ref q5, .ref q6, .ref q7, .int (nI 2), .int (nI 0)])), (q1, .inl (cI, n, .inl (fun j => nI (pa j)))), (q2, .inl (cI, n, .inl (fun j => nI (ch j)))), (q3, .inl (cI, n, .inl (fun j => nI (kd j)))), (q4, .inl (cI, n, .inl (fun j => nI (ad j)))), (q5, .inl (cI, n, .inl (fun j => nI (rq j)))), (q6, .inl (cI, n, .inl (fun j => nI (su j)))), (q7, .inl (cI, n, .inl (fun j => nI (un j))))] := hD
  refine lv_aload_n hx hb dX2_begin_10 rfl (lv_at hl 0 rfl) ?_
  refine lv_iconst (v := nI 1) hx hb dX2_begin_11 (by decide) ?_
  refine lv_iconst (v := nI 0) hx hb dX2_begin_12 (by decide) ?_
  refine lv_iload_n hx hb dX2_begin_13 rfl (lv_at hl 1 rfl) ?_
  refine lv_iconst (v := nI 0) hx hb dX2_begin_14 (by decide) ?_
  refine k_goV (wr := []) (va_runV (As := [.int (nI 1), .int (nI 0), .int (nI top), .int (nI 0)]) (rest := []) ⟨hx, hb, hml, hown, hts⟩ (c_X2_put l g cI cJ cZ h q1 q2 q3 q4 q5 q6 q7 n pa ch kd ad rq su un 2 0 1 0 top 0 hn h1 hkd htop _) (cwV 4 hts gX2_begin_X2_put rfl rfl rfl (by decide +kernel) ⟨Nat.le_of_ble_eq_true rfl, Nat.le_of_ble_eq_true rfl⟩) (k_preV hk hP hD [0, 1, 2, 3, 4, 5, 6, 7] rfl rfl (ci := 2) (q0 := 0) rfl rfl) rfl rfl hl.1 rfl (lv_room (Nat.le_of_ble_eq_true rfl)) dX2_begin_15 ⟨by first | exact Nat.zero_le _ | omega, by first | exact Nat.zero_le _ | omega⟩) hP hD hS hA [0, 1, 2, 3, 4, 5, 6, 7] [] rfl rfl rfl (by decide) (fun _ H locs hu hP hD hS => ?_)
  have hP : va_P g vwCl [(h, .inr (2, [.ref q1, .ref q2, .ref q3, .ref q4, .ref q5, .ref q6, .ref q7, .int (nI 2), .int (nI 0)])), (q1, .inl (cI, n, .inl (fun j => nI ((upN pa 1 0) j)))), (q2, .inl (cI, n, .inl (fun j => nI ((upN ch 1 0) j)))), (q3, .inl (cI, n, .inl (fun j => nI ((upN kd 1 top) j)))), (q4, .inl (cI, n, .inl (fun j => nI ((upN ad 1 0) j)))), (q5, .inl (cI, n, .inl (fun j => nI ((upN rq 1 0) j)))), (q6, .inl (cI, n, .inl (fun j => nI ((upN su 1 (1 * 2 ^ top)) j)))), (q7, .inl (cI, n, .inl (fun j => nI ((upN un 1 1) j))))] H := hP
  have hD : va_D A [(h, .inr (2, [.ref q1, .ref q2, .ref q3, .ref q4, .ref q5, .ref q6, .ref q7, .int (nI 2), .int (nI 0)])), (q1, .inl (cI, n, .inl (fun j => nI ((upN pa 1 0) j)))), (q2, .inl (cI, n, .inl (fun j => nI ((upN ch 1 0) j)))), (q3, .inl (cI, n, .inl (fun j => nI ((upN kd 1 top) j)))), (q4, .inl (cI, n, .inl (fun j => nI ((upN ad 1 0) j)))), (q5, .inl (cI, n, .inl (fun j => nI ((upN rq 1 0) j)))), (q6, .inl (cI, n, .inl (fun j => nI ((upN su 1 (1 * 2 ^ top)) j)))), (q7, .inl (cI, n, .inl (fun j => nI ((upN un 1 1) j))))] := hD
  refine W.widen (k := 0) (n := 0) (by first | exact Nat.le_refl _ | omega) (by first | exact Nat.le_refl _ | omega) ?_
  exact k_retV (sz := 0) hx hb hr hlocks hAe hS hP hD () (rfl) (trivial) dX2_begin_18
set_option maxHeartbeats 4000000 in
set_option maxRecDepth 100000 in
theorem c_X2_init (l : Launch) (g : va_G) (cI cJ cZ : ClassId) (h : Nat)  : kV l g (kty cI cJ cZ) yX2_init wsX2_init ({ frames := 1, cells := 7, slots := 448, locals := 12 }) [.ref h] [(h, .inr (2, [.null, .null, .null, .null, .null, .null, .null, .int 0, .int 0]))] (S := Nat → Nat) (fun _ => True) (fun u => [(h, .inr (2, [.ref (u 1), .ref (u 2), .ref (u 3), .ref (u 4), .ref (u 5), .ref (u 6), .ref (u 7), .int (nI 0), .int (nI 0)])), ((u 1), .inl (cI, 64, .inl (fun j => nI ((fun _ => 0) j)))), ((u 2), .inl (cI, 64, .inl (fun j => nI ((fun _ => 0) j)))), ((u 3), .inl (cI, 64, .inl (fun j => nI ((fun _ => 0) j)))), ((u 4), .inl (cI, 64, .inl (fun j => nI ((fun _ => 0) j)))), ((u 5), .inl (cI, 64, .inl (fun j => nI ((fun _ => 0) j)))), ((u 6), .inl (cI, 64, .inl (fun j => nI ((fun _ => 0) j)))), ((u 7), .inl (cI, 64, .inl (fun j => nI ((fun _ => 0) j))))]) 7 448 := by
  intro sz
  refine Met.ofW (cc := cX2_init) (maxL := 1) (ret := none) (by decide) rfl ?_
  intro p e s m args below meth c s₁ B hml hv
  obtain ⟨rfl, hsz, hP, hk, hD0⟩ := hv
  subst hsz
  have hx := B.exec
  have hb := B.bytes
  have hr := B.returns
  have hts := atoms_spec (ws := wsX2_init) B.pre
  have hown : s.vm.findClass RX2 = some m.cls := findClass_of_methodNamed B.named
  have hlocks := B.notSynchronized
  have hK := hk.1
  have hinX2 : ∀ w ∈ wsX20, w ∈ wsX2_init := by decide +kernel
  obtain ⟨A, hAe⟩ : ∃ A, va_A [(h, .inr (2, [.null, .null, .null, .null, .null, .null, .null, .int 0, .int 0]))] s.heap.size = A := ⟨_, rfl⟩
  have hD := hD0.self (sz := s.heap.size)
  rw [hAe] at hD
  have hA : ∀ q : Nat, s.heap.size ≤ q → A q := fun q h => by rw [← hAe]; exact Or.inr h
  have hS : va_S A s.heap s.heap [] := va_S.rf
  have hin : meth.name = "<init>" := (name_of_methodNamed B.named B.method).1
  have hl := lv_entry ([.ref h]) (n := 1) (Nat.le_of_ble_eq_true rfl)
  rw [lg_entry_eq]
  generalize (lg_sl ([.ref h]) ++ List.replicate (1 - (lg_sl ([.ref h])).length) Slot.unset).toArray = ls at hl ⊢
  have hl : lv_has ls 1 [(0, .ref h)] := hl
  refine lv_aload_n hx hb dX2_init_0 rfl (lv_at hl 0 rfl) ?_
  refine W.objInit hx hb hown (hts (.methodLink RX2 3 objectInit) (by decide +kernel)) (hts (.instanceMethod objectInit) (by decide +kernel)) (hts (.code objectInit ⟨#[0xb1]⟩ 1 none) (by decide +kernel)) rfl (by rw [hml]; exact hl.1) rfl dX2_init_1 (Nat.le_of_ble_eq_true rfl) (Nat.le_of_ble_eq_true rfl) ?_
  refine W.eq (g2 := F0 m 4 ls []) rfl ?_
  refine lv_aload_n hx hb dX2_init_4 rfl (lv_at hl 0 rfl) ?_
  refine lv_bipush (v := nI 64) hx hb dX2_init_5 (by decide) ?_
  refine n_newaI (N := 64) hx hb (hts (.arrayClass .int) (by decide +kernel)) hK 0 rfl hP hD hS hA (by decide) (by decide) (by exact Nat.le_of_ble_eq_true rfl) (by exact Nat.le_of_ble_eq_true rfl) dX2_init_7 (fun w1 H hP hD hS => ?_)
  have hP : va_P g vwCl [(h, .inr (2, [.null, .null, .null, .null, .null, .null, .null, .int 0, .int 0])), (w1, .inl (cI, 64, .inl (fun j => nI ((fun _ => 0) j))))] H := hP
  have hD : va_D A [(h, .inr (2, [.null, .null, .null, .null, .null, .null, .null, .int 0, .int 0])), (w1, .inl (cI, 64, .inl (fun j => nI ((fun _ => 0) j))))] := hD
  refine va_put (D := g) (ci := 2) (v := .ref w1) (ty := .array .int) (C := RX2) (T := TX2) (N := 9) hx hb hts hinX2 tyX2 tyX2_ok nmX2 hown hK hP hD hS 0 rfl rfl 0 (by decide) (hts (.fieldLink RX2 11 "BuddyRoof$Tree" "parent" "[I") (by decide +kernel)) (fun _ h9 => h9) rfl (by decide +kernel) rfl rfl (Nat.le_of_ble_eq_true rfl) dX2_init_9 (fun H locs hP hD hS => ?_)
  have hP : va_P g vwCl [(h, .inr (2, [.ref w1, .null, .null, .null, .null, .null, .null, .int 0, .int 0])), (w1, .inl (cI, 64, .inl (fun j => nI ((fun _ => 0) j))))] H := hP
  have hD : va_D A [(h, .inr (2, [.ref w1, .null, .null, .null, .null, .null, .null, .int 0, .int 0])), (w1, .inl (cI, 64, .inl (fun j => nI ((fun _ => 0) j))))] := hD
  refine lv_aload_n hx hb dX2_init_12 rfl (lv_at hl 0 rfl) ?_
  refine lv_bipush (v := nI 64) hx hb dX2_init_13 (by decide) ?_
  refine n_newaI (N := 64) hx hb (hts (.arrayClass .int) (by decide +kernel)) hK 0 rfl hP hD hS hA (by decide) (by decide) (by exact Nat.le_of_ble_eq_true rfl) (by exact Nat.le_of_ble_eq_true rfl) dX2_init_15 (fun w2 H hP hD hS => ?_)
  have hP : va_P g vwCl [(h, .inr (2, [.ref w1, .null, .null, .null, .null, .null, .null, .int 0, .int 0])), (w1, .inl (cI, 64, .inl (fun j => nI ((fun _ => 0) j)))), (w2, .inl (cI, 64, .inl (fun j => nI ((fun _ => 0) j))))] H := hP
  have hD : va_D A [(h, .inr (2, [.ref w1, .null, .null, .null, .null, .null, .null, .int 0, .int 0])), (w1, .inl (cI, 64, .inl (fun j => nI ((fun _ => 0) j)))), (w2, .inl (cI, 64, .inl (fun j => nI ((fun _ => 0) j))))] := hD
  refine va_put (D := g) (ci := 2) (v := .ref w2) (ty := .array .int) (C := RX2) (T := TX2) (N := 9) hx hb hts hinX2 tyX2 tyX2_ok nmX2 hown hK hP hD hS 0 rfl rfl 1 (by decide) (hts (.fieldLink RX2 15 "BuddyRoof$Tree" "child" "[I") (by decide +kernel)) (fun _ h9 => h9) rfl (by decide +kernel) rfl rfl (Nat.le_of_ble_eq_true rfl) dX2_init_17 (fun H locs hP hD hS => ?_)
  have hP : va_P g vwCl [(h, .inr (2, [.ref w1, .ref w2, .null, .null, .null, .null, .null, .int 0, .int 0])), (w1, .inl (cI, 64, .inl (fun j => nI ((fun _ => 0) j)))), (w2, .inl (cI, 64, .inl (fun j => nI ((fun _ => 0) j))))] H := hP
  have hD : va_D A [(h, .inr (2, [.ref w1, .ref w2, .null, .null, .null, .null, .null, .int 0, .int 0])), (w1, .inl (cI, 64, .inl (fun j => nI ((fun _ => 0) j)))), (w2, .inl (cI, 64, .inl (fun j => nI ((fun _ => 0) j))))] := hD
  refine lv_aload_n hx hb dX2_init_20 rfl (lv_at hl 0 rfl) ?_
  refine lv_bipush (v := nI 64) hx hb dX2_init_21 (by decide) ?_
  refine n_newaI (N := 64) hx hb (hts (.arrayClass .int) (by decide +kernel)) hK 0 rfl hP hD hS hA (by decide) (by decide) (by exact Nat.le_of_ble_eq_true rfl) (by exact Nat.le_of_ble_eq_true rfl) dX2_init_23 (fun w3 H hP hD hS => ?_)
  have hP : va_P g vwCl [(h, .inr (2, [.ref w1, .ref w2, .null, .null, .null, .null, .null, .int 0, .int 0])), (w1, .inl (cI, 64, .inl (fun j => nI ((fun _ => 0) j)))), (w2, .inl (cI, 64, .inl (fun j => nI ((fun _ => 0) j)))), (w3, .inl (cI, 64, .inl (fun j => nI ((fun _ => 0) j))))] H := hP
  have hD : va_D A [(h, .inr (2, [.ref w1, .ref w2, .null, .null, .null, .null, .null, .int 0, .int 0])), (w1, .inl (cI, 64, .inl (fun j => nI ((fun _ => 0) j)))), (w2, .inl (cI, 64, .inl (fun j => nI ((fun _ => 0) j)))), (w3, .inl (cI, 64, .inl (fun j => nI ((fun _ => 0) j))))] := hD
  refine va_put (D := g) (ci := 2) (v := .ref w3) (ty := .array .int) (C := RX2) (T := TX2) (N := 9) hx hb hts hinX2 tyX2 tyX2_ok nmX2 hown hK hP hD hS 0 rfl rfl 2 (by decide) (hts (.fieldLink RX2 18 "BuddyRoof$Tree" "kind" "[I") (by decide +kernel)) (fun _ h9 => h9) rfl (by decide +kernel) rfl rfl (Nat.le_of_ble_eq_true rfl) dX2_init_25 (fun H locs hP hD hS => ?_)
  have hP : va_P g vwCl [(h, .inr (2, [.ref w1, .ref w2, .ref w3, .null, .null, .null, .null, .int 0, .int 0])), (w1, .inl (cI, 64, .inl (fun j => nI ((fun _ => 0) j)))), (w2, .inl (cI, 64, .inl (fun j => nI ((fun _ => 0) j)))), (w3, .inl (cI, 64, .inl (fun j => nI ((fun _ => 0) j))))] H := hP
  have hD : va_D A [(h, .inr (2, [.ref w1, .ref w2, .ref w3, .null, .null, .null, .null, .int 0, .int 0])), (w1, .inl (cI, 64, .inl (fun j => nI ((fun _ => 0) j)))), (w2, .inl (cI, 64, .inl (fun j => nI ((fun _ => 0) j)))), (w3, .inl (cI, 64, .inl (fun j => nI ((fun _ => 0) j))))] := hD
  refine lv_aload_n hx hb dX2_init_28 rfl (lv_at hl 0 rfl) ?_
  refine lv_bipush (v := nI 64) hx hb dX2_init_29 (by decide) ?_
  refine n_newaI (N := 64) hx hb (hts (.arrayClass .int) (by decide +kernel)) hK 0 rfl hP hD hS hA (by decide) (by decide) (by exact Nat.le_of_ble_eq_true rfl) (by exact Nat.le_of_ble_eq_true rfl) dX2_init_31 (fun w4 H hP hD hS => ?_)
  have hP : va_P g vwCl [(h, .inr (2, [.ref w1, .ref w2, .ref w3, .null, .null, .null, .null, .int 0, .int 0])), (w1, .inl (cI, 64, .inl (fun j => nI ((fun _ => 0) j)))), (w2, .inl (cI, 64, .inl (fun j => nI ((fun _ => 0) j)))), (w3, .inl (cI, 64, .inl (fun j => nI ((fun _ => 0) j)))), (w4, .inl (cI, 64, .inl (fun j => nI ((fun _ => 0) j))))] H := hP
  have hD : va_D A [(h, .inr (2, [.ref w1, .ref w2, .ref w3, .null, .null, .null, .null, .int 0, .int 0])), (w1, .inl (cI, 64, .inl (fun j => nI ((fun _ => 0) j)))), (w2, .inl (cI, 64, .inl (fun j => nI ((fun _ => 0) j)))), (w3, .inl (cI, 64, .inl (fun j => nI ((fun _ => 0) j)))), (w4, .inl (cI, 64, .inl (fun j => nI ((fun _ => 0) j))))] := hD
  refine va_put (D := g) (ci := 2) (v := .ref w4) (ty := .array .int) (C := RX2) (T := TX2) (N := 9) hx hb hts hinX2 tyX2 tyX2_ok nmX2 hown hK hP hD hS 0 rfl rfl 3 (by decide) (hts (.fieldLink RX2 21 "BuddyRoof$Tree" "address" "[I") (by decide +kernel)) (fun _ h9 => h9) rfl (by decide +kernel) rfl rfl (Nat.le_of_ble_eq_true rfl) dX2_init_33 (fun H locs hP hD hS => ?_)
  have hP : va_P g vwCl [(h, .inr (2, [.ref w1, .ref w2, .ref w3, .ref w4, .null, .null, .null, .int 0, .int 0])), (w1, .inl (cI, 64, .inl (fun j => nI ((fun _ => 0) j)))), (w2, .inl (cI, 64, .inl (fun j => nI ((fun _ => 0) j)))), (w3, .inl (cI, 64, .inl (fun j => nI ((fun _ => 0) j)))), (w4, .inl (cI, 64, .inl (fun j => nI ((fun _ => 0) j))))] H := hP
  have hD : va_D A [(h, .inr (2, [.ref w1, .ref w2, .ref w3, .ref w4, .null, .null, .null, .int 0, .int 0])), (w1, .inl (cI, 64, .inl (fun j => nI ((fun _ => 0) j)))), (w2, .inl (cI, 64, .inl (fun j => nI ((fun _ => 0) j)))), (w3, .inl (cI, 64, .inl (fun j => nI ((fun _ => 0) j)))), (w4, .inl (cI, 64, .inl (fun j => nI ((fun _ => 0) j))))] := hD
  refine lv_aload_n hx hb dX2_init_36 rfl (lv_at hl 0 rfl) ?_
  refine lv_bipush (v := nI 64) hx hb dX2_init_37 (by decide) ?_
  refine n_newaI (N := 64) hx hb (hts (.arrayClass .int) (by decide +kernel)) hK 0 rfl hP hD hS hA (by decide) (by decide) (by exact Nat.le_of_ble_eq_true rfl) (by exact Nat.le_of_ble_eq_true rfl) dX2_init_39 (fun w5 H hP hD hS => ?_)
  have hP : va_P g vwCl [(h, .inr (2, [.ref w1, .ref w2, .ref w3, .ref w4, .null, .null, .null, .int 0, .int 0])), (w1, .inl (cI, 64, .inl (fun j => nI ((fun _ => 0) j)))), (w2, .inl (cI, 64, .inl (fun j => nI ((fun _ => 0) j)))), (w3, .inl (cI, 64, .inl (fun j => nI ((fun _ => 0) j)))), (w4, .inl (cI, 64, .inl (fun j => nI ((fun _ => 0) j)))), (w5, .inl (cI, 64, .inl (fun j => nI ((fun _ => 0) j))))] H := hP
  have hD : va_D A [(h, .inr (2, [.ref w1, .ref w2, .ref w3, .ref w4, .null, .null, .null, .int 0, .int 0])), (w1, .inl (cI, 64, .inl (fun j => nI ((fun _ => 0) j)))), (w2, .inl (cI, 64, .inl (fun j => nI ((fun _ => 0) j)))), (w3, .inl (cI, 64, .inl (fun j => nI ((fun _ => 0) j)))), (w4, .inl (cI, 64, .inl (fun j => nI ((fun _ => 0) j)))), (w5, .inl (cI, 64, .inl (fun j => nI ((fun _ => 0) j))))] := hD
  refine va_put (D := g) (ci := 2) (v := .ref w5) (ty := .array .int) (C := RX2) (T := TX2) (N := 9) hx hb hts hinX2 tyX2 tyX2_ok nmX2 hown hK hP hD hS 0 rfl rfl 4 (by decide) (hts (.fieldLink RX2 24 "BuddyRoof$Tree" "request" "[I") (by decide +kernel)) (fun _ h9 => h9) rfl (by decide +kernel) rfl rfl (Nat.le_of_ble_eq_true rfl) dX2_init_41 (fun H locs hP hD hS => ?_)
  have hP : va_P g vwCl [(h, .inr (2, [.ref w1, .ref w2, .ref w3, .ref w4, .ref w5, .null, .null, .int 0, .int 0])), (w1, .inl (cI, 64, .inl (fun j => nI ((fun _ => 0) j)))), (w2, .inl (cI, 64, .inl (fun j => nI ((fun _ => 0) j)))), (w3, .inl (cI, 64, .inl (fun j => nI ((fun _ => 0) j)))), (w4, .inl (cI, 64, .inl (fun j => nI ((fun _ => 0) j)))), (w5, .inl (cI, 64, .inl (fun j => nI ((fun _ => 0) j))))] H := hP
  have hD : va_D A [(h, .inr (2, [.ref w1, .ref w2, .ref w3, .ref w4, .ref w5, .null, .null, .int 0, .int 0])), (w1, .inl (cI, 64, .inl (fun j => nI ((fun _ => 0) j)))), (w2, .inl (cI, 64, .inl (fun j => nI ((fun _ => 0) j)))), (w3, .inl (cI, 64, .inl (fun j => nI ((fun _ => 0) j)))), (w4, .inl (cI, 64, .inl (fun j => nI ((fun _ => 0) j)))), (w5, .inl (cI, 64, .inl (fun j => nI ((fun _ => 0) j))))] := hD
  refine lv_aload_n hx hb dX2_init_44 rfl (lv_at hl 0 rfl) ?_
  refine lv_bipush (v := nI 64) hx hb dX2_init_45 (by decide) ?_
  refine n_newaI (N := 64) hx hb (hts (.arrayClass .int) (by decide +kernel)) hK 0 rfl hP hD hS hA (by decide) (by decide) (by exact Nat.le_of_ble_eq_true rfl) (by exact Nat.le_of_ble_eq_true rfl) dX2_init_47 (fun w6 H hP hD hS => ?_)
  have hP : va_P g vwCl [(h, .inr (2, [.ref w1, .ref w2, .ref w3, .ref w4, .ref w5, .null, .null, .int 0, .int 0])), (w1, .inl (cI, 64, .inl (fun j => nI ((fun _ => 0) j)))), (w2, .inl (cI, 64, .inl (fun j => nI ((fun _ => 0) j)))), (w3, .inl (cI, 64, .inl (fun j => nI ((fun _ => 0) j)))), (w4, .inl (cI, 64, .inl (fun j => nI ((fun _ => 0) j)))), (w5, .inl (cI, 64, .inl (fun j => nI ((fun _ => 0) j)))), (w6, .inl (cI, 64, .inl (fun j => nI ((fun _ => 0) j))))] H := hP
  have hD : va_D A [(h, .inr (2, [.ref w1, .ref w2, .ref w3, .ref w4, .ref w5, .null, .null, .int 0, .int 0])), (w1, .inl (cI, 64, .inl (fun j => nI ((fun _ => 0) j)))), (w2, .inl (cI, 64, .inl (fun j => nI ((fun _ => 0) j)))), (w3, .inl (cI, 64, .inl (fun j => nI ((fun _ => 0) j)))), (w4, .inl (cI, 64, .inl (fun j => nI ((fun _ => 0) j)))), (w5, .inl (cI, 64, .inl (fun j => nI ((fun _ => 0) j)))), (w6, .inl (cI, 64, .inl (fun j => nI ((fun _ => 0) j))))] := hD
  refine va_put (D := g) (ci := 2) (v := .ref w6) (ty := .array .int) (C := RX2) (T := TX2) (N := 9) hx hb hts hinX2 tyX2 tyX2_ok nmX2 hown hK hP hD hS 0 rfl rfl 5 (by decide) (hts (.fieldLink RX2 27 "BuddyRoof$Tree" "summary" "[I") (by decide +kernel)) (fun _ h9 => h9) rfl (by decide +kernel) rfl rfl (Nat.le_of_ble_eq_true rfl) dX2_init_49 (fun H locs hP hD hS => ?_)
  have hP : va_P g vwCl [(h, .inr (2, [.ref w1, .ref w2, .ref w3, .ref w4, .ref w5, .ref w6, .null, .int 0, .int 0])), (w1, .inl (cI, 64, .inl (fun j => nI ((fun _ => 0) j)))), (w2, .inl (cI, 64, .inl (fun j => nI ((fun _ => 0) j)))), (w3, .inl (cI, 64, .inl (fun j => nI ((fun _ => 0) j)))), (w4, .inl (cI, 64, .inl (fun j => nI ((fun _ => 0) j)))), (w5, .inl (cI, 64, .inl (fun j => nI ((fun _ => 0) j)))), (w6, .inl (cI, 64, .inl (fun j => nI ((fun _ => 0) j))))] H := hP
  have hD : va_D A [(h, .inr (2, [.ref w1, .ref w2, .ref w3, .ref w4, .ref w5, .ref w6, .null, .int 0, .int 0])), (w1, .inl (cI, 64, .inl (fun j => nI ((fun _ => 0) j)))), (w2, .inl (cI, 64, .inl (fun j => nI ((fun _ => 0) j)))), (w3, .inl (cI, 64, .inl (fun j => nI ((fun _ => 0) j)))), (w4, .inl (cI, 64, .inl (fun j => nI ((fun _ => 0) j)))), (w5, .inl (cI, 64, .inl (fun j => nI ((fun _ => 0) j)))), (w6, .inl (cI, 64, .inl (fun j => nI ((fun _ => 0) j))))] := hD
  refine lv_aload_n hx hb dX2_init_52 rfl (lv_at hl 0 rfl) ?_
  refine lv_bipush (v := nI 64) hx hb dX2_init_53 (by decide) ?_
  refine n_newaI (N := 64) hx hb (hts (.arrayClass .int) (by decide +kernel)) hK 0 rfl hP hD hS hA (by decide) (by decide) (by exact Nat.le_of_ble_eq_true rfl) (by exact Nat.le_of_ble_eq_true rfl) dX2_init_55 (fun w7 H hP hD hS => ?_)
  have hP : va_P g vwCl [(h, .inr (2, [.ref w1, .ref w2, .ref w3, .ref w4, .ref w5, .ref w6, .null, .int 0, .int 0])), (w1, .inl (cI, 64, .inl (fun j => nI ((fun _ => 0) j)))), (w2, .inl (cI, 64, .inl (fun j => nI ((fun _ => 0) j)))), (w3, .inl (cI, 64, .inl (fun j => nI ((fun _ => 0) j)))), (w4, .inl (cI, 64, .inl (fun j => nI ((fun _ => 0) j)))), (w5, .inl (cI, 64, .inl (fun j => nI ((fun _ => 0) j)))), (w6, .inl (cI, 64, .inl (fun j => nI ((fun _ => 0) j)))), (w7, .inl (cI, 64, .inl (fun j => nI ((fun _ => 0) j))))] H := hP
  have hD : va_D A [(h, .inr (2, [.ref w1, .ref w2, .ref w3, .ref w4, .ref w5, .ref w6, .null, .int 0, .int 0])), (w1, .inl (cI, 64, .inl (fun j => nI ((fun _ => 0) j)))), (w2, .inl (cI, 64, .inl (fun j => nI ((fun _ => 0) j)))), (w3, .inl (cI, 64, .inl (fun j => nI ((fun _ => 0) j)))), (w4, .inl (cI, 64, .inl (fun j => nI ((fun _ => 0) j)))), (w5, .inl (cI, 64, .inl (fun j => nI ((fun _ => 0) j)))), (w6, .inl (cI, 64, .inl (fun j => nI ((fun _ => 0) j)))), (w7, .inl (cI, 64, .inl (fun j => nI ((fun _ => 0) j))))] := hD
  refine va_put (D := g) (ci := 2) (v := .ref w7) (ty := .array .int) (C := RX2) (T := TX2) (N := 9) hx hb hts hinX2 tyX2 tyX2_ok nmX2 hown hK hP hD hS 0 rfl rfl 6 (by decide) (hts (.fieldLink RX2 30 "BuddyRoof$Tree" "unsplit" "[I") (by decide +kernel)) (fun _ h9 => h9) rfl (by decide +kernel) rfl rfl (Nat.le_of_ble_eq_true rfl) dX2_init_57 (fun H locs hP hD hS => ?_)
  have hP : va_P g vwCl [(h, .inr (2, [.ref w1, .ref w2, .ref w3, .ref w4, .ref w5, .ref w6, .ref w7, .int 0, .int 0])), (w1, .inl (cI, 64, .inl (fun j => nI ((fun _ => 0) j)))), (w2, .inl (cI, 64, .inl (fun j => nI ((fun _ => 0) j)))), (w3, .inl (cI, 64, .inl (fun j => nI ((fun _ => 0) j)))), (w4, .inl (cI, 64, .inl (fun j => nI ((fun _ => 0) j)))), (w5, .inl (cI, 64, .inl (fun j => nI ((fun _ => 0) j)))), (w6, .inl (cI, 64, .inl (fun j => nI ((fun _ => 0) j)))), (w7, .inl (cI, 64, .inl (fun j => nI ((fun _ => 0) j))))] H := hP
  have hD : va_D A [(h, .inr (2, [.ref w1, .ref w2, .ref w3, .ref w4, .ref w5, .ref w6, .ref w7, .int 0, .int 0])), (w1, .inl (cI, 64, .inl (fun j => nI ((fun _ => 0) j)))), (w2, .inl (cI, 64, .inl (fun j => nI ((fun _ => 0) j)))), (w3, .inl (cI, 64, .inl (fun j => nI ((fun _ => 0) j)))), (w4, .inl (cI, 64, .inl (fun j => nI ((fun _ => 0) j)))), (w5, .inl (cI, 64, .inl (fun j => nI ((fun _ => 0) j)))), (w6, .inl (cI, 64, .inl (fun j => nI ((fun _ => 0) j)))), (w7, .inl (cI, 64, .inl (fun j => nI ((fun _ => 0) j))))] := hD
  refine lv_aload_n hx hb dX2_init_60 rfl (lv_at hl 0 rfl) ?_
  refine lv_iconst (v := nI 0) hx hb dX2_init_61 (by decide) ?_
  refine va_put (D := g) (ci := 2) (v := .int (nI 0)) (ty := .int) (C := RX2) (T := TX2) (N := 9) hx hb hts hinX2 tyX2 tyX2_ok nmX2 hown hK hP hD hS 0 rfl rfl 7 (by decide) (hts (.fieldLink RX2 33 "BuddyRoof$Tree" "made" "I") (by decide +kernel)) (fun _ h9 => h9) rfl (by decide +kernel) rfl rfl (Nat.le_of_ble_eq_true rfl) dX2_init_62 (fun H locs hP hD hS => ?_)
  have hP : va_P g vwCl [(h, .inr (2, [.ref w1, .ref w2, .ref w3, .ref w4, .ref w5, .ref w6, .ref w7, .int (nI 0), .int 0])), (w1, .inl (cI, 64, .inl (fun j => nI ((fun _ => 0) j)))), (w2, .inl (cI, 64, .inl (fun j => nI ((fun _ => 0) j)))), (w3, .inl (cI, 64, .inl (fun j => nI ((fun _ => 0) j)))), (w4, .inl (cI, 64, .inl (fun j => nI ((fun _ => 0) j)))), (w5, .inl (cI, 64, .inl (fun j => nI ((fun _ => 0) j)))), (w6, .inl (cI, 64, .inl (fun j => nI ((fun _ => 0) j)))), (w7, .inl (cI, 64, .inl (fun j => nI ((fun _ => 0) j))))] H := hP
  have hD : va_D A [(h, .inr (2, [.ref w1, .ref w2, .ref w3, .ref w4, .ref w5, .ref w6, .ref w7, .int (nI 0), .int 0])), (w1, .inl (cI, 64, .inl (fun j => nI ((fun _ => 0) j)))), (w2, .inl (cI, 64, .inl (fun j => nI ((fun _ => 0) j)))), (w3, .inl (cI, 64, .inl (fun j => nI ((fun _ => 0) j)))), (w4, .inl (cI, 64, .inl (fun j => nI ((fun _ => 0) j)))), (w5, .inl (cI, 64, .inl (fun j => nI ((fun _ => 0) j)))), (w6, .inl (cI, 64, .inl (fun j => nI ((fun _ => 0) j)))), (w7, .inl (cI, 64, .inl (fun j => nI ((fun _ => 0) j))))] := hD
  refine lv_aload_n hx hb dX2_init_65 rfl (lv_at hl 0 rfl) ?_
  refine lv_iconst (v := nI 0) hx hb dX2_init_66 (by decide) ?_
  refine va_put (D := g) (ci := 2) (v := .int (nI 0)) (ty := .int) (C := RX2) (T := TX2) (N := 9) hx hb hts hinX2 tyX2 tyX2_ok nmX2 hown hK hP hD hS 0 rfl rfl 8 (by decide) (hts (.fieldLink RX2 37 "BuddyRoof$Tree" "spare" "I") (by decide +kernel)) (fun _ h9 => h9) rfl (by decide +kernel) rfl rfl (Nat.le_of_ble_eq_true rfl) dX2_init_67 (fun H locs hP hD hS => ?_)
  have hP : va_P g vwCl [(h, .inr (2, [.ref w1, .ref w2, .ref w3, .ref w4, .ref w5, .ref w6, .ref w7, .int (nI 0), .int (nI 0)])), (w1, .inl (cI, 64, .inl (fun j => nI ((fun _ => 0) j)))), (w2, .inl (cI, 64, .inl (fun j => nI ((fun _ => 0) j)))), (w3, .inl (cI, 64, .inl (fun j => nI ((fun _ => 0) j)))), (w4, .inl (cI, 64, .inl (fun j => nI ((fun _ => 0) j)))), (w5, .inl (cI, 64, .inl (fun j => nI ((fun _ => 0) j)))), (w6, .inl (cI, 64, .inl (fun j => nI ((fun _ => 0) j)))), (w7, .inl (cI, 64, .inl (fun j => nI ((fun _ => 0) j))))] H := hP
  have hD : va_D A [(h, .inr (2, [.ref w1, .ref w2, .ref w3, .ref w4, .ref w5, .ref w6, .ref w7, .int (nI 0), .int (nI 0)])), (w1, .inl (cI, 64, .inl (fun j => nI ((fun _ => 0) j)))), (w2, .inl (cI, 64, .inl (fun j => nI ((fun _ => 0) j)))), (w3, .inl (cI, 64, .inl (fun j => nI ((fun _ => 0) j)))), (w4, .inl (cI, 64, .inl (fun j => nI ((fun _ => 0) j)))), (w5, .inl (cI, 64, .inl (fun j => nI ((fun _ => 0) j)))), (w6, .inl (cI, 64, .inl (fun j => nI ((fun _ => 0) j)))), (w7, .inl (cI, 64, .inl (fun j => nI ((fun _ => 0) j))))] := hD
  refine W.widen (k := 7) (n := 448) (by first | exact Nat.le_refl _ | omega) (by first | exact Nat.le_refl _ | omega) ?_
  exact k_retV (sz := 0) hx hb hr hlocks hAe hS hP hD (fun k => if k = 1 then w1 else if k = 2 then w2 else if k = 3 then w3 else if k = 4 then w4 else if k = 5 then w5 else if k = 6 then w6 else w7) (rfl) (trivial) dX2_init_70
