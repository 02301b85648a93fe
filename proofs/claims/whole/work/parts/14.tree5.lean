set_option maxHeartbeats 4000000 in
set_option maxRecDepth 100000 in
theorem lp_X2_unsplitAt_23 {p : Program} {e : Env} {s : State} {m : MethodId} {args : Array Value} {below : List Frame} {meth : Method} {c : Code} {Q : State → Prop} (l : Launch) (g : va_G) (cI cJ cZ : ClassId) (h q1 q2 q3 q4 q5 q6 q7 n : Nat) (pa ch kd ad rq su un : Nat → Nat) (mk sp : Nat) (v : Int32) (hn : n < 2 ^ 31) (h1 : 1 < n) (hch : ∀ i, ch i + 1 < n) (hun : ∀ i, un i < 2 ^ 31) (rr : Nat × Nat) (C0 : cM p s m args meth c cX2_unsplitAt 5 (some .int) wsX2_unsplitAt RX2) (hk : kK g (kty cI cJ cZ) s) {H : Heap} {locs : List Loc} (hP : va_P g vwCl [(h, .inr (2, [.ref q1, .ref q2, .ref q3, .ref q4, .ref q5, .ref q6, .ref q7, .int (nI mk), .int (nI sp)])), (q1, .inl (cI, n, .inl (fun j => nI (pa j)))), (q2, .inl (cI, n, .inl (fun j => nI (ch j)))), (q3, .inl (cI, n, .inl (fun j => nI (kd j)))), (q4, .inl (cI, n, .inl (fun j => nI (ad j)))), (q5, .inl (cI, n, .inl (fun j => nI (rq j)))), (q6, .inl (cI, n, .inl (fun j => nI (su j)))), (q7, .inl (cI, n, .inl (fun j => nI (un j))))] H) (kk0 : ∀ (x b : Nat), ((x, b) = rr) → ∀ (ls : Array Slot), lv_has ls 5 [(2, .int (nI x))] → W p l e (headSpec wsX2_unsplitAt ({ frames := 0, cells := 0, slots := 0, locals := 0 })).room s m args below meth c H locs 0 0 Q (F0 m 74 ls [])) :
    ∀ (K : Nat) (k x b d : Nat), k < K → (d + k = 24) → (x < n) → (b < 2 ^ 31) → (mDes (fun x => decide (ch x.1 = 0)) (fun x => if x.2 < un (ch x.1) then (ch x.1, x.2) else (ch x.1 + 1, x.2 - un (ch x.1))) k (x, b) = rr) → ∀ (ls : Array Slot), lv_has ls 5 [(0, .ref h), (2, .int (nI x)), (3, .int (nI b)), (4, .int (nI d))] → W p l e (headSpec wsX2_unsplitAt ({ frames := 0, cells := 0, slots := 0, locals := 0 })).room s m args below meth c H locs 0 0 Q (F0 m 23 ls []) := by
  obtain ⟨hx, hb, hr, hml, hown, hts, hlocks⟩ := C0
  have hK := hk.1
  have hinX2 : ∀ w ∈ wsX20, w ∈ wsX2_unsplitAt := by decide +kernel
  intro K
  induction K with
  | zero =>
    intro k x b d h0
    exact absurd h0 (Nat.not_lt_zero _)
  | succ K ih =>
    intro k x b d hmu hf hx1 hb1 hR ls hl
    refine lv_iload hx hb dX2_unsplitAt_23 (lv_at hl 3 rfl) ?_
    refine lv_bipush (v := nI 24) hx hb dX2_unsplitAt_25 (by decide) ?_
    refine n_icmp_ge (tgt := 74) hx hb dX2_unsplitAt_27 (by decide) (by first | assumption | omega) (by first | assumption | omega) (fun c11 => ?_) (fun c11 => ?_)
    · skip
      exact kk0 x b (mDes_x hR (Or.inr (by omega))) ls (lv_sub hl [1] rfl)
    · skip
      refine lv_aload_n hx hb dX2_unsplitAt_30 rfl (lv_at hl 0 rfl) ?_
      refine va_get (D := g) (ci := 2) (v := .ref q2) (C := RX2) (T := TX2) (N := 9) hx hb hts hinX2 hown hK hP 0 rfl rfl 1 (by decide) (hts (.fieldLink RX2 15 "BuddyRoof$Tree" "child" "[I") (by decide +kernel)) (fun _ h9 => h9) rfl dX2_unsplitAt_31 ?_
      refine lv_iload_n hx hb dX2_unsplitAt_34 rfl (lv_at hl 1 rfl) ?_
      refine n_ald (v := nI (ch x)) hx hb hK hP 2 0 rfl rfl (i := x) (by first | assumption | omega) (by first | assumption | omega) rfl dX2_unsplitAt_35 ?_
      have f12 := hch x
      refine n_if_eq (tgt := 74) hx hb dX2_unsplitAt_36 (by decide) (by first | assumption | omega) (fun c13 => ?_) (fun c13 => ?_)
      · skip
        exact kk0 x b (mDes_x hR (Or.inl (dt c13))) ls (lv_sub hl [1] rfl)
      · skip
        refine lv_aload_n hx hb dX2_unsplitAt_39 rfl (lv_at hl 0 rfl) ?_
        refine va_get (D := g) (ci := 2) (v := .ref q2) (C := RX2) (T := TX2) (N := 9) hx hb hts hinX2 hown hK hP 0 rfl rfl 1 (by decide) (hts (.fieldLink RX2 15 "BuddyRoof$Tree" "child" "[I") (by decide +kernel)) (fun _ h9 => h9) rfl dX2_unsplitAt_40 ?_
        refine lv_iload_n hx hb dX2_unsplitAt_43 rfl (lv_at hl 1 rfl) ?_
        refine n_ald (v := nI (ch x)) hx hb hK hP 2 0 rfl rfl (i := x) (by first | assumption | omega) (by first | assumption | omega) rfl dX2_unsplitAt_44 ?_
        have f14 := hch x
        refine lv_istore_n (lv' := [(2, .int (nI (ch x))), (0, .ref h), (3, .int (nI b)), (4, .int (nI d))]) hx hb dX2_unsplitAt_45 rfl hl (by decide) rfl (fun ls hl => ?_)
        refine lv_iload_n hx hb dX2_unsplitAt_46 rfl (lv_at hl 2 rfl) ?_
        refine lv_aload_n hx hb dX2_unsplitAt_47 rfl (lv_at hl 1 rfl) ?_
        refine va_get (D := g) (ci := 2) (v := .ref q7) (C := RX2) (T := TX2) (N := 9) hx hb hts hinX2 hown hK hP 0 rfl rfl 6 (by decide) (hts (.fieldLink RX2 30 "BuddyRoof$Tree" "unsplit" "[I") (by decide +kernel)) (fun _ h9 => h9) rfl dX2_unsplitAt_48 ?_
        refine lv_iload_n hx hb dX2_unsplitAt_51 rfl (lv_at hl 0 rfl) ?_
        refine n_ald (v := nI (un (ch x))) hx hb hK hP 7 0 rfl rfl (i := (ch x)) (by first | assumption | omega) (by first | assumption | omega) rfl dX2_unsplitAt_52 ?_
        have f15 := hun (ch x)
        refine n_icmp_lt (tgt := 68) hx hb dX2_unsplitAt_53 (by decide) (by first | assumption | omega) (by first | assumption | omega) (fun c16 => ?_) (fun c16 => ?_)
        · skip
          refine lv_iinc (v := nI (d + 1)) (lv' := [(4, .int (nI (d + 1))), (2, .int (nI (ch x))), (0, .ref h), (3, .int (nI b))]) hx hb dX2_unsplitAt_68 hl (k := 3) rfl (n_inc _ 1) (by decide) rfl (fun ls hl => ?_)
          refine lv_goto (tgt := 23) hx hb dX2_unsplitAt_71 (by decide) ?_
          exact ih (k - 1) (ch x) b (d + 1) (by omega) (by omega) (by omega) (by omega) (mDes_b hR (df (show ¬ ch x = 0 by omega)) (by omega) (if_pos (show b < un (ch x) by omega))) ls (lv_sub hl [2, 1, 3, 0] rfl)
        · skip
          refine lv_iload_n hx hb dX2_unsplitAt_56 rfl (lv_at hl 2 rfl) ?_
          refine lv_aload_n hx hb dX2_unsplitAt_57 rfl (lv_at hl 1 rfl) ?_
          refine va_get (D := g) (ci := 2) (v := .ref q7) (C := RX2) (T := TX2) (N := 9) hx hb hts hinX2 hown hK hP 0 rfl rfl 6 (by decide) (hts (.fieldLink RX2 30 "BuddyRoof$Tree" "unsplit" "[I") (by decide +kernel)) (fun _ h9 => h9) rfl dX2_unsplitAt_58 ?_
          refine lv_iload_n hx hb dX2_unsplitAt_61 rfl (lv_at hl 0 rfl) ?_
          refine n_ald (v := nI (un (ch x))) hx hb hK hP 7 0 rfl rfl (i := (ch x)) (by first | assumption | omega) (by first | assumption | omega) rfl dX2_unsplitAt_62 ?_
          have f17 := hun (ch x)
          refine n_isub hx hb dX2_unsplitAt_63 (by first | assumption | omega) ?_
          refine lv_istore_n (lv' := [(3, .int (nI (b - (un (ch x))))), (2, .int (nI (ch x))), (0, .ref h), (4, .int (nI d))]) hx hb dX2_unsplitAt_64 rfl hl (by decide) rfl (fun ls hl => ?_)
          refine lv_iinc (v := nI (ch x + 1)) (lv' := [(2, .int (nI (ch x + 1))), (3, .int (nI (b - (un (ch x))))), (0, .ref h), (4, .int (nI d))]) hx hb dX2_unsplitAt_65 hl (k := 1) rfl (n_inc _ 1) (by decide) rfl (fun ls hl => ?_)
          refine lv_iinc (v := nI (d + 1)) (lv' := [(4, .int (nI (d + 1))), (2, .int (nI (ch x + 1))), (3, .int (nI (b - (un (ch x))))), (0, .ref h)]) hx hb dX2_unsplitAt_68 hl (k := 3) rfl (n_inc _ 1) (by decide) rfl (fun ls hl => ?_)
          refine lv_goto (tgt := 23) hx hb dX2_unsplitAt_71 (by decide) ?_
          exact ih (k - 1) (ch x + 1) (b - (un (ch x))) (d + 1) (by omega) (by omega) (by omega) (by omega) (mDes_b hR (df (show ¬ ch x = 0 by omega)) (by omega) (if_neg (show ¬ b < un (ch x) by omega))) ls (lv_sub hl [3, 1, 2, 0] rfl)

set_option maxHeartbeats 4000000 in
set_option maxRecDepth 100000 in
theorem c_X2_unsplitAt (l : Launch) (g : va_G) (cI cJ cZ : ClassId) (h q1 q2 q3 q4 q5 q6 q7 n : Nat) (pa ch kd ad rq su un : Nat → Nat) (mk sp : Nat) (v : Int32) (hn : n < 2 ^ 31) (h1 : 1 < n) (hch : ∀ i, ch i + 1 < n) (hun : ∀ i, un i < 2 ^ 31) : kR l g (kty cI cJ cZ) yX2_unsplitAt wsX2_unsplitAt ({ frames := 0, cells := 0, slots := 0, locals := 0 }) [.ref h, .int v] [(h, .inr (2, [.ref q1, .ref q2, .ref q3, .ref q4, .ref q5, .ref q6, .ref q7, .int (nI mk), .int (nI sp)])), (q1, .inl (cI, n, .inl (fun j => nI (pa j)))), (q2, .inl (cI, n, .inl (fun j => nI (ch j)))), (q3, .inl (cI, n, .inl (fun j => nI (kd j)))), (q4, .inl (cI, n, .inl (fun j => nI (ad j)))), (q5, .inl (cI, n, .inl (fun j => nI (rq j)))), (q6, .inl (cI, n, .inl (fun j => nI (su j)))), (q7, .inl (cI, n, .inl (fun j => nI (un j))))] (if v < 0 ∨ nI (un 1) ≤ v then nI 0 else nI (fUns ch un v.toNatClampNeg).1) := by
  refine Met.ofW (cc := cX2_unsplitAt) (maxL := 5) (ret := (some .int)) (by decide) rfl ?_
  intro p e s m args below meth c s₁ B hml hv
  obtain ⟨rfl, hP, hk⟩ := hv
  have hx := B.exec
  have hb := B.bytes
  have hr := B.returns
  have hts := atoms_spec (ws := wsX2_unsplitAt) B.pre
  have hown : s.vm.findClass RX2 = some m.cls := findClass_of_methodNamed B.named
  have hlocks := B.notSynchronized
  have hK := hk.1
  have hinX2 : ∀ w ∈ wsX20, w ∈ wsX2_unsplitAt := by decide +kernel
  have hl := lv_entry ([.ref h, .int v]) (n := 5) (Nat.le_of_ble_eq_true rfl)
  rw [lg_entry_eq]
  generalize (lg_sl ([.ref h, .int v]) ++ List.replicate (5 - (lg_sl ([.ref h, .int v])).length) Slot.unset).toArray = ls at hl ⊢
  have hl : lv_has ls 5 [(0, .ref h), (1, .int v)] := hl
  refine lv_iload_n hx hb dX2_unsplitAt_0 rfl (lv_at hl 1 rfl) ?_
  refine lv_if_lt (tgt := 14) hx hb dX2_unsplitAt_1 (by decide) (fun c1 => ?_) (fun c1 => ?_)
  · skip
    refine lv_iconst (v := nI 0) hx hb dX2_unsplitAt_14 (by decide) ?_
    exact k_retR (v := nI 0) hx hb hr hlocks (by rw [if_pos (Or.inl c1)]) dX2_unsplitAt_15
  · skip
    obtain ⟨j, hj, rfl⟩ := nI_of c1
    refine lv_iload_n hx hb dX2_unsplitAt_4 rfl (lv_at hl 1 rfl) ?_
    refine lv_aload_n hx hb dX2_unsplitAt_5 rfl (lv_at hl 0 rfl) ?_
    refine va_get (D := g) (ci := 2) (v := .ref q7) (C := RX2) (T := TX2) (N := 9) hx hb hts hinX2 hown hK hP 0 rfl rfl 6 (by decide) (hts (.fieldLink RX2 30 "BuddyRoof$Tree" "unsplit" "[I") (by decide +kernel)) (fun _ h9 => h9) rfl dX2_unsplitAt_6 ?_
    refine lv_iconst (v := nI 1) hx hb dX2_unsplitAt_9 (by decide) ?_
    refine n_ald (v := nI (un 1)) hx hb hK hP 7 0 rfl rfl (i := 1) (by first | assumption | omega) (by first | assumption | omega) rfl dX2_unsplitAt_10 ?_
    have f2 := hun 1
    refine n_icmp_lt (tgt := 16) hx hb dX2_unsplitAt_11 (by decide) (by first | assumption | omega) (by first | assumption | omega) (fun c3 => ?_) (fun c3 => ?_)
    · skip
      refine lv_iconst (v := nI 1) hx hb dX2_unsplitAt_16 (by decide) ?_
      refine lv_istore_n (lv' := [(2, .int (nI 1)), (0, .ref h), (1, .int (nI j))]) hx hb dX2_unsplitAt_17 rfl hl (by decide) rfl (fun ls hl => ?_)
      refine lv_iload_n hx hb dX2_unsplitAt_18 rfl (lv_at hl 2 rfl) ?_
      refine lv_istore_n (lv' := [(3, .int (nI j)), (2, .int (nI 1)), (0, .ref h), (1, .int (nI j))]) hx hb dX2_unsplitAt_19 rfl hl (by decide) rfl (fun ls hl => ?_)
      refine lv_iconst (v := nI 0) hx hb dX2_unsplitAt_20 (by decide) ?_
      refine lv_istore (lv' := [(4, .int (nI 0)), (3, .int (nI j)), (2, .int (nI 1)), (0, .ref h), (1, .int (nI j))]) hx hb dX2_unsplitAt_21 hl (by decide) rfl (fun ls hl => ?_)
      refine lp_X2_unsplitAt_23 l g cI cJ cZ h q1 q2 q3 q4 q5 q6 q7 n pa ch kd ad rq su un mk sp (nI j) hn h1 hch hun (fUns ch un j) ⟨hx, hb, hr, hml, hown, hts, hlocks⟩ hk hP (fun x b hd ls hl => ?_) _ 24 1 j 0 (Nat.lt_succ_self _) rfl h1 hj rfl ls (lv_sub hl [3, 2, 1, 0] rfl)
      · skip
        refine lv_iload_n hx hb dX2_unsplitAt_74 rfl (lv_at hl 0 rfl) ?_
        exact k_retR (v := nI x) hx hb hr hlocks (by rw [nI_clamp hj, ← hd, if_neg (fun q => q.elim (nI_pos hj) (fun z => by have := (nI_leI (hun 1) hj).mp z; omega))]) dX2_unsplitAt_75
    · skip
      refine lv_iconst (v := nI 0) hx hb dX2_unsplitAt_14 (by decide) ?_
      exact k_retR (v := nI 0) hx hb hr hlocks (by rw [if_pos (Or.inr ((nI_leI (hun 1) hj).mpr (by omega)))]) dX2_unsplitAt_15
theorem xor1_e {x : Nat} (h : x % 2 = 0) : x ^^^ 1 = x + 1 := by
  have h1 : (x ^^^ 1) / 2 = x / 2 := by rw [Nat.xor_div_two]; simp
  have h2 : (x ^^^ 1) % 2 = 1 := by
    have := Nat.xor_mod_two_pow (a := x) (b := 1) (n := 1)
    rw [Nat.pow_one, h] at this
    exact this
  omega
theorem xor1_o {x : Nat} (h : x % 2 = 1) : x ^^^ 1 = x - 1 := by
  have h1 : (x ^^^ 1) / 2 = x / 2 := by rw [Nat.xor_div_two]; simp
  have h2 : (x ^^^ 1) % 2 = 0 := by
    have := Nat.xor_mod_two_pow (a := x) (b := 1) (n := 1)
    rw [Nat.pow_one, h] at this
    exact this
  omega
theorem xor1_le {c sd n : Nat} (h : c % 2 = 0) (hs : sd ≤ 1) (hc : c + 1 < n) : (c + sd) ^^^ 1 < n := by
  rcases (show sd = 0 ∨ sd = 1 by omega) with rfl | rfl
  · rw [Nat.add_zero, xor1_e h]; exact hc
  · rw [xor1_o (by omega)]; omega
set_option maxHeartbeats 4000000 in
set_option maxRecDepth 100000 in
theorem lp_X2_outermost_18 {p : Program} {e : Env} {s : State} {m : MethodId} {args : Array Value} {below : List Frame} {meth : Method} {c : Code} {Q : State → Prop} (l : Launch) (g : va_G) (cI cJ cZ : ClassId) (h q1 q2 q3 q4 q5 q6 q7 n : Nat) (pa ch kd ad rq su un : Nat → Nat) (mk sp : Nat) (cls sd : Nat) (hn : n < 2 ^ 31) (h1 : 1 < n) (hch : ∀ i, ch i + 1 < n) (hev : ∀ i, ch i % 2 = 0) (hsu : ∀ i, su i < 2 ^ 31) (hsd : sd ≤ 1) (rr : Nat) (C0 : cM p s m args meth c cX2_outermost 6 (some .int) wsX2_outermost RX2) (hk : kK g (kty cI cJ cZ) s) {H : Heap} {locs : List Loc} (hP : va_P g vwCl [(h, .inr (2, [.ref q1, .ref q2, .ref q3, .ref q4, .ref q5, .ref q6, .ref q7, .int (nI mk), .int (nI sp)])), (q1, .inl (cI, n, .inl (fun j => nI (pa j)))), (q2, .inl (cI, n, .inl (fun j => nI (ch j)))), (q3, .inl (cI, n, .inl (fun j => nI (kd j)))), (q4, .inl (cI, n, .inl (fun j => nI (ad j)))), (q5, .inl (cI, n, .inl (fun j => nI (rq j)))), (q6, .inl (cI, n, .inl (fun j => nI (su j)))), (q7, .inl (cI, n, .inl (fun j => nI (un j))))] H) (kk0 : ∀ (x : Nat), (x = rr) → ∀ (ls : Array Slot), lv_has ls 6 [(3, .int (nI x))] → W p l e (headSpec wsX2_outermost ({ frames := 0, cells := 0, slots := 0, locals := 0 })).room s m args below meth c H locs 0 0 Q (F0 m 72 ls [])) :
    ∀ (K : Nat) (k x d : Nat), k < K → (d + k = 24) → (x < n) → (mDes (fun x => decide (ch x = 0)) (fun x => if su (ch x + sd) &&& cls = 0 then (ch x + sd) ^^^ 1 else ch x + sd) k x = rr) → ∀ (ls : Array Slot), lv_has ls 6 [(0, .ref h), (1, .int (nI cls)), (2, .int (nI sd)), (3, .int (nI x)), (4, .int (nI d))] → W p l e (headSpec wsX2_outermost ({ frames := 0, cells := 0, slots := 0, locals := 0 })).room s m args below meth c H locs 0 0 Q (F0 m 18 ls []) := by
  obtain ⟨hx, hb, hr, hml, hown, hts, hlocks⟩ := C0
  have hK := hk.1
  have hinX2 : ∀ w ∈ wsX20, w ∈ wsX2_outermost := by decide +kernel
  intro K
  induction K with
  | zero =>
    intro k x d h0
    exact absurd h0 (Nat.not_lt_zero _)
  | succ K ih =>
    intro k x d hmu hf hx1 hR ls hl
    refine lv_iload hx hb dX2_outermost_18 (lv_at hl 4 rfl) ?_
    refine lv_bipush (v := nI 24) hx hb dX2_outermost_20 (by decide) ?_
    refine n_icmp_ge (tgt := 72) hx hb dX2_outermost_22 (by decide) (by first | assumption | omega) (by first | assumption | omega) (fun c7 => ?_) (fun c7 => ?_)
    · skip
      exact kk0 x (mDes_x hR (Or.inr (by omega))) ls (lv_sub hl [3] rfl)
    · skip
      refine lv_aload_n hx hb dX2_outermost_25 rfl (lv_at hl 0 rfl) ?_
      refine va_get (D := g) (ci := 2) (v := .ref q2) (C := RX2) (T := TX2) (N := 9) hx hb hts hinX2 hown hK hP 0 rfl rfl 1 (by decide) (hts (.fieldLink RX2 15 "BuddyRoof$Tree" "child" "[I") (by decide +kernel)) (fun _ h9 => h9) rfl dX2_outermost_26 ?_
      refine lv_iload_n hx hb dX2_outermost_29 rfl (lv_at hl 3 rfl) ?_
      refine n_ald (v := nI (ch x)) hx hb hK hP 2 0 rfl rfl (i := x) (by first | assumption | omega) (by first | assumption | omega) rfl dX2_outermost_30 ?_
      have f8 := hch x
      refine n_if_eq (tgt := 72) hx hb dX2_outermost_31 (by decide) (by first | assumption | omega) (fun c9 => ?_) (fun c9 => ?_)
      · skip
        exact kk0 x (mDes_x hR (Or.inl (dt c9))) ls (lv_sub hl [3] rfl)
      · skip
        refine lv_aload_n hx hb dX2_outermost_34 rfl (lv_at hl 0 rfl) ?_
        refine va_get (D := g) (ci := 2) (v := .ref q2) (C := RX2) (T := TX2) (N := 9) hx hb hts hinX2 hown hK hP 0 rfl rfl 1 (by decide) (hts (.fieldLink RX2 15 "BuddyRoof$Tree" "child" "[I") (by decide +kernel)) (fun _ h9 => h9) rfl dX2_outermost_35 ?_
        refine lv_iload_n hx hb dX2_outermost_38 rfl (lv_at hl 3 rfl) ?_
        refine n_ald (v := nI (ch x)) hx hb hK hP 2 0 rfl rfl (i := x) (by first | assumption | omega) (by first | assumption | omega) rfl dX2_outermost_39 ?_
        have f10 := hch x
        refine lv_iload_n hx hb dX2_outermost_40 rfl (lv_at hl 2 rfl) ?_
        refine n_iadd hx hb dX2_outermost_41 ?_
        refine lv_istore (lv' := [(5, .int (nI ((ch x) + sd))), (0, .ref h), (1, .int (nI cls)), (2, .int (nI sd)), (3, .int (nI x)), (4, .int (nI d))]) hx hb dX2_outermost_42 hl (by decide) rfl (fun ls hl => ?_)
        refine lv_aload_n hx hb dX2_outermost_44 rfl (lv_at hl 1 rfl) ?_
        refine va_get (D := g) (ci := 2) (v := .ref q6) (C := RX2) (T := TX2) (N := 9) hx hb hts hinX2 hown hK hP 0 rfl rfl 5 (by decide) (hts (.fieldLink RX2 27 "BuddyRoof$Tree" "summary" "[I") (by decide +kernel)) (fun _ h9 => h9) rfl dX2_outermost_45 ?_
        refine lv_iload hx hb dX2_outermost_48 (lv_at hl 0 rfl) ?_
        refine n_ald (v := nI (su ((ch x) + sd))) hx hb hK hP 6 0 rfl rfl (i := ((ch x) + sd)) (by first | assumption | omega) (by first | assumption | omega) rfl dX2_outermost_50 ?_
        refine lv_iload_n hx hb dX2_outermost_51 rfl (lv_at hl 2 rfl) ?_
        refine n_iand hx hb dX2_outermost_52 ?_
        refine n_if_eq (tgt := 61) hx hb dX2_outermost_53 (by decide) (by exact Nat.lt_of_le_of_lt Nat.and_le_left (hsu _)) (fun c11 => ?_) (fun c11 => ?_)
        · skip
          refine lv_iload hx hb dX2_outermost_61 (lv_at hl 0 rfl) ?_
          refine lv_iconst (v := nI 1) hx hb dX2_outermost_63 (by decide) ?_
          refine n_ixor hx hb dX2_outermost_64 ?_
          refine lv_istore_n (lv' := [(3, .int (nI (((ch x) + sd) ^^^ 1))), (5, .int (nI ((ch x) + sd))), (0, .ref h), (1, .int (nI cls)), (2, .int (nI sd)), (4, .int (nI d))]) hx hb dX2_outermost_65 rfl hl (by decide) rfl (fun ls hl => ?_)
          refine lv_iinc (v := nI (d + 1)) (lv' := [(4, .int (nI (d + 1))), (3, .int (nI (((ch x) + sd) ^^^ 1))), (5, .int (nI ((ch x) + sd))), (0, .ref h), (1, .int (nI cls)), (2, .int (nI sd))]) hx hb dX2_outermost_66 hl (k := 5) rfl (n_inc _ 1) (by decide) rfl (fun ls hl => ?_)
          refine lv_goto (tgt := 18) hx hb dX2_outermost_69 (by decide) ?_
          exact ih (k - 1) (((ch x) + sd) ^^^ 1) (d + 1) (by omega) (by omega) (xor1_le (hev x) hsd (hch x)) (mDes_b hR (df (by omega)) (by omega) (if_pos (by omega))) ls (lv_sub hl [3, 4, 5, 1, 0] rfl)
        · skip
          refine lv_iload hx hb dX2_outermost_56 (lv_at hl 0 rfl) ?_
          refine lv_goto (tgt := 65) hx hb dX2_outermost_58 (by decide) ?_
          refine lv_istore_n (lv' := [(3, .int (nI ((ch x) + sd))), (5, .int (nI ((ch x) + sd))), (0, .ref h), (1, .int (nI cls)), (2, .int (nI sd)), (4, .int (nI d))]) hx hb dX2_outermost_65 rfl hl (by decide) rfl (fun ls hl => ?_)
          refine lv_iinc (v := nI (d + 1)) (lv' := [(4, .int (nI (d + 1))), (3, .int (nI ((ch x) + sd))), (5, .int (nI ((ch x) + sd))), (0, .ref h), (1, .int (nI cls)), (2, .int (nI sd))]) hx hb dX2_outermost_66 hl (k := 5) rfl (n_inc _ 1) (by decide) rfl (fun ls hl => ?_)
          refine lv_goto (tgt := 18) hx hb dX2_outermost_69 (by decide) ?_
          exact ih (k - 1) ((ch x) + sd) (d + 1) (by omega) (by omega) (by omega) (mDes_b hR (df (by omega)) (by omega) (if_neg (by omega))) ls (lv_sub hl [3, 4, 5, 1, 0] rfl)

set_option maxHeartbeats 4000000 in
set_option maxRecDepth 100000 in
theorem c_X2_outermost (l : Launch) (g : va_G) (cI cJ cZ : ClassId) (h q1 q2 q3 q4 q5 q6 q7 n : Nat) (pa ch kd ad rq su un : Nat → Nat) (mk sp : Nat) (cls sd : Nat) (hn : n < 2 ^ 31) (h1 : 1 < n) (hch : ∀ i, ch i + 1 < n) (hev : ∀ i, ch i % 2 = 0) (hsu : ∀ i, su i < 2 ^ 31) (hsd : sd ≤ 1) : kR l g (kty cI cJ cZ) yX2_outermost wsX2_outermost ({ frames := 0, cells := 0, slots := 0, locals := 0 }) [.ref h, .int (nI cls), .int (nI sd)] [(h, .inr (2, [.ref q1, .ref q2, .ref q3, .ref q4, .ref q5, .ref q6, .ref q7, .int (nI mk), .int (nI sp)])), (q1, .inl (cI, n, .inl (fun j => nI (pa j)))), (q2, .inl (cI, n, .inl (fun j => nI (ch j)))), (q3, .inl (cI, n, .inl (fun j => nI (kd j)))), (q4, .inl (cI, n, .inl (fun j => nI (ad j)))), (q5, .inl (cI, n, .inl (fun j => nI (rq j)))), (q6, .inl (cI, n, .inl (fun j => nI (su j)))), (q7, .inl (cI, n, .inl (fun j => nI (un j))))] (if su 1 &&& cls = 0 then nI 0 else nI (fOut ch su cls sd)) := by
  refine Met.ofW (cc := cX2_outermost) (maxL := 6) (ret := (some .int)) (by decide) rfl ?_
  intro p e s m args below meth c s₁ B hml hv
  obtain ⟨rfl, hP, hk⟩ := hv
  have hx := B.exec
  have hb := B.bytes
  have hr := B.returns
  have hts := atoms_spec (ws := wsX2_outermost) B.pre
  have hown : s.vm.findClass RX2 = some m.cls := findClass_of_methodNamed B.named
  have hlocks := B.notSynchronized
  have hK := hk.1
  have hinX2 : ∀ w ∈ wsX20, w ∈ wsX2_outermost := by decide +kernel
  have hl := lv_entry ([.ref h, .int (nI cls), .int (nI sd)]) (n := 6) (Nat.le_of_ble_eq_true rfl)
  rw [lg_entry_eq]
  generalize (lg_sl ([.ref h, .int (nI cls), .int (nI sd)]) ++ List.replicate (6 - (lg_sl ([.ref h, .int (nI cls), .int (nI sd)])).length) Slot.unset).toArray = ls at hl ⊢
  have hl : lv_has ls 6 [(0, .ref h), (1, .int (nI cls)), (2, .int (nI sd))] := hl
  refine lv_aload_n hx hb dX2_outermost_0 rfl (lv_at hl 0 rfl) ?_
  refine va_get (D := g) (ci := 2) (v := .ref q6) (C := RX2) (T := TX2) (N := 9) hx hb hts hinX2 hown hK hP 0 rfl rfl 5 (by decide) (hts (.fieldLink RX2 27 "BuddyRoof$Tree" "summary" "[I") (by decide +kernel)) (fun _ h9 => h9) rfl dX2_outermost_1 ?_
  refine lv_iconst (v := nI 1) hx hb dX2_outermost_4 (by decide) ?_
  refine n_ald (v := nI (su 1)) hx hb hK hP 6 0 rfl rfl (i := 1) (by first | assumption | omega) (by first | assumption | omega) rfl dX2_outermost_5 ?_
  refine lv_iload_n hx hb dX2_outermost_6 rfl (lv_at hl 1 rfl) ?_
  refine n_iand hx hb dX2_outermost_7 ?_
  refine n_if_ne (tgt := 13) hx hb dX2_outermost_8 (by decide) (by exact Nat.lt_of_le_of_lt Nat.and_le_left (hsu _)) (fun c1 => ?_) (fun c1 => ?_)
  · skip
    refine lv_iconst (v := nI 1) hx hb dX2_outermost_13 (by decide) ?_
    refine lv_istore_n (lv' := [(3, .int (nI 1)), (0, .ref h), (1, .int (nI cls)), (2, .int (nI sd))]) hx hb dX2_outermost_14 rfl hl (by decide) rfl (fun ls hl => ?_)
    refine lv_iconst (v := nI 0) hx hb dX2_outermost_15 (by decide) ?_
    refine lv_istore (lv' := [(4, .int (nI 0)), (3, .int (nI 1)), (0, .ref h), (1, .int (nI cls)), (2, .int (nI sd))]) hx hb dX2_outermost_16 hl (by decide) rfl (fun ls hl => ?_)
    refine lp_X2_outermost_18 l g cI cJ cZ h q1 q2 q3 q4 q5 q6 q7 n pa ch kd ad rq su un mk sp cls sd hn h1 hch hev hsu hsd (fOut ch su cls sd) ⟨hx, hb, hr, hml, hown, hts, hlocks⟩ hk hP (fun x hd ls hl => ?_) _ 24 1 0 (Nat.lt_succ_self _) rfl h1 rfl ls (lv_sub hl [2, 3, 4, 1, 0] rfl)
    · skip
      refine lv_iload_n hx hb dX2_outermost_72 rfl (lv_at hl 0 rfl) ?_
      exact k_retR (v := nI x) hx hb hr hlocks (by rw [if_neg (by omega), hd]) dX2_outermost_73
  · skip
    refine lv_iconst (v := nI 0) hx hb dX2_outermost_11 (by decide) ?_
    exact k_retR (v := nI 0) hx hb hr hlocks ((if_pos (by omega)).symm) dX2_outermost_12
set_option maxHeartbeats 4000000 in
set_option maxRecDepth 100000 in
theorem c_X2_hasFreePair (l : Launch) (g : va_G) (cI cJ cZ : ClassId) (h q1 q2 q3 q4 q5 q6 q7 n : Nat) (pa ch kd ad rq su un : Nat → Nat) (mk sp : Nat) (i : Nat) (hn : n < 2 ^ 31) (hi : i < n) (hch : ∀ i, ch i + 1 < n) (hrq : ∀ i, rq i < 2 ^ 31) : kR l g (kty cI cJ cZ) yX2_hasFreePair wsX2_hasFreePair ({ frames := 1, cells := 0, slots := 0, locals := 21 }) [.ref h, .int (nI i)] [(h, .inr (2, [.ref q1, .ref q2, .ref q3, .ref q4, .ref q5, .ref q6, .ref q7, .int (nI mk), .int (nI sp)])), (q1, .inl (cI, n, .inl (fun j => nI (pa j)))), (q2, .inl (cI, n, .inl (fun j => nI (ch j)))), (q3, .inl (cI, n, .inl (fun j => nI (kd j)))), (q4, .inl (cI, n, .inl (fun j => nI (ad j)))), (q5, .inl (cI, n, .inl (fun j => nI (rq j)))), (q6, .inl (cI, n, .inl (fun j => nI (su j)))), (q7, .inl (cI, n, .inl (fun j => nI (un j))))] (bI (isFP ch rq i = true)) := by
  refine Met.ofW (cc := cX2_hasFreePair) (maxL := 2) (ret := (some .boolean)) (by decide) rfl ?_
  intro p e s m args below meth c s₁ B hml hv
  obtain ⟨rfl, hP, hk⟩ := hv
  have hx := B.exec
  have hb := B.bytes
  have hr := B.returns
  have hts := atoms_spec (ws := wsX2_hasFreePair) B.pre
  have hown : s.vm.findClass RX2 = some m.cls := findClass_of_methodNamed B.named
  have hlocks := B.notSynchronized
  have hK := hk.1
  have hinX2 : ∀ w ∈ wsX20, w ∈ wsX2_hasFreePair := by decide +kernel
  have hl := lv_entry ([.ref h, .int (nI i)]) (n := 2) (Nat.le_of_ble_eq_true rfl)
  rw [lg_entry_eq]
  generalize (lg_sl ([.ref h, .int (nI i)]) ++ List.replicate (2 - (lg_sl ([.ref h, .int (nI i)])).length) Slot.unset).toArray = ls at hl ⊢
  have hl : lv_has ls 2 [(0, .ref h), (1, .int (nI i))] := hl
  refine lv_aload_n hx hb dX2_hasFreePair_0 rfl (lv_at hl 0 rfl) ?_
  refine lv_aload_n hx hb dX2_hasFreePair_1 rfl (lv_at hl 0 rfl) ?_
  refine va_get (D := g) (ci := 2) (v := .ref q2) (C := RX2) (T := TX2) (N := 9) hx hb hts hinX2 hown hK hP 0 rfl rfl 1 (by decide) (hts (.fieldLink RX2 15 "BuddyRoof$Tree" "child" "[I") (by decide +kernel)) (fun _ h9 => h9) rfl dX2_hasFreePair_2 ?_
  refine lv_iload_n hx hb dX2_hasFreePair_5 rfl (lv_at hl 1 rfl) ?_
  refine n_ald (v := nI (ch i)) hx hb hK hP 2 0 rfl rfl (i := i) (by first | assumption | omega) (by first | assumption | omega) rfl dX2_hasFreePair_6 ?_
  have f1 := hch i
  refine k_goR (W.runV (As := [.int (nI (ch i))]) (rest := []) ⟨hx, hb, hml, hown, hts⟩ (c_X2_isFree l g cI cJ cZ h q1 q2 q3 q4 q5 q6 q7 n pa ch kd ad rq su un mk sp (ch i) hn (by omega) (fun i => Nat.lt_trans (Nat.lt_of_succ_lt (hch i)) hn) hrq) (cwV 1 hts gX2_hasFreePair_X2_isFree rfl rfl rfl (by decide +kernel) ⟨Nat.le_of_ble_eq_true rfl, Nat.le_of_ble_eq_true rfl⟩) (k_preRV hk hP [0, 1, 2, 3, 4, 5, 6, 7] rfl (ci := 2) (q0 := 0) rfl rfl) rfl rfl hl.1 rfl (lv_room (Nat.le_of_ble_eq_true rfl)) dX2_hasFreePair_7 ⟨by first | exact Nat.zero_le _ | omega, by first | exact Nat.zero_le _ | omega⟩) ?_
  refine k_ifeq (tgt := 32) hx hb dX2_hasFreePair_10 (by decide) (fun c2 => ?_) (fun c2 => ?_)
  · skip
    refine lv_iconst (v := nI 0) hx hb dX2_hasFreePair_32 (by decide) ?_
    exact k_retRZ (v := nI 0) hx hb hr hlocks (by decide) (by rw [bI_f]; unfold isFP isFr; rw [Bool.and_eq_true, decide_eq_true_eq, decide_eq_true_eq]; exact fun q => c2 q.1) dX2_hasFreePair_33
  · skip
    refine lv_aload_n hx hb dX2_hasFreePair_13 rfl (lv_at hl 0 rfl) ?_
    refine lv_aload_n hx hb dX2_hasFreePair_14 rfl (lv_at hl 0 rfl) ?_
    refine va_get (D := g) (ci := 2) (v := .ref q2) (C := RX2) (T := TX2) (N := 9) hx hb hts hinX2 hown hK hP 0 rfl rfl 1 (by decide) (hts (.fieldLink RX2 15 "BuddyRoof$Tree" "child" "[I") (by decide +kernel)) (fun _ h9 => h9) rfl dX2_hasFreePair_15 ?_
    refine lv_iload_n hx hb dX2_hasFreePair_18 rfl (lv_at hl 1 rfl) ?_
    refine n_ald (v := nI (ch i)) hx hb hK hP 2 0 rfl rfl (i := i) (by first | assumption | omega) (by first | assumption | omega) rfl dX2_hasFreePair_19 ?_
    have f3 := hch i
    refine lv_iconst (v := nI 1) hx hb dX2_hasFreePair_20 (by decide) ?_
    refine n_iadd hx hb dX2_hasFreePair_21 ?_
    refine k_goR (W.runV (As := [.int (nI ((ch i) + 1))]) (rest := []) ⟨hx, hb, hml, hown, hts⟩ (c_X2_isFree l g cI cJ cZ h q1 q2 q3 q4 q5 q6 q7 n pa ch kd ad rq su un mk sp (ch i + 1) hn (by omega) (fun i => Nat.lt_trans (Nat.lt_of_succ_lt (hch i)) hn) hrq) (cwV 1 hts gX2_hasFreePair_X2_isFree rfl rfl rfl (by decide +kernel) ⟨Nat.le_of_ble_eq_true rfl, Nat.le_of_ble_eq_true rfl⟩) (k_preRV hk hP [0, 1, 2, 3, 4, 5, 6, 7] rfl (ci := 2) (q0 := 0) rfl rfl) rfl rfl hl.1 rfl (lv_room (Nat.le_of_ble_eq_true rfl)) dX2_hasFreePair_22 ⟨by first | exact Nat.zero_le _ | omega, by first | exact Nat.zero_le _ | omega⟩) ?_
    refine k_ifeq (tgt := 32) hx hb dX2_hasFreePair_25 (by decide) (fun c4 => ?_) (fun c4 => ?_)
    · skip
      refine lv_iconst (v := nI 0) hx hb dX2_hasFreePair_32 (by decide) ?_
      exact k_retRZ (v := nI 0) hx hb hr hlocks (by decide) (by rw [bI_f]; unfold isFP isFr; rw [Bool.and_eq_true, decide_eq_true_eq, decide_eq_true_eq]; exact fun q => c4 q.2) dX2_hasFreePair_33
    · skip
      refine lv_iconst (v := nI 1) hx hb dX2_hasFreePair_28 (by decide) ?_
      refine lv_goto (tgt := 33) hx hb dX2_hasFreePair_29 (by decide) ?_
      exact k_retRZ (v := nI 1) hx hb hr hlocks (by decide) (by rw [bI_t]; unfold isFP isFr; rw [Bool.and_eq_true, decide_eq_true_eq, decide_eq_true_eq]; exact ⟨c2, c4⟩) dX2_hasFreePair_33
set_option maxHeartbeats 4000000 in
set_option maxRecDepth 100000 in
theorem lp_X2_joinable_17 {p : Program} {e : Env} {s : State} {m : MethodId} {args : Array Value} {below : List Frame} {meth : Method} {c : Code} {Q : State → Prop} (l : Launch) (g : va_G) (cI cJ cZ : ClassId) (h q1 q2 q3 q4 q5 q6 q7 n : Nat) (pa ch kd ad rq su un : Nat → Nat) (mk sp : Nat) (hn : n < 2 ^ 31) (h1 : 1 < n) (hch : ∀ i, ch i + 1 < n) (hrq : ∀ i, rq i < 2 ^ 31) (rr : Nat) (C0 : cM p s m args meth c cX2_joinable 4 (some .int) wsX2_joinable RX2) (hk : kK g (kty cI cJ cZ) s) {H : Heap} {locs : List Loc} (hP : va_P g vwCl [(h, .inr (2, [.ref q1, .ref q2, .ref q3, .ref q4, .ref q5, .ref q6, .ref q7, .int (nI mk), .int (nI sp)])), (q1, .inl (cI, n, .inl (fun j => nI (pa j)))), (q2, .inl (cI, n, .inl (fun j => nI (ch j)))), (q3, .inl (cI, n, .inl (fun j => nI (kd j)))), (q4, .inl (cI, n, .inl (fun j => nI (ad j)))), (q5, .inl (cI, n, .inl (fun j => nI (rq j)))), (q6, .inl (cI, n, .inl (fun j => nI (su j)))), (q7, .inl (cI, n, .inl (fun j => nI (un j))))] H) (kk0 : ∀ (x : Nat), (x = rr) → ∀ (ls : Array Slot), lv_has ls 4 [(1, .int (nI x))] → W p l e (headSpec wsX2_joinable ({ frames := 2, cells := 0, slots := 0, locals := 42 })).room s m args below meth c H locs 0 0 Q (F0 m 63 ls [])) :
    ∀ (K : Nat) (k x d : Nat), k < K → (d + k = 24) → (x < n) → (mDes (isFP ch rq) (fun x => if su (ch x) &&& 1 = 0 then ch x + 1 else ch x) k x = rr) → ∀ (ls : Array Slot), lv_has ls 4 [(0, .ref h), (1, .int (nI x)), (2, .int (nI d))] → W p l e (headSpec wsX2_joinable ({ frames := 2, cells := 0, slots := 0, locals := 42 })).room s m args below meth c H locs 0 0 Q (F0 m 17 ls []) := by
  obtain ⟨hx, hb, hr, hml, hown, hts, hlocks⟩ := C0
  have hK := hk.1
  have hinX2 : ∀ w ∈ wsX20, w ∈ wsX2_joinable := by decide +kernel
  intro K
  induction K with
  | zero =>
    intro k x d h0
    exact absurd h0 (Nat.not_lt_zero _)
  | succ K ih =>
    intro k x d hmu hf hx1 hR ls hl
    refine lv_iload_n hx hb dX2_joinable_17 rfl (lv_at hl 2 rfl) ?_
    refine lv_bipush (v := nI 24) hx hb dX2_joinable_18 (by decide) ?_
    refine n_icmp_ge (tgt := 63) hx hb dX2_joinable_20 (by decide) (by first | assumption | omega) (by first | assumption | omega) (fun c6 => ?_) (fun c6 => ?_)
    · skip
      exact kk0 x (mDes_x hR (Or.inr (by omega))) ls (lv_sub hl [1] rfl)
    · skip
      refine lv_aload_n hx hb dX2_joinable_23 rfl (lv_at hl 0 rfl) ?_
      refine lv_iload_n hx hb dX2_joinable_24 rfl (lv_at hl 1 rfl) ?_
      refine k_goR (W.runV (As := [.int (nI x)]) (rest := []) ⟨hx, hb, hml, hown, hts⟩ (c_X2_hasFreePair l g cI cJ cZ h q1 q2 q3 q4 q5 q6 q7 n pa ch kd ad rq su un mk sp x hn hx1 hch hrq) (cwV 1 hts gX2_joinable_X2_hasFreePair rfl rfl rfl (by decide +kernel) ⟨Nat.le_of_ble_eq_true rfl, Nat.le_of_ble_eq_true rfl⟩) (k_preRV hk hP [0, 1, 2, 3, 4, 5, 6, 7] rfl (ci := 2) (q0 := 0) rfl rfl) rfl rfl hl.1 rfl (lv_room (Nat.le_of_ble_eq_true rfl)) dX2_joinable_25 ⟨by first | exact Nat.zero_le _ | omega, by first | exact Nat.zero_le _ | omega⟩) ?_
      refine k_ifne (tgt := 63) hx hb dX2_joinable_28 (by decide) (fun c7 => ?_) (fun c7 => ?_)
      · skip
        exact kk0 x (mDes_x hR (Or.inl c7)) ls (lv_sub hl [1] rfl)
      · skip
        refine lv_aload_n hx hb dX2_joinable_31 rfl (lv_at hl 0 rfl) ?_
        refine va_get (D := g) (ci := 2) (v := .ref q2) (C := RX2) (T := TX2) (N := 9) hx hb hts hinX2 hown hK hP 0 rfl rfl 1 (by decide) (hts (.fieldLink RX2 15 "BuddyRoof$Tree" "child" "[I") (by decide +kernel)) (fun _ h9 => h9) rfl dX2_joinable_32 ?_
        refine lv_iload_n hx hb dX2_joinable_35 rfl (lv_at hl 1 rfl) ?_
        refine n_ald (v := nI (ch x)) hx hb hK hP 2 0 rfl rfl (i := x) (by first | assumption | omega) (by first | assumption | omega) rfl dX2_joinable_36 ?_
        have f8 := hch x
        refine lv_istore_n (lv' := [(3, .int (nI (ch x))), (0, .ref h), (1, .int (nI x)), (2, .int (nI d))]) hx hb dX2_joinable_37 rfl hl (by decide) rfl (fun ls hl => ?_)
        refine lv_aload_n hx hb dX2_joinable_38 rfl (lv_at hl 1 rfl) ?_
        refine va_get (D := g) (ci := 2) (v := .ref q6) (C := RX2) (T := TX2) (N := 9) hx hb hts hinX2 hown hK hP 0 rfl rfl 5 (by decide) (hts (.fieldLink RX2 27 "BuddyRoof$Tree" "summary" "[I") (by decide +kernel)) (fun _ h9 => h9) rfl dX2_joinable_39 ?_
        refine lv_iload_n hx hb dX2_joinable_42 rfl (lv_at hl 0 rfl) ?_
        refine n_ald (v := nI (su (ch x))) hx hb hK hP 6 0 rfl rfl (i := (ch x)) (by first | assumption | omega) (by first | assumption | omega) rfl dX2_joinable_43 ?_
        refine lv_iconst (v := nI 1) hx hb dX2_joinable_44 (by decide) ?_
        refine n_iand hx hb dX2_joinable_45 ?_
        refine n_if_eq (tgt := 53) hx hb dX2_joinable_46 (by decide) (by exact Nat.lt_of_le_of_lt Nat.and_le_right (by decide)) (fun c9 => ?_) (fun c9 => ?_)
        · skip
          refine lv_iload_n hx hb dX2_joinable_53 rfl (lv_at hl 0 rfl) ?_
          refine lv_iconst (v := nI 1) hx hb dX2_joinable_54 (by decide) ?_
          refine n_iadd hx hb dX2_joinable_55 ?_
          refine lv_istore_n (lv' := [(1, .int (nI ((ch x) + 1))), (3, .int (nI (ch x))), (0, .ref h), (2, .int (nI d))]) hx hb dX2_joinable_56 rfl hl (by decide) rfl (fun ls hl => ?_)
          refine lv_iinc (v := nI (d + 1)) (lv' := [(2, .int (nI (d + 1))), (1, .int (nI ((ch x) + 1))), (3, .int (nI (ch x))), (0, .ref h)]) hx hb dX2_joinable_57 hl (k := 3) rfl (n_inc _ 1) (by decide) rfl (fun ls hl => ?_)
          refine lv_goto (tgt := 17) hx hb dX2_joinable_60 (by decide) ?_
          exact ih (k - 1) ((ch x) + 1) (d + 1) (by omega) (by omega) (by omega) (mDes_b hR (Bool.eq_false_iff.mpr c7) (by omega) (if_pos (by omega))) ls (lv_sub hl [3, 1, 0] rfl)
        · skip
          refine lv_iload_n hx hb dX2_joinable_49 rfl (lv_at hl 0 rfl) ?_
          refine lv_goto (tgt := 56) hx hb dX2_joinable_50 (by decide) ?_
          refine lv_istore_n (lv' := [(1, .int (nI (ch x))), (3, .int (nI (ch x))), (0, .ref h), (2, .int (nI d))]) hx hb dX2_joinable_56 rfl hl (by decide) rfl (fun ls hl => ?_)
          refine lv_iinc (v := nI (d + 1)) (lv' := [(2, .int (nI (d + 1))), (1, .int (nI (ch x))), (3, .int (nI (ch x))), (0, .ref h)]) hx hb dX2_joinable_57 hl (k := 3) rfl (n_inc _ 1) (by decide) rfl (fun ls hl => ?_)
          refine lv_goto (tgt := 17) hx hb dX2_joinable_60 (by decide) ?_
          exact ih (k - 1) (ch x) (d + 1) (by omega) (by omega) (by omega) (mDes_b hR (Bool.eq_false_iff.mpr c7) (by omega) (if_neg (by omega))) ls (lv_sub hl [3, 1, 0] rfl)

set_option maxHeartbeats 4000000 in
set_option maxRecDepth 100000 in
theorem c_X2_joinable (l : Launch) (g : va_G) (cI cJ cZ : ClassId) (h q1 q2 q3 q4 q5 q6 q7 n : Nat) (pa ch kd ad rq su un : Nat → Nat) (mk sp : Nat) (hn : n < 2 ^ 31) (h1 : 1 < n) (hch : ∀ i, ch i + 1 < n) (hrq : ∀ i, rq i < 2 ^ 31) : kR l g (kty cI cJ cZ) yX2_joinable wsX2_joinable ({ frames := 2, cells := 0, slots := 0, locals := 42 }) [.ref h] [(h, .inr (2, [.ref q1, .ref q2, .ref q3, .ref q4, .ref q5, .ref q6, .ref q7, .int (nI mk), .int (nI sp)])), (q1, .inl (cI, n, .inl (fun j => nI (pa j)))), (q2, .inl (cI, n, .inl (fun j => nI (ch j)))), (q3, .inl (cI, n, .inl (fun j => nI (kd j)))), (q4, .inl (cI, n, .inl (fun j => nI (ad j)))), (q5, .inl (cI, n, .inl (fun j => nI (rq j)))), (q6, .inl (cI, n, .inl (fun j => nI (su j)))), (q7, .inl (cI, n, .inl (fun j => nI (un j))))] (if su 1 &&& 1 = 0 then nI 0 else nI (fJoi ch rq su)) := by
  refine Met.ofW (cc := cX2_joinable) (maxL := 4) (ret := (some .int)) (by decide) rfl ?_
  intro p e s m args below meth c s₁ B hml hv
  obtain ⟨rfl, hP, hk⟩ := hv
  have hx := B.exec
  have hb := B.bytes
  have hr := B.returns
  have hts := atoms_spec (ws := wsX2_joinable) B.pre
  have hown : s.vm.findClass RX2 = some m.cls := findClass_of_methodNamed B.named
  have hlocks := B.notSynchronized
  have hK := hk.1
  have hinX2 : ∀ w ∈ wsX20, w ∈ wsX2_joinable := by decide +kernel
  have hl := lv_entry ([.ref h]) (n := 4) (Nat.le_of_ble_eq_true rfl)
  rw [lg_entry_eq]
  generalize (lg_sl ([.ref h]) ++ List.replicate (4 - (lg_sl ([.ref h])).length) Slot.unset).toArray = ls at hl ⊢
  have hl : lv_has ls 4 [(0, .ref h)] := hl
  refine lv_aload_n hx hb dX2_joinable_0 rfl (lv_at hl 0 rfl) ?_
  refine va_get (D := g) (ci := 2) (v := .ref q6) (C := RX2) (T := TX2) (N := 9) hx hb hts hinX2 hown hK hP 0 rfl rfl 5 (by decide) (hts (.fieldLink RX2 27 "BuddyRoof$Tree" "summary" "[I") (by decide +kernel)) (fun _ h9 => h9) rfl dX2_joinable_1 ?_
  refine lv_iconst (v := nI 1) hx hb dX2_joinable_4 (by decide) ?_
  refine n_ald (v := nI (su 1)) hx hb hK hP 6 0 rfl rfl (i := 1) (by first | assumption | omega) (by first | assumption | omega) rfl dX2_joinable_5 ?_
  refine lv_iconst (v := nI 1) hx hb dX2_joinable_6 (by decide) ?_
  refine n_iand hx hb dX2_joinable_7 ?_
  refine n_if_ne (tgt := 13) hx hb dX2_joinable_8 (by decide) (by exact Nat.lt_of_le_of_lt Nat.and_le_right (by decide)) (fun c1 => ?_) (fun c1 => ?_)
  · skip
    refine lv_iconst (v := nI 1) hx hb dX2_joinable_13 (by decide) ?_
    refine lv_istore_n (lv' := [(1, .int (nI 1)), (0, .ref h)]) hx hb dX2_joinable_14 rfl hl (by decide) rfl (fun ls hl => ?_)
    refine lv_iconst (v := nI 0) hx hb dX2_joinable_15 (by decide) ?_
    refine lv_istore_n (lv' := [(2, .int (nI 0)), (1, .int (nI 1)), (0, .ref h)]) hx hb dX2_joinable_16 rfl hl (by decide) rfl (fun ls hl => ?_)
    refine lp_X2_joinable_17 l g cI cJ cZ h q1 q2 q3 q4 q5 q6 q7 n pa ch kd ad rq su un mk sp hn h1 hch hrq (fJoi ch rq su) ⟨hx, hb, hr, hml, hown, hts, hlocks⟩ hk hP (fun x hd ls hl => ?_) _ 24 1 0 (Nat.lt_succ_self _) rfl h1 rfl ls (lv_sub hl [2, 1, 0] rfl)
    · skip
      refine lv_iload_n hx hb dX2_joinable_63 rfl (lv_at hl 0 rfl) ?_
      exact k_retR (v := nI x) hx hb hr hlocks (by rw [if_neg (by omega), hd]) dX2_joinable_64
  · skip
    refine lv_iconst (v := nI 0) hx hb dX2_joinable_11 (by decide) ?_
    exact k_retR (v := nI 0) hx hb hr hlocks ((if_pos (by omega)).symm) dX2_joinable_12
set_option maxHeartbeats 4000000 in
set_option maxRecDepth 100000 in
theorem lp_X2_behind_4 {p : Program} {e : Env} {s : State} {m : MethodId} {args : Array Value} {below : List Frame} {meth : Method} {c : Code} {Q : State → Prop} (l : Launch) (g : va_G) (cI cJ cZ : ClassId) (h q1 q2 q3 q4 q5 q6 q7 n : Nat) (pa ch kd ad rq su un : Nat → Nat) (mk sp : Nat) (i : Nat) (hn : n < 2 ^ 31) (hi : i < n) (hpa : ∀ i, pa i < n) (rr : Nat) (C0 : cM p s m args meth c cX2_behind 4 (some .int) wsX2_behind RX2) (hk : kK g (kty cI cJ cZ) s) {H : Heap} {locs : List Loc} (hP : va_P g vwCl [(h, .inr (2, [.ref q1, .ref q2, .ref q3, .ref q4, .ref q5, .ref q6, .ref q7, .int (nI mk), .int (nI sp)])), (q1, .inl (cI, n, .inl (fun j => nI (pa j)))), (q2, .inl (cI, n, .inl (fun j => nI (ch j)))), (q3, .inl (cI, n, .inl (fun j => nI (kd j)))), (q4, .inl (cI, n, .inl (fun j => nI (ad j)))), (q5, .inl (cI, n, .inl (fun j => nI (rq j)))), (q6, .inl (cI, n, .inl (fun j => nI (su j)))), (q7, .inl (cI, n, .inl (fun j => nI (un j))))] H) (kk0 : ∀ (x : Nat), (x = rr) → (x < n) → ∀ (ls : Array Slot), lv_has ls 4 [(2, .int (nI x))] → W p l e (headSpec wsX2_behind ({ frames := 0, cells := 0, slots := 0, locals := 0 })).room s m args below meth c H locs 0 0 Q (F0 m 35 ls [])) :
    ∀ (K : Nat) (k x d : Nat), k < K → (d + k = 24) → (x < n) → (mDes (fun x => decide (x = 1 ∨ ¬ x &&& 1 = 1)) pa k x = rr) → ∀ (ls : Array Slot), lv_has ls 4 [(0, .ref h), (2, .int (nI x)), (3, .int (nI d))] → W p l e (headSpec wsX2_behind ({ frames := 0, cells := 0, slots := 0, locals := 0 })).room s m args below meth c H locs 0 0 Q (F0 m 4 ls []) := by
  obtain ⟨hx, hb, hr, hml, hown, hts, hlocks⟩ := C0
  have hK := hk.1
  have hinX2 : ∀ w ∈ wsX20, w ∈ wsX2_behind := by decide +kernel
  intro K
  induction K with
  | zero =>
    intro k x d h0
    exact absurd h0 (Nat.not_lt_zero _)
  | succ K ih =>
    intro k x d hmu hf hx1 hR ls hl
    refine lv_iload_n hx hb dX2_behind_4 rfl (lv_at hl 2 rfl) ?_
    refine lv_bipush (v := nI 24) hx hb dX2_behind_5 (by decide) ?_
    refine n_icmp_ge (tgt := 35) hx hb dX2_behind_7 (by decide) (by first | assumption | omega) (by first | assumption | omega) (fun c6 => ?_) (fun c6 => ?_)
    · skip
      exact kk0 x (mDes_x hR (Or.inr (by omega))) hx1 ls (lv_sub hl [1] rfl)
    · skip
      refine lv_iload_n hx hb dX2_behind_10 rfl (lv_at hl 1 rfl) ?_
      refine lv_iconst (v := nI 1) hx hb dX2_behind_11 (by decide) ?_
      refine n_icmp_eq (tgt := 35) hx hb dX2_behind_12 (by decide) (by first | assumption | omega) (by first | assumption | omega) (fun c7 => ?_) (fun c7 => ?_)
      · skip
        exact kk0 x (mDes_x hR (Or.inl (dt (Or.inl c7)))) hx1 ls (lv_sub hl [1] rfl)
      · skip
        refine lv_iload_n hx hb dX2_behind_15 rfl (lv_at hl 1 rfl) ?_
        refine lv_iconst (v := nI 1) hx hb dX2_behind_16 (by decide) ?_
        refine n_iand hx hb dX2_behind_17 ?_
        refine lv_iconst (v := nI 1) hx hb dX2_behind_18 (by decide) ?_
        refine n_icmp_ne (tgt := 35) hx hb dX2_behind_19 (by decide) (by exact Nat.lt_of_le_of_lt Nat.and_le_right (by decide)) (by first | assumption | omega) (fun c8 => ?_) (fun c8 => ?_)
        · skip
          exact kk0 x (mDes_x hR (Or.inl (dt (Or.inr c8)))) hx1 ls (lv_sub hl [1] rfl)
        · skip
          refine lv_aload_n hx hb dX2_behind_22 rfl (lv_at hl 0 rfl) ?_
          refine va_get (D := g) (ci := 2) (v := .ref q1) (C := RX2) (T := TX2) (N := 9) hx hb hts hinX2 hown hK hP 0 rfl rfl 0 (by decide) (hts (.fieldLink RX2 11 "BuddyRoof$Tree" "parent" "[I") (by decide +kernel)) (fun _ h9 => h9) rfl dX2_behind_23 ?_
          refine lv_iload_n hx hb dX2_behind_26 rfl (lv_at hl 1 rfl) ?_
          refine n_ald (v := nI (pa x)) hx hb hK hP 1 0 rfl rfl (i := x) (by first | assumption | omega) (by first | assumption | omega) rfl dX2_behind_27 ?_
          have f9 := hpa x
          refine lv_istore_n (lv' := [(2, .int (nI (pa x))), (0, .ref h), (3, .int (nI d))]) hx hb dX2_behind_28 rfl hl (by decide) rfl (fun ls hl => ?_)
          refine lv_iinc (v := nI (d + 1)) (lv' := [(3, .int (nI (d + 1))), (2, .int (nI (pa x))), (0, .ref h)]) hx hb dX2_behind_29 hl (k := 2) rfl (n_inc _ 1) (by decide) rfl (fun ls hl => ?_)
          refine lv_goto (tgt := 4) hx hb dX2_behind_32 (by decide) ?_
          exact ih (k - 1) (pa x) (d + 1) (by omega) (by omega) (hpa x) (mDes_b hR (df (fun q => q.elim c7 (fun z => z c8))) (by omega) rfl) ls (lv_sub hl [2, 1, 0] rfl)

set_option maxHeartbeats 4000000 in
set_option maxRecDepth 100000 in
theorem c_X2_behind (l : Launch) (g : va_G) (cI cJ cZ : ClassId) (h q1 q2 q3 q4 q5 q6 q7 n : Nat) (pa ch kd ad rq su un : Nat → Nat) (mk sp : Nat) (i : Nat) (hn : n < 2 ^ 31) (hi : i < n) (hpa : ∀ i, pa i < n) : kR l g (kty cI cJ cZ) yX2_behind wsX2_behind ({ frames := 0, cells := 0, slots := 0, locals := 0 }) [.ref h, .int (nI i)] [(h, .inr (2, [.ref q1, .ref q2, .ref q3, .ref q4, .ref q5, .ref q6, .ref q7, .int (nI mk), .int (nI sp)])), (q1, .inl (cI, n, .inl (fun j => nI (pa j)))), (q2, .inl (cI, n, .inl (fun j => nI (ch j)))), (q3, .inl (cI, n, .inl (fun j => nI (kd j)))), (q4, .inl (cI, n, .inl (fun j => nI (ad j)))), (q5, .inl (cI, n, .inl (fun j => nI (rq j)))), (q6, .inl (cI, n, .inl (fun j => nI (su j)))), (q7, .inl (cI, n, .inl (fun j => nI (un j))))] (nI (fBeh pa i)) := by
  refine Met.ofW (cc := cX2_behind) (maxL := 4) (ret := (some .int)) (by decide) rfl ?_
  intro p e s m args below meth c s₁ B hml hv
  obtain ⟨rfl, hP, hk⟩ := hv
  have hx := B.exec
  have hb := B.bytes
  have hr := B.returns
  have hts := atoms_spec (ws := wsX2_behind) B.pre
  have hown : s.vm.findClass RX2 = some m.cls := findClass_of_methodNamed B.named
  have hlocks := B.notSynchronized
  have hK := hk.1
  have hinX2 : ∀ w ∈ wsX20, w ∈ wsX2_behind := by decide +kernel
  have hl := lv_entry ([.ref h, .int (nI i)]) (n := 4) (Nat.le_of_ble_eq_true rfl)
  rw [lg_entry_eq]
  generalize (lg_sl ([.ref h, .int (nI i)]) ++ List.replicate (4 - (lg_sl ([.ref h, .int (nI i)])).length) Slot.unset).toArray = ls at hl ⊢
  have hl : lv_has ls 4 [(0, .ref h), (1, .int (nI i))] := hl
  refine lv_iload_n hx hb dX2_behind_0 rfl (lv_at hl 1 rfl) ?_
  refine lv_istore_n (lv' := [(2, .int (nI i)), (0, .ref h), (1, .int (nI i))]) hx hb dX2_behind_1 rfl hl (by decide) rfl (fun ls hl => ?_)
  refine lv_iconst (v := nI 0) hx hb dX2_behind_2 (by decide) ?_
  refine lv_istore_n (lv' := [(3, .int (nI 0)), (2, .int (nI i)), (0, .ref h), (1, .int (nI i))]) hx hb dX2_behind_3 rfl hl (by decide) rfl (fun ls hl => ?_)
  refine lp_X2_behind_4 l g cI cJ cZ h q1 q2 q3 q4 q5 q6 q7 n pa ch kd ad rq su un mk sp i hn hi hpa (mDes (fun x => decide (x = 1 ∨ ¬ x &&& 1 = 1)) pa 24 i) ⟨hx, hb, hr, hml, hown, hts, hlocks⟩ hk hP (fun x hd hx1 ls hl => ?_) _ 24 i 0 (Nat.lt_succ_self _) rfl hi rfl ls (lv_sub hl [2, 1, 0] rfl)
  · skip
    refine lv_iload_n hx hb dX2_behind_35 rfl (lv_at hl 0 rfl) ?_
    refine lv_iconst (v := nI 1) hx hb dX2_behind_36 (by decide) ?_
    refine n_icmp_ne (tgt := 44) hx hb dX2_behind_37 (by decide) (by first | assumption | omega) (by first | assumption | omega) (fun c1 => ?_) (fun c1 => ?_)
    · skip
      refine lv_iload_n hx hb dX2_behind_44 rfl (lv_at hl 0 rfl) ?_
      refine lv_iconst (v := nI 1) hx hb dX2_behind_45 (by decide) ?_
      refine n_iadd hx hb dX2_behind_46 ?_
      exact k_retR (v := nI (x + 1)) hx hb hr hlocks (by unfold fBeh; rw [← hd]; simp only []; rw [if_neg (by omega)]) dX2_behind_47
    · skip
      refine lv_iconst (v := nI 0) hx hb dX2_behind_40 (by decide) ?_
      refine lv_goto (tgt := 47) hx hb dX2_behind_41 (by decide) ?_
      exact k_retR (v := nI 0) hx hb hr hlocks (by unfold fBeh; rw [← hd]; simp only []; rw [if_pos (by omega)]) dX2_behind_47
