set_option maxHeartbeats 4000000 in
set_option maxRecDepth 100000 in
theorem lp_X2_wholeFrom_4 {p : Program} {e : Env} {s : State} {m : MethodId} {args : Array Value} {below : List Frame} {meth : Method} {c : Code} {Q : State → Prop} (l : Launch) (g : va_G) (cI cJ cZ : ClassId) (h q1 q2 q3 q4 q5 q6 q7 n : Nat) (pa ch kd ad rq su un : Nat → Nat) (mk sp : Nat) (i : Nat) (gd : Nat → Prop) (hn : n < 2 ^ 31) (hmk : mk < 2 ^ 31) (hpa : ∀ i, pa i < n) (hch : ∀ i, ch i < 2 ^ 31) (hg0 : ∀ x, gd x → x < n) (hgc : ∀ x, gd x → 0 < x → ¬ ch x = 0 → gd (ch x)) (hgb : ∀ x, gd x → 0 < x → gd (fBeh pa x)) (hgi : gd i) (rr : Nat) (C0 : cM p s m args meth c cX2_wholeFrom 4 (some .int) wsX2_wholeFrom RX2) (hk : kK g (kty cI cJ cZ) s) {H : Heap} {locs : List Loc} (hP : va_P g vwCl [(h, .inr (2, [.ref q1, .ref q2, .ref q3, .ref q4, .ref q5, .ref q6, .ref q7, .int (nI mk), .int (nI sp)])), (q1, .inl (cI, n, .inl (fun j => nI (pa j)))), (q2, .inl (cI, n, .inl (fun j => nI (ch j)))), (q3, .inl (cI, n, .inl (fun j => nI (kd j)))), (q4, .inl (cI, n, .inl (fun j => nI (ad j)))), (q5, .inl (cI, n, .inl (fun j => nI (rq j)))), (q6, .inl (cI, n, .inl (fun j => nI (su j)))), (q7, .inl (cI, n, .inl (fun j => nI (un j))))] H) (kk0 : ∀ (x : Nat), (x = rr) → ∀ (ls : Array Slot), lv_has ls 4 [(2, .int (nI x))] → W p l e (headSpec wsX2_wholeFrom ({ frames := 1, cells := 0, slots := 0, locals := 23 })).room s m args below meth c H locs 0 0 Q (F0 m 54 ls [])) :
    ∀ (K : Nat) (k x d : Nat), k < K → (d + k = mk) → (gd x) → (mDes (fun x => decide (x = 0 ∨ su x &&& 33554432 = 0)) (fun x => if ch x = 0 then fBeh pa x else ch x) k x = rr) → ∀ (ls : Array Slot), lv_has ls 4 [(0, .ref h), (2, .int (nI x)), (3, .int (nI d))] → W p l e (headSpec wsX2_wholeFrom ({ frames := 1, cells := 0, slots := 0, locals := 23 })).room s m args below meth c H locs 0 0 Q (F0 m 4 ls []) := by
  obtain ⟨hx, hb, hr, hml, hown, hts, hlocks⟩ := C0
  have hK := hk.1
  have hinX2 : ∀ w ∈ wsX20, w ∈ wsX2_wholeFrom := by decide +kernel
  intro K
  induction K with
  | zero =>
    intro k x d h0
    exact absurd h0 (Nat.not_lt_zero _)
  | succ K ih =>
    intro k x d hmu hf hgx hR ls hl
    have hxn := hg0 x hgx
    refine lv_iload_n hx hb dX2_wholeFrom_4 rfl (lv_at hl 2 rfl) ?_
    refine lv_aload_n hx hb dX2_wholeFrom_5 rfl (lv_at hl 0 rfl) ?_
    refine va_get (D := g) (ci := 2) (v := .int (nI mk)) (C := RX2) (T := TX2) (N := 9) hx hb hts hinX2 hown hK hP 0 rfl rfl 7 (by decide) (hts (.fieldLink RX2 33 "BuddyRoof$Tree" "made" "I") (by decide +kernel)) (fun _ h9 => h9) rfl dX2_wholeFrom_6 ?_
    refine n_icmp_ge (tgt := 54) hx hb dX2_wholeFrom_9 (by decide) (by first | assumption | omega) (by first | assumption | omega) (fun c7 => ?_) (fun c7 => ?_)
    · skip
      exact kk0 x (mDes_x hR (Or.inr (by omega))) ls (lv_sub hl [1] rfl)
    · skip
      refine lv_iload_n hx hb dX2_wholeFrom_12 rfl (lv_at hl 1 rfl) ?_
      refine n_if_eq (tgt := 54) hx hb dX2_wholeFrom_13 (by decide) (by first | assumption | omega) (fun c8 => ?_) (fun c8 => ?_)
      · skip
        exact kk0 x (mDes_x hR (Or.inl (dt (Or.inl c8)))) ls (lv_sub hl [1] rfl)
      · skip
        refine lv_aload_n hx hb dX2_wholeFrom_16 rfl (lv_at hl 0 rfl) ?_
        refine lv_iload_n hx hb dX2_wholeFrom_17 rfl (lv_at hl 1 rfl) ?_
        refine k_goR (W.runV (As := [.int (nI x)]) (rest := []) ⟨hx, hb, hml, hown, hts⟩ (c_X2_hasLive l g cI cJ cZ h q1 q2 q3 q4 q5 q6 q7 n pa ch kd ad rq su un mk sp x hn (hg0 x hgx)) (cwV 1 hts gX2_wholeFrom_X2_hasLive rfl rfl rfl (by decide +kernel) ⟨Nat.le_of_ble_eq_true rfl, Nat.le_of_ble_eq_true rfl⟩) (k_preRV hk hP [0, 1, 2, 3, 4, 5, 6, 7] rfl (ci := 2) (q0 := 0) rfl rfl) rfl rfl hl.1 rfl (lv_room (Nat.le_of_ble_eq_true rfl)) dX2_wholeFrom_18 ⟨by first | exact Nat.zero_le _ | omega, by first | exact Nat.zero_le _ | omega⟩) ?_
        refine k_ifeq (tgt := 54) hx hb dX2_wholeFrom_21 (by decide) (fun c9 => ?_) (fun c9 => ?_)
        · skip
          exact kk0 x (mDes_x hR (Or.inl (dt (Or.inr (Classical.byContradiction c9))))) ls (lv_sub hl [1] rfl)
        · skip
          refine lv_aload_n hx hb dX2_wholeFrom_24 rfl (lv_at hl 0 rfl) ?_
          refine va_get (D := g) (ci := 2) (v := .ref q2) (C := RX2) (T := TX2) (N := 9) hx hb hts hinX2 hown hK hP 0 rfl rfl 1 (by decide) (hts (.fieldLink RX2 15 "BuddyRoof$Tree" "child" "[I") (by decide +kernel)) (fun _ h9 => h9) rfl dX2_wholeFrom_25 ?_
          refine lv_iload_n hx hb dX2_wholeFrom_28 rfl (lv_at hl 1 rfl) ?_
          refine n_ald (v := nI (ch x)) hx hb hK hP 2 0 rfl rfl (i := x) (by first | assumption | omega) (by first | assumption | omega) rfl dX2_wholeFrom_29 ?_
          have f10 := hch x
          refine n_if_eq (tgt := 42) hx hb dX2_wholeFrom_30 (by decide) (by first | assumption | omega) (fun c11 => ?_) (fun c11 => ?_)
          · skip
            refine lv_aload_n hx hb dX2_wholeFrom_42 rfl (lv_at hl 0 rfl) ?_
            refine lv_iload_n hx hb dX2_wholeFrom_43 rfl (lv_at hl 1 rfl) ?_
            refine k_goR (W.runV (As := [.int (nI x)]) (rest := []) ⟨hx, hb, hml, hown, hts⟩ (c_X2_behind l g cI cJ cZ h q1 q2 q3 q4 q5 q6 q7 n pa ch kd ad rq su un mk sp x hn (hg0 x hgx) hpa) (cwV 1 hts gX2_wholeFrom_X2_behind rfl rfl rfl (by decide +kernel) ⟨Nat.le_of_ble_eq_true rfl, Nat.le_of_ble_eq_true rfl⟩) (k_preRV hk hP [0, 1, 2, 3, 4, 5, 6, 7] rfl (ci := 2) (q0 := 0) rfl rfl) rfl rfl hl.1 rfl (lv_room (Nat.le_of_ble_eq_true rfl)) dX2_wholeFrom_44 ⟨by first | exact Nat.zero_le _ | omega, by first | exact Nat.zero_le _ | omega⟩) ?_
            refine lv_istore_n (lv' := [(2, .int (nI (fBeh pa x))), (0, .ref h), (3, .int (nI d))]) hx hb dX2_wholeFrom_47 rfl hl (by decide) rfl (fun ls hl => ?_)
            refine lv_iinc (v := nI (d + 1)) (lv' := [(3, .int (nI (d + 1))), (2, .int (nI (fBeh pa x))), (0, .ref h)]) hx hb dX2_wholeFrom_48 hl (k := 2) rfl (n_inc _ 1) (by decide) rfl (fun ls hl => ?_)
            refine lv_goto (tgt := 4) hx hb dX2_wholeFrom_51 (by decide) ?_
            exact ih (k - 1) (fBeh pa x) (d + 1) (by omega) (by omega) (hgb x hgx (by omega)) (mDes_b hR (df (fun q => q.elim (fun z => by omega) (fun z => c9 z))) (by omega) (if_pos (by omega))) ls (lv_sub hl [2, 1, 0] rfl)
          · skip
            refine lv_aload_n hx hb dX2_wholeFrom_33 rfl (lv_at hl 0 rfl) ?_
            refine va_get (D := g) (ci := 2) (v := .ref q2) (C := RX2) (T := TX2) (N := 9) hx hb hts hinX2 hown hK hP 0 rfl rfl 1 (by decide) (hts (.fieldLink RX2 15 "BuddyRoof$Tree" "child" "[I") (by decide +kernel)) (fun _ h9 => h9) rfl dX2_wholeFrom_34 ?_
            refine lv_iload_n hx hb dX2_wholeFrom_37 rfl (lv_at hl 1 rfl) ?_
            refine n_ald (v := nI (ch x)) hx hb hK hP 2 0 rfl rfl (i := x) (by first | assumption | omega) (by first | assumption | omega) rfl dX2_wholeFrom_38 ?_
            have f12 := hch x
            refine lv_goto (tgt := 47) hx hb dX2_wholeFrom_39 (by decide) ?_
            refine lv_istore_n (lv' := [(2, .int (nI (ch x))), (0, .ref h), (3, .int (nI d))]) hx hb dX2_wholeFrom_47 rfl hl (by decide) rfl (fun ls hl => ?_)
            refine lv_iinc (v := nI (d + 1)) (lv' := [(3, .int (nI (d + 1))), (2, .int (nI (ch x))), (0, .ref h)]) hx hb dX2_wholeFrom_48 hl (k := 2) rfl (n_inc _ 1) (by decide) rfl (fun ls hl => ?_)
            refine lv_goto (tgt := 4) hx hb dX2_wholeFrom_51 (by decide) ?_
            exact ih (k - 1) (ch x) (d + 1) (by omega) (by omega) (hgc x hgx (by omega) (by omega)) (mDes_b hR (df (fun q => q.elim (fun z => by omega) (fun z => c9 z))) (by omega) (if_neg (by omega))) ls (lv_sub hl [2, 1, 0] rfl)

set_option maxHeartbeats 4000000 in
set_option maxRecDepth 100000 in
theorem c_X2_wholeFrom (l : Launch) (g : va_G) (cI cJ cZ : ClassId) (h q1 q2 q3 q4 q5 q6 q7 n : Nat) (pa ch kd ad rq su un : Nat → Nat) (mk sp : Nat) (i : Nat) (gd : Nat → Prop) (hn : n < 2 ^ 31) (hmk : mk < 2 ^ 31) (hpa : ∀ i, pa i < n) (hch : ∀ i, ch i < 2 ^ 31) (hg0 : ∀ x, gd x → x < n) (hgc : ∀ x, gd x → 0 < x → ¬ ch x = 0 → gd (ch x)) (hgb : ∀ x, gd x → 0 < x → gd (fBeh pa x)) (hgi : gd i) : kR l g (kty cI cJ cZ) yX2_wholeFrom wsX2_wholeFrom ({ frames := 1, cells := 0, slots := 0, locals := 23 }) [.ref h, .int (nI i)] [(h, .inr (2, [.ref q1, .ref q2, .ref q3, .ref q4, .ref q5, .ref q6, .ref q7, .int (nI mk), .int (nI sp)])), (q1, .inl (cI, n, .inl (fun j => nI (pa j)))), (q2, .inl (cI, n, .inl (fun j => nI (ch j)))), (q3, .inl (cI, n, .inl (fun j => nI (kd j)))), (q4, .inl (cI, n, .inl (fun j => nI (ad j)))), (q5, .inl (cI, n, .inl (fun j => nI (rq j)))), (q6, .inl (cI, n, .inl (fun j => nI (su j)))), (q7, .inl (cI, n, .inl (fun j => nI (un j))))] (nI (fWho pa ch su mk i)) := by
  refine Met.ofW (cc := cX2_wholeFrom) (maxL := 4) (ret := (some .int)) (by decide) rfl ?_
  intro p e s m args below meth c s₁ B hml hv
  obtain ⟨rfl, hP, hk⟩ := hv
  have hx := B.exec
  have hb := B.bytes
  have hr := B.returns
  have hts := atoms_spec (ws := wsX2_wholeFrom) B.pre
  have hown : s.vm.findClass RX2 = some m.cls := findClass_of_methodNamed B.named
  have hlocks := B.notSynchronized
  have hK := hk.1
  have hinX2 : ∀ w ∈ wsX20, w ∈ wsX2_wholeFrom := by decide +kernel
  have hl := lv_entry ([.ref h, .int (nI i)]) (n := 4) (Nat.le_of_ble_eq_true rfl)
  rw [lg_entry_eq]
  generalize (lg_sl ([.ref h, .int (nI i)]) ++ List.replicate (4 - (lg_sl ([.ref h, .int (nI i)])).length) Slot.unset).toArray = ls at hl ⊢
  have hl : lv_has ls 4 [(0, .ref h), (1, .int (nI i))] := hl
  refine lv_iload_n hx hb dX2_wholeFrom_0 rfl (lv_at hl 1 rfl) ?_
  refine lv_istore_n (lv' := [(2, .int (nI i)), (0, .ref h), (1, .int (nI i))]) hx hb dX2_wholeFrom_1 rfl hl (by decide) rfl (fun ls hl => ?_)
  refine lv_iconst (v := nI 0) hx hb dX2_wholeFrom_2 (by decide) ?_
  refine lv_istore_n (lv' := [(3, .int (nI 0)), (2, .int (nI i)), (0, .ref h), (1, .int (nI i))]) hx hb dX2_wholeFrom_3 rfl hl (by decide) rfl (fun ls hl => ?_)
  refine lp_X2_wholeFrom_4 l g cI cJ cZ h q1 q2 q3 q4 q5 q6 q7 n pa ch kd ad rq su un mk sp i gd hn hmk hpa hch hg0 hgc hgb hgi (fWho pa ch su mk i) ⟨hx, hb, hr, hml, hown, hts, hlocks⟩ hk hP (fun x hd ls hl => ?_) _ mk i 0 (Nat.lt_succ_self _) (by omega) hgi rfl ls (lv_sub hl [2, 1, 0] rfl)
  · skip
    refine lv_iload_n hx hb dX2_wholeFrom_54 rfl (lv_at hl 0 rfl) ?_
    exact k_retR (v := nI x) hx hb hr hlocks (by rw [hd]) dX2_wholeFrom_55
