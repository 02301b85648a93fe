/-- going on by nx until st says to stop, k times at most -/
def mDes {α : Type} (st : α → Bool) (nx : α → α) : Nat → α → α
  | 0, x => x
  | k + 1, x => if st x then x else mDes st nx k (nx x)
theorem mDes_e {α : Type} {st : α → Bool} {nx : α → α} {k : Nat} {x : α} (h : st x = true ∨ k = 0) : mDes st nx k x = x := by
  cases k with
  | zero => rfl
  | succ k => rw [mDes, if_pos (h.resolve_right (by omega))]
theorem mDes_s {α : Type} {st : α → Bool} {nx : α → α} {k : Nat} {x y : α} (h : st x = false) (hk : 0 < k) (hy : nx x = y) : mDes st nx k x = mDes st nx (k - 1) y := by
  cases k with
  | zero => omega
  | succ k => rw [mDes, if_neg (by rw [h]; decide), hy]; rfl
/-- a step of it, as a loop's row asks -/
theorem mDes_b {α : Type} {st : α → Bool} {nx : α → α} {k : Nat} {x y r : α} (hR : mDes st nx k x = r) (h : st x = false) (hk : 0 < k) (hy : nx x = y) : mDes st nx (k - 1) y = r := by rw [← hR, mDes_s h hk hy]
theorem mDes_x {α : Type} {st : α → Bool} {nx : α → α} {k : Nat} {x r : α} (hR : mDes st nx k x = r) (h : st x = true ∨ k = 0) : x = r := by rw [← hR, mDes_e h]
theorem dt {P : Prop} [Decidable P] (h : P) : decide P = true := decide_eq_true h
theorem df {P : Prop} [Decidable P] (h : ¬ P) : decide P = false := decide_eq_false h
def fLive (v : Int32) (ch ad : Nat → Nat) : Nat := mDes (fun x => decide (ch x = 0)) (fun x => if v < nI (ad (ch x + 1)) then ch x else ch x + 1) 24 1
def fUns (ch un : Nat → Nat) (i : Nat) : Nat × Nat := mDes (fun x => decide (ch x.1 = 0)) (fun x => if x.2 < un (ch x.1) then (ch x.1, x.2) else (ch x.1 + 1, x.2 - un (ch x.1))) 24 (1, i)
def fOut (ch su : Nat → Nat) (cls sd : Nat) : Nat := mDes (fun x => decide (ch x = 0)) (fun x => if su (ch x + sd) &&& cls = 0 then (ch x + sd) ^^^ 1 else ch x + sd) 24 1
def isFr (ch rq : Nat → Nat) (x : Nat) : Bool := decide (¬ x = 0 ∧ ch x = 0 ∧ rq x = 0)
def isFP (ch rq : Nat → Nat) (x : Nat) : Bool := isFr ch rq (ch x) && isFr ch rq (ch x + 1)
def fJoi (ch rq su : Nat → Nat) : Nat := mDes (isFP ch rq) (fun x => if su (ch x) &&& 1 = 0 then ch x + 1 else ch x) 24 1
def fBeh (pa : Nat → Nat) (x : Nat) : Nat := let y := mDes (fun x => decide (x = 1 ∨ ¬ x &&& 1 = 1)) pa 24 x; if y = 1 then 0 else y + 1
def fWho (pa ch su : Nat → Nat) (mk x : Nat) : Nat := mDes (fun x => decide (x = 0 ∨ su x &&& 33554432 = 0)) (fun x => if ch x = 0 then fBeh pa x else ch x) mk x
set_option maxHeartbeats 4000000 in
set_option maxRecDepth 100000 in
theorem lp_X2_liveAt_4 {p : Program} {e : Env} {s : State} {m : MethodId} {args : Array Value} {below : List Frame} {meth : Method} {c : Code} {Q : State → Prop} (l : Launch) (g : va_G) (cI cJ cZ : ClassId) (h q1 q2 q3 q4 q5 q6 q7 n : Nat) (pa ch kd ad rq su un : Nat → Nat) (mk sp : Nat) (v : Int32) (hn : n < 2 ^ 31) (h1 : 1 < n) (hch : ∀ i, ch i + 1 < n) (hrq : ∀ i, rq i < 2 ^ 31) (rr : Nat) (C0 : cM p s m args meth c cX2_liveAt 5 (some .int) wsX2_liveAt RX2) (hk : kK g (kty cI cJ cZ) s) {H : Heap} {locs : List Loc} (hP : va_P g vwCl [(h, .inr (2, [.ref q1, .ref q2, .ref q3, .ref q4, .ref q5, .ref q6, .ref q7, .int (nI mk), .int (nI sp)])), (q1, .inl (cI, n, .inl (fun j => nI (pa j)))), (q2, .inl (cI, n, .inl (fun j => nI (ch j)))), (q3, .inl (cI, n, .inl (fun j => nI (kd j)))), (q4, .inl (cI, n, .inl (fun j => nI (ad j)))), (q5, .inl (cI, n, .inl (fun j => nI (rq j)))), (q6, .inl (cI, n, .inl (fun j => nI (su j)))), (q7, .inl (cI, n, .inl (fun j => nI (un j))))] H) (kk0 : ∀ (x : Nat), (x = rr) → (x < n) → ∀ (ls : Array Slot), lv_has ls 5 [(0, .ref h), (1, .int v), (2, .int (nI x))] → W p l e (headSpec wsX2_liveAt ({ frames := 0, cells := 0, slots := 0, locals := 0 })).room s m args below meth c H locs 0 0 Q (F0 m 56 ls [])) :
    ∀ (K : Nat) (k x d : Nat), k < K → (d + k = 24) → (x < n) → (mDes (fun x => decide (ch x = 0)) (fun x => if v < nI (ad (ch x + 1)) then ch x else ch x + 1) k x = rr) → ∀ (ls : Array Slot), lv_has ls 5 [(0, .ref h), (1, .int v), (2, .int (nI x)), (3, .int (nI d))] → W p l e (headSpec wsX2_liveAt ({ frames := 0, cells := 0, slots := 0, locals := 0 })).room s m args below meth c H locs 0 0 Q (F0 m 4 ls []) := by
  obtain ⟨hx, hb, hr, hml, hown, hts, hlocks⟩ := C0
  have hK := hk.1
  have hinX2 : ∀ w ∈ wsX20, w ∈ wsX2_liveAt := by decide +kernel
  intro K
  induction K with
  | zero =>
    intro k x d h0
    exact absurd h0 (Nat.not_lt_zero _)
  | succ K ih =>
    intro k x d hmu hf hx1 hR ls hl
    refine lv_iload_n hx hb dX2_liveAt_4 rfl (lv_at hl 3 rfl) ?_
    refine lv_bipush (v := nI 24) hx hb dX2_liveAt_5 (by decide) ?_
    refine n_icmp_ge (tgt := 56) hx hb dX2_liveAt_7 (by decide) (by first | assumption | omega) (by first | assumption | omega) (fun c9 => ?_) (fun c9 => ?_)
    · skip
      exact kk0 x (mDes_x hR (Or.inr (by omega))) hx1 ls (lv_sub hl [0, 1, 2] rfl)
    · skip
      refine lv_aload_n hx hb dX2_liveAt_10 rfl (lv_at hl 0 rfl) ?_
      refine va_get (D := g) (ci := 2) (v := .ref q2) (C := RX2) (T := TX2) (N := 9) hx hb hts hinX2 hown hK hP 0 rfl rfl 1 (by decide) (hts (.fieldLink RX2 15 "BuddyRoof$Tree" "child" "[I") (by decide +kernel)) (fun _ h9 => h9) rfl dX2_liveAt_11 ?_
      refine lv_iload_n hx hb dX2_liveAt_14 rfl (lv_at hl 2 rfl) ?_
      refine n_ald (v := nI (ch x)) hx hb hK hP 2 0 rfl rfl (i := x) (by first | assumption | omega) (by first | assumption | omega) rfl dX2_liveAt_15 ?_
      have f10 := hch x
      refine n_if_eq (tgt := 56) hx hb dX2_liveAt_16 (by decide) (by first | assumption | omega) (fun c11 => ?_) (fun c11 => ?_)
      · skip
        exact kk0 x (mDes_x hR (Or.inl (dt c11))) hx1 ls (lv_sub hl [0, 1, 2] rfl)
      · skip
        refine lv_aload_n hx hb dX2_liveAt_19 rfl (lv_at hl 0 rfl) ?_
        refine va_get (D := g) (ci := 2) (v := .ref q2) (C := RX2) (T := TX2) (N := 9) hx hb hts hinX2 hown hK hP 0 rfl rfl 1 (by decide) (hts (.fieldLink RX2 15 "BuddyRoof$Tree" "child" "[I") (by decide +kernel)) (fun _ h9 => h9) rfl dX2_liveAt_20 ?_
        refine lv_iload_n hx hb dX2_liveAt_23 rfl (lv_at hl 2 rfl) ?_
        refine n_ald (v := nI (ch x)) hx hb hK hP 2 0 rfl rfl (i := x) (by first | assumption | omega) (by first | assumption | omega) rfl dX2_liveAt_24 ?_
        have f12 := hch x
        refine lv_iconst (v := nI 1) hx hb dX2_liveAt_25 (by decide) ?_
        refine n_iadd hx hb dX2_liveAt_26 ?_
        refine lv_istore (lv' := [(4, .int (nI ((ch x) + 1))), (0, .ref h), (1, .int v), (2, .int (nI x)), (3, .int (nI d))]) hx hb dX2_liveAt_27 hl (by decide) rfl (fun ls hl => ?_)
        refine lv_iload_n hx hb dX2_liveAt_29 rfl (lv_at hl 2 rfl) ?_
        refine lv_aload_n hx hb dX2_liveAt_30 rfl (lv_at hl 1 rfl) ?_
        refine va_get (D := g) (ci := 2) (v := .ref q4) (C := RX2) (T := TX2) (N := 9) hx hb hts hinX2 hown hK hP 0 rfl rfl 3 (by decide) (hts (.fieldLink RX2 21 "BuddyRoof$Tree" "address" "[I") (by decide +kernel)) (fun _ h9 => h9) rfl dX2_liveAt_31 ?_
        refine lv_iload hx hb dX2_liveAt_34 (lv_at hl 0 rfl) ?_
        refine n_ald (v := nI (ad ((ch x) + 1))) hx hb hK hP 4 0 rfl rfl (i := ((ch x) + 1)) (by first | assumption | omega) (by first | assumption | omega) rfl dX2_liveAt_36 ?_
        refine lv_icmp_ge (tgt := 47) hx hb dX2_liveAt_37 (by decide) (fun c13 => ?_) (fun c13 => ?_)
        · skip
          refine lv_iload hx hb dX2_liveAt_47 (lv_at hl 0 rfl) ?_
          refine lv_istore_n (lv' := [(2, .int (nI ((ch x) + 1))), (4, .int (nI ((ch x) + 1))), (0, .ref h), (1, .int v), (3, .int (nI d))]) hx hb dX2_liveAt_49 rfl hl (by decide) rfl (fun ls hl => ?_)
          refine lv_iinc (v := nI (d + 1)) (lv' := [(3, .int (nI (d + 1))), (2, .int (nI ((ch x) + 1))), (4, .int (nI ((ch x) + 1))), (0, .ref h), (1, .int v)]) hx hb dX2_liveAt_50 hl (k := 4) rfl (n_inc _ 1) (by decide) rfl (fun ls hl => ?_)
          refine lv_goto (tgt := 4) hx hb dX2_liveAt_53 (by decide) ?_
          exact ih (k - 1) ((ch x) + 1) (d + 1) (by omega) (by omega) (by omega) (mDes_b hR (df (by omega)) (by omega) (if_neg (Int32.not_lt.mpr c13))) ls (lv_sub hl [3, 4, 1, 0] rfl)
        · skip
          refine lv_iload hx hb dX2_liveAt_40 (lv_at hl 0 rfl) ?_
          refine lv_iconst (v := nI 1) hx hb dX2_liveAt_42 (by decide) ?_
          refine n_isub hx hb dX2_liveAt_43 (by first | assumption | omega) ?_
          refine lv_goto (tgt := 49) hx hb dX2_liveAt_44 (by decide) ?_
          refine lv_istore_n (lv' := [(2, .int (nI (((ch x) + 1) - 1))), (4, .int (nI ((ch x) + 1))), (0, .ref h), (1, .int v), (3, .int (nI d))]) hx hb dX2_liveAt_49 rfl hl (by decide) rfl (fun ls hl => ?_)
          refine lv_iinc (v := nI (d + 1)) (lv' := [(3, .int (nI (d + 1))), (2, .int (nI (((ch x) + 1) - 1))), (4, .int (nI ((ch x) + 1))), (0, .ref h), (1, .int v)]) hx hb dX2_liveAt_50 hl (k := 4) rfl (n_inc _ 1) (by decide) rfl (fun ls hl => ?_)
          refine lv_goto (tgt := 4) hx hb dX2_liveAt_53 (by decide) ?_
          exact ih (k - 1) (((ch x) + 1) - 1) (d + 1) (by omega) (by omega) (by omega) (mDes_b hR (df (by omega)) (by omega) (if_pos (Int32.not_le.mp c13))) ls (lv_sub hl [3, 4, 1, 0] rfl)

set_option maxHeartbeats 4000000 in
set_option maxRecDepth 100000 in
theorem c_X2_liveAt (l : Launch) (g : va_G) (cI cJ cZ : ClassId) (h q1 q2 q3 q4 q5 q6 q7 n : Nat) (pa ch kd ad rq su un : Nat → Nat) (mk sp : Nat) (v : Int32) (hn : n < 2 ^ 31) (h1 : 1 < n) (hch : ∀ i, ch i + 1 < n) (hrq : ∀ i, rq i < 2 ^ 31) : kR l g (kty cI cJ cZ) yX2_liveAt wsX2_liveAt ({ frames := 0, cells := 0, slots := 0, locals := 0 }) [.ref h, .int v] [(h, .inr (2, [.ref q1, .ref q2, .ref q3, .ref q4, .ref q5, .ref q6, .ref q7, .int (nI mk), .int (nI sp)])), (q1, .inl (cI, n, .inl (fun j => nI (pa j)))), (q2, .inl (cI, n, .inl (fun j => nI (ch j)))), (q3, .inl (cI, n, .inl (fun j => nI (kd j)))), (q4, .inl (cI, n, .inl (fun j => nI (ad j)))), (q5, .inl (cI, n, .inl (fun j => nI (rq j)))), (q6, .inl (cI, n, .inl (fun j => nI (su j)))), (q7, .inl (cI, n, .inl (fun j => nI (un j))))] (if nI (ad (fLive v ch ad)) = v ∧ 0 < rq (fLive v ch ad) then nI (fLive v ch ad) else nI 0) := by
  refine Met.ofW (cc := cX2_liveAt) (maxL := 5) (ret := (some .int)) (by decide) rfl ?_
  intro p e s m args below meth c s₁ B hml hv
  obtain ⟨rfl, hP, hk⟩ := hv
  have hx := B.exec
  have hb := B.bytes
  have hr := B.returns
  have hts := atoms_spec (ws := wsX2_liveAt) B.pre
  have hown : s.vm.findClass RX2 = some m.cls := findClass_of_methodNamed B.named
  have hlocks := B.notSynchronized
  have hK := hk.1
  have hinX2 : ∀ w ∈ wsX20, w ∈ wsX2_liveAt := by decide +kernel
  have hl := lv_entry ([.ref h, .int v]) (n := 5) (Nat.le_of_ble_eq_true rfl)
  rw [lg_entry_eq]
  generalize (lg_sl ([.ref h, .int v]) ++ List.replicate (5 - (lg_sl ([.ref h, .int v])).length) Slot.unset).toArray = ls at hl ⊢
  have hl : lv_has ls 5 [(0, .ref h), (1, .int v)] := hl
  refine lv_iconst (v := nI 1) hx hb dX2_liveAt_0 (by decide) ?_
  refine lv_istore_n (lv' := [(2, .int (nI 1)), (0, .ref h), (1, .int v)]) hx hb dX2_liveAt_1 rfl hl (by decide) rfl (fun ls hl => ?_)
  refine lv_iconst (v := nI 0) hx hb dX2_liveAt_2 (by decide) ?_
  refine lv_istore_n (lv' := [(3, .int (nI 0)), (2, .int (nI 1)), (0, .ref h), (1, .int v)]) hx hb dX2_liveAt_3 rfl hl (by decide) rfl (fun ls hl => ?_)
  refine lp_X2_liveAt_4 l g cI cJ cZ h q1 q2 q3 q4 q5 q6 q7 n pa ch kd ad rq su un mk sp v hn h1 hch hrq (fLive v ch ad) ⟨hx, hb, hr, hml, hown, hts, hlocks⟩ hk hP (fun x hd hx1 ls hl => ?_) _ 24 1 0 (Nat.lt_succ_self _) rfl h1 rfl ls (lv_sub hl [2, 3, 1, 0] rfl)
  · skip
    refine lv_aload_n hx hb dX2_liveAt_56 rfl (lv_at hl 0 rfl) ?_
    refine va_get (D := g) (ci := 2) (v := .ref q4) (C := RX2) (T := TX2) (N := 9) hx hb hts hinX2 hown hK hP 0 rfl rfl 3 (by decide) (hts (.fieldLink RX2 21 "BuddyRoof$Tree" "address" "[I") (by decide +kernel)) (fun _ h9 => h9) rfl dX2_liveAt_57 ?_
    refine lv_iload_n hx hb dX2_liveAt_60 rfl (lv_at hl 2 rfl) ?_
    refine n_ald (v := nI (ad x)) hx hb hK hP 4 0 rfl rfl (i := x) (by first | assumption | omega) (by first | assumption | omega) rfl dX2_liveAt_61 ?_
    refine lv_iload_n hx hb dX2_liveAt_62 rfl (lv_at hl 1 rfl) ?_
    refine lv_icmp_ne (tgt := 79) hx hb dX2_liveAt_63 (by decide) (fun c1 => ?_) (fun c1 => ?_)
    · skip
      refine lv_iconst (v := nI 0) hx hb dX2_liveAt_79 (by decide) ?_
      exact k_retR (v := nI 0) hx hb hr hlocks (by rw [← hd, if_neg (fun q => c1 q.1)]) dX2_liveAt_80
    · skip
      refine lv_aload_n hx hb dX2_liveAt_66 rfl (lv_at hl 0 rfl) ?_
      refine va_get (D := g) (ci := 2) (v := .ref q5) (C := RX2) (T := TX2) (N := 9) hx hb hts hinX2 hown hK hP 0 rfl rfl 4 (by decide) (hts (.fieldLink RX2 24 "BuddyRoof$Tree" "request" "[I") (by decide +kernel)) (fun _ h9 => h9) rfl dX2_liveAt_67 ?_
      refine lv_iload_n hx hb dX2_liveAt_70 rfl (lv_at hl 2 rfl) ?_
      refine n_ald (v := nI (rq x)) hx hb hK hP 5 0 rfl rfl (i := x) (by first | assumption | omega) (by first | assumption | omega) rfl dX2_liveAt_71 ?_
      have f2 := hrq x
      refine n_if_le (tgt := 79) hx hb dX2_liveAt_72 (by decide) (by first | assumption | omega) (fun c3 => ?_) (fun c3 => ?_)
      · skip
        refine lv_iconst (v := nI 0) hx hb dX2_liveAt_79 (by decide) ?_
        exact k_retR (v := nI 0) hx hb hr hlocks (by rw [← hd, if_neg (fun q => by omega)]) dX2_liveAt_80
      · skip
        refine lv_iload_n hx hb dX2_liveAt_75 rfl (lv_at hl 2 rfl) ?_
        refine lv_goto (tgt := 80) hx hb dX2_liveAt_76 (by decide) ?_
        exact k_retR (v := nI x) hx hb hr hlocks (by rw [← hd, if_pos ⟨Classical.byContradiction (fun q => q c1), by omega⟩]) dX2_liveAt_80
