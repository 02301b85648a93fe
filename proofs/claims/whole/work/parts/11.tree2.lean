/-- depthOf's loop -/
def mDepth (pa : Nat → Nat) : Nat → Nat → Nat → Nat
  | 0, _, d => d
  | k + 1, x, d => if x = 1 then d else mDepth pa k (pa x) (d + 1)
theorem mDepth_e (pa : Nat → Nat) {k x d : Nat} (h : x = 1 ∨ k = 0) : mDepth pa k x d = d := by
  cases k with
  | zero => rfl
  | succ k => rw [mDepth, if_pos (h.resolve_right (by omega))]
theorem mDepth_s (pa : Nat → Nat) {k x d : Nat} (h : ¬ x = 1) (hk : 0 < k) : mDepth pa k x d = mDepth pa (k - 1) (pa x) (d + 1) := by
  cases k with
  | zero => omega
  | succ k => rw [mDepth, if_neg h]; rfl
set_option maxHeartbeats 4000000 in
set_option maxRecDepth 100000 in
theorem lp_X2_depthOf_4 {p : Program} {e : Env} {s : State} {m : MethodId} {args : Array Value} {below : List Frame} {meth : Method} {c : Code} {Q : State → Prop} (l : Launch) (g : va_G) (cI cJ cZ : ClassId) (h q1 q2 q3 q4 q5 q6 q7 n : Nat) (pa ch kd ad rq su un : Nat → Nat) (mk sp : Nat) (i : Nat) (hn : n < 2 ^ 31) (hi : i < n) (hpa : ∀ i, pa i < n) (rr : Nat) (C0 : cM p s m args meth c cX2_depthOf 4 (some .int) wsX2_depthOf RX2) (hk : kK g (kty cI cJ cZ) s) {H : Heap} {locs : List Loc} (hP : va_P g vwCl [(h, .inr (2, [.ref q1, .ref q2, .ref q3, .ref q4, .ref q5, .ref q6, .ref q7, .int (nI mk), .int (nI sp)])), (q1, .inl (cI, n, .inl (fun j => nI (pa j)))), (q2, .inl (cI, n, .inl (fun j => nI (ch j)))), (q3, .inl (cI, n, .inl (fun j => nI (kd j)))), (q4, .inl (cI, n, .inl (fun j => nI (ad j)))), (q5, .inl (cI, n, .inl (fun j => nI (rq j)))), (q6, .inl (cI, n, .inl (fun j => nI (su j)))), (q7, .inl (cI, n, .inl (fun j => nI (un j))))] H) (kk0 : ∀ (d : Nat), (d = rr) → ∀ (ls : Array Slot), lv_has ls 4 [(2, .int (nI d))] → W p l e (headSpec wsX2_depthOf ({ frames := 0, cells := 0, slots := 0, locals := 0 })).room s m args below meth c H locs 0 0 Q (F0 m 28 ls [])) :
    ∀ (K : Nat) (k x d : Nat), k < K → (d + k = 24) → (x < n) → (mDepth pa k x d = rr) → ∀ (ls : Array Slot), lv_has ls 4 [(0, .ref h), (2, .int (nI d)), (3, .int (nI x))] → W p l e (headSpec wsX2_depthOf ({ frames := 0, cells := 0, slots := 0, locals := 0 })).room s m args below meth c H locs 0 0 Q (F0 m 4 ls []) := by
  obtain ⟨hx, hb, hr, hml, hown, hts, hlocks⟩ := C0
  have hK := hk.1
  have hinX2 : ∀ w ∈ wsX20, w ∈ wsX2_depthOf := by decide +kernel
  intro K
  induction K with
  | zero =>
    intro k x d h0
    exact absurd h0 (Nat.not_lt_zero _)
  | succ K ih =>
    intro k x d hmu hf hx1 hR ls hl
    refine lv_iload_n hx hb dX2_depthOf_4 rfl (lv_at hl 2 rfl) ?_
    refine lv_iconst (v := nI 1) hx hb dX2_depthOf_5 (by decide) ?_
    refine n_icmp_eq (tgt := 28) hx hb dX2_depthOf_6 (by decide) (by first | assumption | omega) (by first | assumption | omega) (fun c4 => ?_) (fun c4 => ?_)
    · skip
      exact kk0 d (hR ▸ (mDepth_e pa (by omega)).symm) ls (lv_sub hl [1] rfl)
    · skip
      refine lv_iload_n hx hb dX2_depthOf_9 rfl (lv_at hl 1 rfl) ?_
      refine lv_bipush (v := nI 24) hx hb dX2_depthOf_10 (by decide) ?_
      refine n_icmp_ge (tgt := 28) hx hb dX2_depthOf_12 (by decide) (by first | assumption | omega) (by first | assumption | omega) (fun c5 => ?_) (fun c5 => ?_)
      · skip
        exact kk0 d (hR ▸ (mDepth_e pa (by omega)).symm) ls (lv_sub hl [1] rfl)
      · skip
        refine lv_iinc (v := nI (d + 1)) (lv' := [(2, .int (nI (d + 1))), (0, .ref h), (3, .int (nI x))]) hx hb dX2_depthOf_15 hl (k := 1) rfl (n_inc _ 1) (by decide) rfl (fun ls hl => ?_)
        refine lv_aload_n hx hb dX2_depthOf_18 rfl (lv_at hl 1 rfl) ?_
        refine va_get (D := g) (ci := 2) (v := .ref q1) (C := RX2) (T := TX2) (N := 9) hx hb hts hinX2 hown hK hP 0 rfl rfl 0 (by decide) (hts (.fieldLink RX2 11 "BuddyRoof$Tree" "parent" "[I") (by decide +kernel)) (fun _ h9 => h9) rfl dX2_depthOf_19 ?_
        refine lv_iload_n hx hb dX2_depthOf_22 rfl (lv_at hl 2 rfl) ?_
        refine n_ald (v := nI (pa x)) hx hb hK hP 1 0 rfl rfl (i := x) (by first | assumption | omega) (by first | assumption | omega) rfl dX2_depthOf_23 ?_
        have f6 := hpa x
        refine lv_istore_n (lv' := [(3, .int (nI (pa x))), (2, .int (nI (d + 1))), (0, .ref h)]) hx hb dX2_depthOf_24 rfl hl (by decide) rfl (fun ls hl => ?_)
        refine lv_goto (tgt := 4) hx hb dX2_depthOf_25 (by decide) ?_
        exact ih (k - 1) (pa x) (d + 1) (by omega) (by omega) (hpa x) (by rw [← hR]; exact (mDepth_s pa (by omega) (by omega)).symm) ls (lv_sub hl [2, 1, 0] rfl)

set_option maxHeartbeats 4000000 in
set_option maxRecDepth 100000 in
theorem c_X2_depthOf (l : Launch) (g : va_G) (cI cJ cZ : ClassId) (h q1 q2 q3 q4 q5 q6 q7 n : Nat) (pa ch kd ad rq su un : Nat → Nat) (mk sp : Nat) (i : Nat) (hn : n < 2 ^ 31) (hi : i < n) (hpa : ∀ i, pa i < n) : kR l g (kty cI cJ cZ) yX2_depthOf wsX2_depthOf ({ frames := 0, cells := 0, slots := 0, locals := 0 }) [.ref h, .int (nI i)] [(h, .inr (2, [.ref q1, .ref q2, .ref q3, .ref q4, .ref q5, .ref q6, .ref q7, .int (nI mk), .int (nI sp)])), (q1, .inl (cI, n, .inl (fun j => nI (pa j)))), (q2, .inl (cI, n, .inl (fun j => nI (ch j)))), (q3, .inl (cI, n, .inl (fun j => nI (kd j)))), (q4, .inl (cI, n, .inl (fun j => nI (ad j)))), (q5, .inl (cI, n, .inl (fun j => nI (rq j)))), (q6, .inl (cI, n, .inl (fun j => nI (su j)))), (q7, .inl (cI, n, .inl (fun j => nI (un j))))] (nI (mDepth pa 24 i 0)) := by
  refine Met.ofW (cc := cX2_depthOf) (maxL := 4) (ret := (some .int)) (by decide) rfl ?_
  intro p e s m args below meth c s₁ B hml hv
  obtain ⟨rfl, hP, hk⟩ := hv
  have hx := B.exec
  have hb := B.bytes
  have hr := B.returns
  have hts := atoms_spec (ws := wsX2_depthOf) B.pre
  have hown : s.vm.findClass RX2 = some m.cls := findClass_of_methodNamed B.named
  have hlocks := B.notSynchronized
  have hK := hk.1
  have hinX2 : ∀ w ∈ wsX20, w ∈ wsX2_depthOf := by decide +kernel
  have hl := lv_entry ([.ref h, .int (nI i)]) (n := 4) (Nat.le_of_ble_eq_true rfl)
  rw [lg_entry_eq]
  generalize (lg_sl ([.ref h, .int (nI i)]) ++ List.replicate (4 - (lg_sl ([.ref h, .int (nI i)])).length) Slot.unset).toArray = ls at hl ⊢
  have hl : lv_has ls 4 [(0, .ref h), (1, .int (nI i))] := hl
  refine lv_iconst (v := nI 0) hx hb dX2_depthOf_0 (by decide) ?_
  refine lv_istore_n (lv' := [(2, .int (nI 0)), (0, .ref h), (1, .int (nI i))]) hx hb dX2_depthOf_1 rfl hl (by decide) rfl (fun ls hl => ?_)
  refine lv_iload_n hx hb dX2_depthOf_2 rfl (lv_at hl 2 rfl) ?_
  refine lv_istore_n (lv' := [(3, .int (nI i)), (2, .int (nI 0)), (0, .ref h), (1, .int (nI i))]) hx hb dX2_depthOf_3 rfl hl (by decide) rfl (fun ls hl => ?_)
  refine lp_X2_depthOf_4 l g cI cJ cZ h q1 q2 q3 q4 q5 q6 q7 n pa ch kd ad rq su un mk sp i hn hi hpa (mDepth pa 24 i 0) ⟨hx, hb, hr, hml, hown, hts, hlocks⟩ hk hP (fun d hd ls hl => ?_) _ 24 i 0 (Nat.lt_succ_self _) rfl hi rfl ls (lv_sub hl [2, 1, 0] rfl)
  · skip
    refine lv_iload_n hx hb dX2_depthOf_28 rfl (lv_at hl 0 rfl) ?_
    exact k_retR (v := nI d) hx hb hr hlocks (by rw [hd]) dX2_depthOf_29
