set_option maxHeartbeats 4000000 in
set_option maxRecDepth 100000 in
theorem lp_X4_blockOf_2 {p : Program} {e : Env} {s : State} {m : MethodId} {args : Array Value} {below : List Frame} {meth : Method} {c : Code} {Q : State → Prop} (l : Launch) (g : va_G) (cI cJ cZ : ClassId) (rm a1 a2 a3 a4 a5 a6 a7 a8 a9 b1 b2 b3 b4 b5 b6 b7 b8 b9 : Nat) (cd tp mn bl jn sn wt wm wg wo wd : Nat) (ba : Nat → Nat) (v : Int32) (b0 : Nat) (hbl : bl ≤ 256) (hb0 : b0 < bl) (hbv : nI (ba b0) = v) (hbn : ∀ j, j < b0 → ¬ nI (ba j) = v)  (C0 : cM p s m args meth c cX4_blockOf 3 (some .int) wsX4_blockOf RX4) (hk : kK g (kty cI cJ cZ) s) {H : Heap} {locs : List Loc} (hP : va_P g vwCl [(rm, .inr (4, [.int (nI cd), .ref a1, .ref a2, .ref a3, .ref a4, .ref a5, .ref a6, .ref a7, .ref a8, .ref a9, .int (nI tp), .int (nI mn), .ref b1, .int (nI bl), .ref b2, .ref b3, .int (nI jn), .int (nI sn), .ref b4, .ref b5, .ref b6, .ref b7, .ref b8, .int (nI wt), .int (nI wm), .int (nI wg), .long (lN wo), .int (nI wd), .ref b9])), (b2, .inl (cI, 256, .inl (fun j => nI (ba j))))] H) (kk0 : ∀ (j : Nat), (j = b0) → ∀ (ls : Array Slot), lv_has ls 3 [(2, .int (nI j))] → W p l e (headSpec wsX4_blockOf ({ frames := 0, cells := 0, slots := 0, locals := 0 })).room s m args below meth c H locs 0 0 Q (F0 m 20 ls [])) :
    ∀ (K : Nat) (j : Nat), (b0 - j) < K → (j ≤ b0) → ∀ (ls : Array Slot), lv_has ls 3 [(0, .ref rm), (1, .int v), (2, .int (nI j))] → W p l e (headSpec wsX4_blockOf ({ frames := 0, cells := 0, slots := 0, locals := 0 })).room s m args below meth c H locs 0 0 Q (F0 m 2 ls []) := by
  obtain ⟨hx, hb, hr, hml, hown, hts, hlocks⟩ := C0
  have hK := hk.1
  have hinX4 : ∀ w ∈ wsX40, w ∈ wsX4_blockOf := by decide +kernel
  intro K
  induction K with
  | zero =>
    intro j h0
    exact absurd h0 (Nat.not_lt_zero _)
  | succ K ih =>
    intro j hmu hj ls hl
    refine lv_iload_n hx hb dX4_blockOf_2 rfl (lv_at hl 2 rfl) ?_
    refine lv_aload_n hx hb dX4_blockOf_3 rfl (lv_at hl 0 rfl) ?_
    refine va_get (D := g) (ci := 4) (v := .int (nI bl)) (C := RX4) (T := TX4) (N := 29) hx hb hts hinX4 hown hK hP 0 rfl rfl 13 (by decide) (hts (.fieldLink RX4 103 "BuddyRoofModel" "blocks" "I") (by decide +kernel)) (fun _ h9 => h9) rfl dX4_blockOf_4 ?_
    refine n_icmp_ge (tgt := 28) hx hb dX4_blockOf_7 (by decide) (by omega) (by omega) (fun c3 => ?_) (fun c3 => ?_)
    · exact (by exfalso; omega)
    · skip
      refine lv_aload_n hx hb dX4_blockOf_10 rfl (lv_at hl 0 rfl) ?_
      refine va_get (D := g) (ci := 4) (v := .ref b2) (C := RX4) (T := TX4) (N := 29) hx hb hts hinX4 hown hK hP 0 rfl rfl 14 (by decide) (hts (.fieldLink RX4 42 "BuddyRoofModel" "blockAt" "[I") (by decide +kernel)) (fun _ h9 => h9) rfl dX4_blockOf_11 ?_
      refine lv_iload_n hx hb dX4_blockOf_14 rfl (lv_at hl 2 rfl) ?_
      refine n_ald (v := nI (ba j)) hx hb hK hP 1 0 rfl rfl (i := j) (by omega) (by decide) (by exact rfl) dX4_blockOf_15 ?_
      refine lv_iload_n hx hb dX4_blockOf_16 rfl (lv_at hl 1 rfl) ?_
      refine lv_icmp_ne (tgt := 22) hx hb dX4_blockOf_17 (by decide) (fun c4 => ?_) (fun c4 => ?_)
      · skip
        have hjn : j ≠ b0 := fun e9 => c4 (by rw [e9]; exact hbv)
        refine lv_iinc (v := nI (j + 1)) (lv' := [(2, .int (nI (j + 1))), (0, .ref rm), (1, .int v)]) hx hb dX4_blockOf_22 hl (k := 2) rfl (n_inc _ 1) (by decide) rfl (fun ls hl => ?_)
        refine lv_goto (tgt := 2) hx hb dX4_blockOf_25 (by decide) ?_
        exact ih (j + 1) (by omega) (by omega) ls (lv_sub hl [1, 2, 0] rfl)
      · skip
        exact kk0 j (Classical.byContradiction fun e9 => hbn j (by omega) c4) ls (lv_sub hl [2] rfl)

set_option maxHeartbeats 4000000 in
set_option maxRecDepth 100000 in
theorem c_X4_blockOf (l : Launch) (g : va_G) (cI cJ cZ : ClassId) (rm a1 a2 a3 a4 a5 a6 a7 a8 a9 b1 b2 b3 b4 b5 b6 b7 b8 b9 : Nat) (cd tp mn bl jn sn wt wm wg wo wd : Nat) (ba : Nat → Nat) (v : Int32) (b0 : Nat) (hbl : bl ≤ 256) (hb0 : b0 < bl) (hbv : nI (ba b0) = v) (hbn : ∀ j, j < b0 → ¬ nI (ba j) = v) : kR l g (kty cI cJ cZ) yX4_blockOf wsX4_blockOf ({ frames := 0, cells := 0, slots := 0, locals := 0 }) [.ref rm, .int v] [(rm, .inr (4, [.int (nI cd), .ref a1, .ref a2, .ref a3, .ref a4, .ref a5, .ref a6, .ref a7, .ref a8, .ref a9, .int (nI tp), .int (nI mn), .ref b1, .int (nI bl), .ref b2, .ref b3, .int (nI jn), .int (nI sn), .ref b4, .ref b5, .ref b6, .ref b7, .ref b8, .int (nI wt), .int (nI wm), .int (nI wg), .long (lN wo), .int (nI wd), .ref b9])), (b2, .inl (cI, 256, .inl (fun j => nI (ba j))))] (nI b0) := by
  refine Met.ofW (cc := cX4_blockOf) (maxL := 3) (ret := (some .int)) (by decide) rfl ?_
  intro p e s m args below meth c s₁ B hml hv
  obtain ⟨rfl, hP, hk⟩ := hv
  have hx := B.exec
  have hb := B.bytes
  have hr := B.returns
  have hts := atoms_spec (ws := wsX4_blockOf) B.pre
  have hown : s.vm.findClass RX4 = some m.cls := findClass_of_methodNamed B.named
  have hlocks := B.notSynchronized
  have hK := hk.1
  have hinX4 : ∀ w ∈ wsX40, w ∈ wsX4_blockOf := by decide +kernel
  have hl := lv_entry ([.ref rm, .int v]) (n := 3) (Nat.le_of_ble_eq_true rfl)
  rw [lg_entry_eq]
  generalize (lg_sl ([.ref rm, .int v]) ++ List.replicate (3 - (lg_sl ([.ref rm, .int v])).length) Slot.unset).toArray = ls at hl ⊢
  have hl : lv_has ls 3 [(0, .ref rm), (1, .int v)] := hl
  refine lv_iconst (v := nI 0) hx hb dX4_blockOf_0 (by decide) ?_
  refine lv_istore_n (lv' := [(2, .int (nI 0)), (0, .ref rm), (1, .int v)]) hx hb dX4_blockOf_1 rfl hl (by decide) rfl (fun ls hl => ?_)
  refine lp_X4_blockOf_2 l g cI cJ cZ rm a1 a2 a3 a4 a5 a6 a7 a8 a9 b1 b2 b3 b4 b5 b6 b7 b8 b9 cd tp mn bl jn sn wt wm wg wo wd ba v b0 hbl hb0 hbv hbn  ⟨hx, hb, hr, hml, hown, hts, hlocks⟩ hk hP (fun j hj ls hl => ?_) _ 0 (Nat.lt_succ_self _) (Nat.zero_le _) ls (lv_sub hl [1, 2, 0] rfl)
  · skip
    refine lv_iload_n hx hb dX4_blockOf_20 rfl (lv_at hl 0 rfl) ?_
    exact k_retR (v := nI j) hx hb hr hlocks (by rw [hj]) dX4_blockOf_21
set_option maxHeartbeats 4000000 in
set_option maxRecDepth 100000 in
theorem lp_X4_blockOf_n_2 {p : Program} {e : Env} {s : State} {m : MethodId} {args : Array Value} {below : List Frame} {meth : Method} {c : Code} {Q : State → Prop} (l : Launch) (g : va_G) (cI cJ cZ : ClassId) (rm a1 a2 a3 a4 a5 a6 a7 a8 a9 b1 b2 b3 b4 b5 b6 b7 b8 b9 : Nat) (cd tp mn bl jn sn wt wm wg wo wd : Nat) (ba : Nat → Nat) (v : Int32) (hbl : bl ≤ 256) (hbn : ∀ j, j < bl → ¬ nI (ba j) = v)  (C0 : cM p s m args meth c cX4_blockOf 3 (some .int) wsX4_blockOf RX4) (hk : kK g (kty cI cJ cZ) s) {H : Heap} {locs : List Loc} (hP : va_P g vwCl [(rm, .inr (4, [.int (nI cd), .ref a1, .ref a2, .ref a3, .ref a4, .ref a5, .ref a6, .ref a7, .ref a8, .ref a9, .int (nI tp), .int (nI mn), .ref b1, .int (nI bl), .ref b2, .ref b3, .int (nI jn), .int (nI sn), .ref b4, .ref b5, .ref b6, .ref b7, .ref b8, .int (nI wt), .int (nI wm), .int (nI wg), .long (lN wo), .int (nI wd), .ref b9])), (b2, .inl (cI, 256, .inl (fun j => nI (ba j))))] H) (kk0 :  ∀ (ls : Array Slot), lv_has ls 3 [(0, .ref rm)] → W p l e (headSpec wsX4_blockOf ({ frames := 0, cells := 0, slots := 0, locals := 0 })).room s m args below meth c H locs 0 0 Q (F0 m 28 ls [])) :
    ∀ (K : Nat) (j : Nat), (bl - j) < K → (j ≤ bl) → ∀ (ls : Array Slot), lv_has ls 3 [(0, .ref rm), (1, .int v), (2, .int (nI j))] → W p l e (headSpec wsX4_blockOf ({ frames := 0, cells := 0, slots := 0, locals := 0 })).room s m args below meth c H locs 0 0 Q (F0 m 2 ls []) := by
  obtain ⟨hx, hb, hr, hml, hown, hts, hlocks⟩ := C0
  have hK := hk.1
  have hinX4 : ∀ w ∈ wsX40, w ∈ wsX4_blockOf := by decide +kernel
  intro K
  induction K with
  | zero =>
    intro j h0
    exact absurd h0 (Nat.not_lt_zero _)
  | succ K ih =>
    intro j hmu hj ls hl
    refine lv_iload_n hx hb dX4_blockOf_2 rfl (lv_at hl 2 rfl) ?_
    refine lv_aload_n hx hb dX4_blockOf_3 rfl (lv_at hl 0 rfl) ?_
    refine va_get (D := g) (ci := 4) (v := .int (nI bl)) (C := RX4) (T := TX4) (N := 29) hx hb hts hinX4 hown hK hP 0 rfl rfl 13 (by decide) (hts (.fieldLink RX4 103 "BuddyRoofModel" "blocks" "I") (by decide +kernel)) (fun _ h9 => h9) rfl dX4_blockOf_4 ?_
    refine n_icmp_ge (tgt := 28) hx hb dX4_blockOf_7 (by decide) (by omega) (by omega) (fun c3 => ?_) (fun c3 => ?_)
    · skip
      exact kk0   ls (lv_sub hl [0] rfl)
    · skip
      refine lv_aload_n hx hb dX4_blockOf_10 rfl (lv_at hl 0 rfl) ?_
      refine va_get (D := g) (ci := 4) (v := .ref b2) (C := RX4) (T := TX4) (N := 29) hx hb hts hinX4 hown hK hP 0 rfl rfl 14 (by decide) (hts (.fieldLink RX4 42 "BuddyRoofModel" "blockAt" "[I") (by decide +kernel)) (fun _ h9 => h9) rfl dX4_blockOf_11 ?_
      refine lv_iload_n hx hb dX4_blockOf_14 rfl (lv_at hl 2 rfl) ?_
      refine n_ald (v := nI (ba j)) hx hb hK hP 1 0 rfl rfl (i := j) (by omega) (by decide) (by exact rfl) dX4_blockOf_15 ?_
      refine lv_iload_n hx hb dX4_blockOf_16 rfl (lv_at hl 1 rfl) ?_
      refine lv_icmp_ne (tgt := 22) hx hb dX4_blockOf_17 (by decide) (fun c4 => ?_) (fun c4 => ?_)
      · skip
        refine lv_iinc (v := nI (j + 1)) (lv' := [(2, .int (nI (j + 1))), (0, .ref rm), (1, .int v)]) hx hb dX4_blockOf_22 hl (k := 2) rfl (n_inc _ 1) (by decide) rfl (fun ls hl => ?_)
        refine lv_goto (tgt := 2) hx hb dX4_blockOf_25 (by decide) ?_
        exact ih (j + 1) (by omega) (by omega) ls (lv_sub hl [1, 2, 0] rfl)
      · exact (by exact absurd c4 (hbn j (by omega)))

set_option maxHeartbeats 4000000 in
set_option maxRecDepth 100000 in
theorem c_X4_blockOf_n (l : Launch) (g : va_G) (cI cJ cZ : ClassId) (rm a1 a2 a3 a4 a5 a6 a7 a8 a9 b1 b2 b3 b4 b5 b6 b7 b8 b9 : Nat) (cd tp mn bl jn sn wt wm wg wo wd : Nat) (ba : Nat → Nat) (v : Int32) (hbl : bl ≤ 256) (hbn : ∀ j, j < bl → ¬ nI (ba j) = v) : kR l g (kty cI cJ cZ) yX4_blockOf wsX4_blockOf ({ frames := 0, cells := 0, slots := 0, locals := 0 }) [.ref rm, .int v] [(rm, .inr (4, [.int (nI cd), .ref a1, .ref a2, .ref a3, .ref a4, .ref a5, .ref a6, .ref a7, .ref a8, .ref a9, .int (nI tp), .int (nI mn), .ref b1, .int (nI bl), .ref b2, .ref b3, .int (nI jn), .int (nI sn), .ref b4, .ref b5, .ref b6, .ref b7, .ref b8, .int (nI wt), .int (nI wm), .int (nI wg), .long (lN wo), .int (nI wd), .ref b9])), (b2, .inl (cI, 256, .inl (fun j => nI (ba j))))] (-1) := by
  refine Met.ofW (cc := cX4_blockOf) (maxL := 3) (ret := (some .int)) (by decide) rfl ?_
  intro p e s m args below meth c s₁ B hml hv
  obtain ⟨rfl, hP, hk⟩ := hv
  have hx := B.exec
  have hb := B.bytes
  have hr := B.returns
  have hts := atoms_spec (ws := wsX4_blockOf) B.pre
  have hown : s.vm.findClass RX4 = some m.cls := findClass_of_methodNamed B.named
  have hlocks := B.notSynchronized
  have hK := hk.1
  have hinX4 : ∀ w ∈ wsX40, w ∈ wsX4_blockOf := by decide +kernel
  have hl := lv_entry ([.ref rm, .int v]) (n := 3) (Nat.le_of_ble_eq_true rfl)
  rw [lg_entry_eq]
  generalize (lg_sl ([.ref rm, .int v]) ++ List.replicate (3 - (lg_sl ([.ref rm, .int v])).length) Slot.unset).toArray = ls at hl ⊢
  have hl : lv_has ls 3 [(0, .ref rm), (1, .int v)] := hl
  refine lv_iconst (v := nI 0) hx hb dX4_blockOf_0 (by decide) ?_
  refine lv_istore_n (lv' := [(2, .int (nI 0)), (0, .ref rm), (1, .int v)]) hx hb dX4_blockOf_1 rfl hl (by decide) rfl (fun ls hl => ?_)
  refine lp_X4_blockOf_n_2 l g cI cJ cZ rm a1 a2 a3 a4 a5 a6 a7 a8 a9 b1 b2 b3 b4 b5 b6 b7 b8 b9 cd tp mn bl jn sn wt wm wg wo wd ba v hbl hbn  ⟨hx, hb, hr, hml, hown, hts, hlocks⟩ hk hP (fun   ls hl => ?_) _ 0 (Nat.lt_succ_self _) (Nat.zero_le _) ls (lv_sub hl [1, 2, 0] rfl)
  · skip
    refine lv_iconst (v := (-1)) hx hb dX4_blockOf_28 (by decide) ?_
    exact k_retR (v := -1) hx hb hr hlocks (rfl) dX4_blockOf_29
set_option maxHeartbeats 4000000 in
set_option maxRecDepth 100000 in
theorem lp_X4_nodeAt_2 {p : Program} {e : Env} {s : State} {m : MethodId} {args : Array Value} {below : List Frame} {meth : Method} {c : Code} {Q : State → Prop} (l : Launch) (g : va_G) (cI cJ cZ : ClassId) (rm a1 a2 a3 a4 a5 a6 a7 a8 a9 b1 b2 b3 b4 b5 b6 b7 b8 b9 : Nat) (cd tp bl jn sn wt wm wg wo wd : Nat) (S L R : Nat → Nat) (rc : Nat → Bool) (sp : Nat → Bool) (rq nd : Nat → Nat) (y iy : Nat) (hR : RuleOK S L R rc tp) (hT : TOK tp S L R sp rq) (hW : nW tp S L R rq nd (lvs sp 1)) (hlen : (lvs sp 1).length ≤ 14000) (hiy : (lvs sp 1)[iy]? = some y)  (C0 : cM p s m args meth c cX4_nodeAt 3 (some .int) wsX4_nodeAt RX4) (hk : kK g (kty cI cJ cZ) s) {H : Heap} {locs : List Loc} (hP : va_P g vwCl [(rm, .inr (4, [.int (nI cd), .ref a1, .ref a2, .ref a3, .ref a4, .ref a5, .ref a6, .ref a7, .ref a8, .ref a9, .int (nI tp), .int (nI ((lvs sp 1).length)), .ref b1, .int (nI bl), .ref b2, .ref b3, .int (nI jn), .int (nI sn), .ref b4, .ref b5, .ref b6, .ref b7, .ref b8, .int (nI wt), .int (nI wm), .int (nI wg), .long (lN wo), .int (nI wd), .ref b9])), (b1, .inl (cJ, 14000, .inr (.inl (fun j => lN (nd j)))))] H) (kk0 : ∀ (j : Nat), (j = iy) → ∀ (ls : Array Slot), lv_has ls 3 [(2, .int (nI j))] → W p l e (headSpec wsX4_nodeAt ({ frames := 1, cells := 0, slots := 0, locals := 21 })).room s m args below meth c H locs 0 0 Q (F0 m 17 ls [])) :
    ∀ (K : Nat) (j : Nat), (iy - j) < K → (j ≤ iy) → ∀ (ls : Array Slot), lv_has ls 3 [(0, .ref rm), (1, .int (nI (adr tp S L R y))), (2, .int (nI j))] → W p l e (headSpec wsX4_nodeAt ({ frames := 1, cells := 0, slots := 0, locals := 21 })).room s m args below meth c H locs 0 0 Q (F0 m 2 ls []) := by
  obtain ⟨hx, hb, hr, hml, hown, hts, hlocks⟩ := C0
  have hK := hk.1
  intro K
  induction K with
  | zero =>
    intro j h0
    exact absurd h0 (Nat.not_lt_zero _)
  | succ K ih =>
    intro j hmu hj ls hl
    have hyl := at_lt hiy
    obtain ⟨pp, pp_1, pp_2, pp_3, pp_4, pp_5, pp_6, pp_7, pp_8, pp_9, pp_10⟩ := nW_rd (i := j) hR hT hW hlen (by omega)
    have hy2 := adr_lt hR hT (lvs_mem hR hT 1 ex_1 y (List.mem_of_getElem? hiy)).1
    have hp2 := adr_lt hR hT pp_2
    refine lv_aload_n hx hb dX4_nodeAt_2 rfl (lv_at hl 0 rfl) ?_
    refine lv_iload_n hx hb dX4_nodeAt_3 rfl (lv_at hl 2 rfl) ?_
    refine k_goR (W.runV (As := [.int (nI j)]) (rest := []) ⟨hx, hb, hml, hown, hts⟩ (c_X4_address l g cI cJ cZ rm a1 a2 a3 a4 a5 a6 a7 a8 a9 b1 b2 b3 b4 b5 b6 b7 b8 b9 cd tp ((lvs sp 1).length) bl jn sn wt wm wg wo wd nd j pp_4 pp_5) (cwV 1 hts gX4_nodeAt_X4_address rfl rfl rfl (by decide +kernel) ⟨Nat.le_of_ble_eq_true rfl, Nat.le_of_ble_eq_true rfl⟩) (k_preRV hk hP [0, 1] rfl (ci := 4) (q0 := 0) rfl rfl) rfl rfl hl.1 rfl (lv_room (Nat.le_of_ble_eq_true rfl)) dX4_nodeAt_4 ⟨by first | exact Nat.zero_le _ | omega, by first | exact Nat.zero_le _ | omega⟩) ?_
    refine n_top _ (nI (adr tp S L R pp)) (congrArg nI pp_6) ?_
    refine lv_iload_n hx hb dX4_nodeAt_7 rfl (lv_at hl 1 rfl) ?_
    refine n_icmp_eq (tgt := 17) hx hb dX4_nodeAt_8 (by decide) (by first | assumption | omega) (by first | assumption | omega) (fun c2 => ?_) (fun c2 => ?_)
    · skip
      exact kk0 j (by have q9 := adr_inj hR hT (List.mem_of_getElem? pp_1) (List.mem_of_getElem? hiy) c2; rw [q9] at pp_1; have q8 := plc_at (lvs_nodup hR hT ex_1) pp_1; have q7 := plc_at (lvs_nodup hR hT ex_1) hiy; omega) ls (lv_sub hl [2] rfl)
    · skip
      have hjn : j ≠ iy := fun e9 => c2 (by rw [e9, hiy] at pp_1; rw [Option.some.inj pp_1])
      refine lv_iinc (v := nI (j + 1)) (lv' := [(2, .int (nI (j + 1))), (0, .ref rm), (1, .int (nI (adr tp S L R y)))]) hx hb dX4_nodeAt_11 hl (k := 2) rfl (n_inc _ 1) (by decide) rfl (fun ls hl => ?_)
      refine lv_goto (tgt := 2) hx hb dX4_nodeAt_14 (by decide) ?_
      exact ih (j + 1) (by omega) (by omega) ls (lv_sub hl [1, 2, 0] rfl)

set_option maxHeartbeats 4000000 in
set_option maxRecDepth 100000 in
theorem c_X4_nodeAt (l : Launch) (g : va_G) (cI cJ cZ : ClassId) (rm a1 a2 a3 a4 a5 a6 a7 a8 a9 b1 b2 b3 b4 b5 b6 b7 b8 b9 : Nat) (cd tp bl jn sn wt wm wg wo wd : Nat) (S L R : Nat → Nat) (rc : Nat → Bool) (sp : Nat → Bool) (rq nd : Nat → Nat) (y iy : Nat) (hR : RuleOK S L R rc tp) (hT : TOK tp S L R sp rq) (hW : nW tp S L R rq nd (lvs sp 1)) (hlen : (lvs sp 1).length ≤ 14000) (hiy : (lvs sp 1)[iy]? = some y) : kR l g (kty cI cJ cZ) yX4_nodeAt wsX4_nodeAt ({ frames := 1, cells := 0, slots := 0, locals := 21 }) [.ref rm, .int (nI (adr tp S L R y))] [(rm, .inr (4, [.int (nI cd), .ref a1, .ref a2, .ref a3, .ref a4, .ref a5, .ref a6, .ref a7, .ref a8, .ref a9, .int (nI tp), .int (nI ((lvs sp 1).length)), .ref b1, .int (nI bl), .ref b2, .ref b3, .int (nI jn), .int (nI sn), .ref b4, .ref b5, .ref b6, .ref b7, .ref b8, .int (nI wt), .int (nI wm), .int (nI wg), .long (lN wo), .int (nI wd), .ref b9])), (b1, .inl (cJ, 14000, .inr (.inl (fun j => lN (nd j)))))] (nI iy) := by
  refine Met.ofW (cc := cX4_nodeAt) (maxL := 3) (ret := (some .int)) (by decide) rfl ?_
  intro p e s m args below meth c s₁ B hml hv
  obtain ⟨rfl, hP, hk⟩ := hv
  have hx := B.exec
  have hb := B.bytes
  have hr := B.returns
  have hts := atoms_spec (ws := wsX4_nodeAt) B.pre
  have hown : s.vm.findClass RX4 = some m.cls := findClass_of_methodNamed B.named
  have hlocks := B.notSynchronized
  have hK := hk.1
  have hl := lv_entry ([.ref rm, .int (nI (adr tp S L R y))]) (n := 3) (Nat.le_of_ble_eq_true rfl)
  rw [lg_entry_eq]
  generalize (lg_sl ([.ref rm, .int (nI (adr tp S L R y))]) ++ List.replicate (3 - (lg_sl ([.ref rm, .int (nI (adr tp S L R y))])).length) Slot.unset).toArray = ls at hl ⊢
  have hl : lv_has ls 3 [(0, .ref rm), (1, .int (nI (adr tp S L R y)))] := hl
  refine lv_iconst (v := nI 0) hx hb dX4_nodeAt_0 (by decide) ?_
  refine lv_istore_n (lv' := [(2, .int (nI 0)), (0, .ref rm), (1, .int (nI (adr tp S L R y)))]) hx hb dX4_nodeAt_1 rfl hl (by decide) rfl (fun ls hl => ?_)
  refine lp_X4_nodeAt_2 l g cI cJ cZ rm a1 a2 a3 a4 a5 a6 a7 a8 a9 b1 b2 b3 b4 b5 b6 b7 b8 b9 cd tp bl jn sn wt wm wg wo wd S L R rc sp rq nd y iy hR hT hW hlen hiy  ⟨hx, hb, hr, hml, hown, hts, hlocks⟩ hk hP (fun j hj ls hl => ?_) _ 0 (Nat.lt_succ_self _) (Nat.zero_le _) ls (lv_sub hl [1, 2, 0] rfl)
  · skip
    refine lv_iload_n hx hb dX4_nodeAt_17 rfl (lv_at hl 0 rfl) ?_
    exact k_retR (v := nI j) hx hb hr hlocks (by rw [hj]) dX4_nodeAt_18
set_option maxHeartbeats 4000000 in
set_option maxRecDepth 100000 in
theorem lp_X4_freeBlock_65 {p : Program} {e : Env} {s : State} {m : MethodId} {args : Array Value} {below : List Frame} {meth : Method} {c : Code} {Q : State → Prop} (l : Launch) (g : va_G) (cI cJ cZ : ClassId) (rm a1 a2 a3 a4 a5 a6 a7 a8 a9 b1 b2 b3 b4 b5 b6 b7 b8 b9 : Nat) (cd tp bl jn sn wt wm wg wo wd : Nat) (sz lf rt : Nat → Int32) (S L R : Nat → Nat) (rc : Nat → Bool) (sp0 : Nat → Bool) (rq0 nd0 : Nat → Nat) (kp ba rv : Nat → Nat) (b0 y : Nat) (hR : RuleOK S L R rc tp) (hT0 : TOK tp S L R sp0 rq0) (hW0 : nW tp S L R rq0 nd0 (lvs sp0 1)) (hlen0 : (lvs sp0 1).length ≤ 14000) (hrl : rOK S L R rc sz lf rt) (hkp : ∀ j, kp j < 2 ^ 31) (hbl : bl ≤ 256) (hb0 : b0 < bl) (hba : ba b0 = adr tp S L R y) (hry : 0 < rq0 y) (rq : Nat → Nat) (rr : (Nat → Bool) × Nat × Nat) (C0 : cM p s m args meth c cX4_freeBlock 6 none wsX4_freeBlock RX4) (hk : kK g (kty cI cJ cZ) s) {A : Nat → Prop} {H0 : Heap} (hA : ∀ q : Nat, H0.size ≤ q → A q) (kk0 : ∀ (i x j : Nat) (sp : Nat → Bool) (nd : Nat → Nat), (TOK tp S L R sp rq) → (nW tp S L R rq nd (lvs sp 1)) → ((lvs sp 1).length ≤ 14000) → ((sp, x, j) = rr) → ∀ (H : Heap) (locs : List Loc), va_P g vwCl [(rm, .inr (4, [.int (nI cd), .ref a1, .ref a2, .ref a3, .ref a4, .ref a5, .ref a6, .ref a7, .ref a8, .ref a9, .int (nI tp), .int (nI ((lvs sp 1).length)), .ref b1, .int (nI (bl - 1)), .ref b2, .ref b3, .int (nI (jn + j)), .int (nI sn), .ref b4, .ref b5, .ref b6, .ref b7, .ref b8, .int (nI wt), .int (nI wm), .int (nI wg), .long (lN wo), .int (nI wd), .ref b9])), (b1, .inl (cJ, 14000, .inr (.inl (fun j => lN (nd j))))), (a4, .inl (cI, 25, .inl sz)), (a5, .inl (cI, 25, .inl lf)), (a6, .inl (cI, 25, .inl rt)), (a9, .inl (cI, 25, .inl (fun j => nI (kp j)))), (b2, .inl (cI, 256, .inl (fun j => nI ((upN ba b0 (ba (bl - 1))) j)))), (b3, .inl (cI, 256, .inl (fun j => nI ((upN rv b0 (rv (bl - 1))) j))))] H → va_D A [(rm, .inr (4, [.int (nI cd), .ref a1, .ref a2, .ref a3, .ref a4, .ref a5, .ref a6, .ref a7, .ref a8, .ref a9, .int (nI tp), .int (nI ((lvs sp 1).length)), .ref b1, .int (nI (bl - 1)), .ref b2, .ref b3, .int (nI (jn + j)), .int (nI sn), .ref b4, .ref b5, .ref b6, .ref b7, .ref b8, .int (nI wt), .int (nI wm), .int (nI wg), .long (lN wo), .int (nI wd), .ref b9])), (b1, .inl (cJ, 14000, .inr (.inl (fun j => lN (nd j))))), (a4, .inl (cI, 25, .inl sz)), (a5, .inl (cI, 25, .inl lf)), (a6, .inl (cI, 25, .inl rt)), (a9, .inl (cI, 25, .inl (fun j => nI (kp j)))), (b2, .inl (cI, 256, .inl (fun j => nI ((upN ba b0 (ba (bl - 1))) j)))), (b3, .inl (cI, 256, .inl (fun j => nI ((upN rv b0 (rv (bl - 1))) j))))] → va_S A H0 H locs → ∀ (ls : Array Slot), lv_has ls 6 [(0, .ref rm)] → W p l e (headSpec wsX4_freeBlock ({ frames := 2, cells := 0, slots := 0, locals := 48 })).room s m args below meth c H locs 0 0 Q (F0 m 173 ls [])) :
    ∀ (K : Nat) (i x j k : Nat) (sp : Nat → Bool) (nd : Nat → Nat), k < K → (j + k = 24) → (dep x + j ≤ 23) → (TOK tp S L R sp rq) → (nW tp S L R rq nd (lvs sp 1)) → ((lvs sp 1).length ≤ 14000) → ((lvs sp 1)[i]? = some x) → (rq x = 0) → (aUp (cls tp L R) kp rq k (sp, x, j) = rr) → ∀ (H : Heap) (locs : List Loc), va_P g vwCl [(rm, .inr (4, [.int (nI cd), .ref a1, .ref a2, .ref a3, .ref a4, .ref a5, .ref a6, .ref a7, .ref a8, .ref a9, .int (nI tp), .int (nI ((lvs sp 1).length)), .ref b1, .int (nI (bl - 1)), .ref b2, .ref b3, .int (nI (jn + j)), .int (nI sn), .ref b4, .ref b5, .ref b6, .ref b7, .ref b8, .int (nI wt), .int (nI wm), .int (nI wg), .long (lN wo), .int (nI wd), .ref b9])), (b1, .inl (cJ, 14000, .inr (.inl (fun j => lN (nd j))))), (a4, .inl (cI, 25, .inl sz)), (a5, .inl (cI, 25, .inl lf)), (a6, .inl (cI, 25, .inl rt)), (a9, .inl (cI, 25, .inl (fun j => nI (kp j)))), (b2, .inl (cI, 256, .inl (fun j => nI ((upN ba b0 (ba (bl - 1))) j)))), (b3, .inl (cI, 256, .inl (fun j => nI ((upN rv b0 (rv (bl - 1))) j))))] H → va_D A [(rm, .inr (4, [.int (nI cd), .ref a1, .ref a2, .ref a3, .ref a4, .ref a5, .ref a6, .ref a7, .ref a8, .ref a9, .int (nI tp), .int (nI ((lvs sp 1).length)), .ref b1, .int (nI (bl - 1)), .ref b2, .ref b3, .int (nI (jn + j)), .int (nI sn), .ref b4, .ref b5, .ref b6, .ref b7, .ref b8, .int (nI wt), .int (nI wm), .int (nI wg), .long (lN wo), .int (nI wd), .ref b9])), (b1, .inl (cJ, 14000, .inr (.inl (fun j => lN (nd j))))), (a4, .inl (cI, 25, .inl sz)), (a5, .inl (cI, 25, .inl lf)), (a6, .inl (cI, 25, .inl rt)), (a9, .inl (cI, 25, .inl (fun j => nI (kp j)))), (b2, .inl (cI, 256, .inl (fun j => nI ((upN ba b0 (ba (bl - 1))) j)))), (b3, .inl (cI, 256, .inl (fun j => nI ((upN rv b0 (rv (bl - 1))) j))))] → va_S A H0 H locs →∀ (ls : Array Slot), lv_has ls 6 [(0, .ref rm), (2, .int (nI i)), (3, .int (nI 1))] → W p l e (headSpec wsX4_freeBlock ({ frames := 2, cells := 0, slots := 0, locals := 48 })).room s m args below meth c H locs 0 0 Q (F0 m 65 ls []) := by
  obtain ⟨hx, hb, hr, hml, hown, hts, hlocks⟩ := C0
  have hK := hk.1
  have hinX4 : ∀ w ∈ wsX40, w ∈ wsX4_freeBlock := by decide +kernel
  intro K
  induction K with
  | zero =>
    intro i x j k sp nd h0
    exact absurd h0 (Nat.not_lt_zero _)
  | succ K ih =>
    intro i x j k sp nd hmu hf hdx hT hW hlen hix hrx hZ H locs hP hD hS ls hl
    have hi9 := at_lt hix
    have hlm := lvs_mem hR hT 1 ex_1 x (List.mem_of_getElem? hix)
    have hlx := hlm.1
    have hls := hlm.2
    have hck := cls_ok hR hT hlx
    obtain ⟨pp, pp_1, pp_2, pp_3, pp_4, pp_5, pp_6, pp_7, pp_8, pp_9, pp_10⟩ := nW_rd (i := i) hR hT hW hlen hi9
    obtain rfl : x = pp := by rw [hix] at pp_1; exact Option.some.inj pp_1
    refine lv_iload_n hx hb dX4_freeBlock_65 rfl (lv_at hl 2 rfl) ?_
    refine n_if_eq (tgt := 173) hx hb dX4_freeBlock_66 (by decide) (by first | assumption | omega) (fun c29 => ?_) (fun c29 => ?_)
    · exact (by exact absurd c29 (by decide))
    · skip
      refine lv_aload_n hx hb dX4_freeBlock_69 rfl (lv_at hl 0 rfl) ?_
      refine lv_iload_n hx hb dX4_freeBlock_70 rfl (lv_at hl 1 rfl) ?_
      refine k_goR (W.runV (As := [.int (nI i)]) (rest := []) ⟨hx, hb, hml, hown, hts⟩ (c_X4_classOf l g cI cJ cZ rm a1 a2 a3 a4 a5 a6 a7 a8 a9 b1 b2 b3 b4 b5 b6 b7 b8 b9 cd tp ((lvs sp 1).length) (bl - 1) (jn + j) sn wt wm wg wo wd nd i pp_4 pp_5) (cwV 1 hts gX4_freeBlock_X4_classOf rfl rfl rfl (by decide +kernel) ⟨Nat.le_of_ble_eq_true rfl, Nat.le_of_ble_eq_true rfl⟩) (k_preRV hk hP [0, 1] rfl (ci := 4) (q0 := 0) rfl rfl) rfl rfl hl.1 rfl (lv_room (Nat.le_of_ble_eq_true rfl)) dX4_freeBlock_71 ⟨by first | exact Nat.zero_le _ | omega, by first | exact Nat.zero_le _ | omega⟩) ?_
      refine n_top _ (nI (cls tp L R x)) (congrArg nI pp_8) ?_
      refine lv_istore (lv' := [(4, .int (nI (cls tp L R x))), (0, .ref rm), (2, .int (nI i)), (3, .int (nI 1))]) hx hb dX4_freeBlock_74 hl (by decide) rfl (fun ls hl => ?_)
      refine lv_aload_n hx hb dX4_freeBlock_76 rfl (lv_at hl 1 rfl) ?_
      refine lv_iload_n hx hb dX4_freeBlock_77 rfl (lv_at hl 2 rfl) ?_
      refine k_goR (W.runV (As := [.int (nI i)]) (rest := []) ⟨hx, hb, hml, hown, hts⟩ (c_X4_isPair l g cI cJ cZ rm a1 a2 a3 a4 a5 a6 a7 a8 a9 b1 b2 b3 b4 b5 b6 b7 b8 b9 cd tp (bl - 1) (jn + j) sn wt wm wg wo wd S L R rc sp rq nd i hR hT hW hlen (by omega)) (cwV 1 hts gX4_freeBlock_X4_isPair rfl rfl rfl (by decide +kernel) ⟨Nat.le_of_ble_eq_true rfl, Nat.le_of_ble_eq_true rfl⟩) (k_preRV hk hP [0, 1] rfl (ci := 4) (q0 := 0) rfl rfl) rfl rfl hl.1 rfl (lv_room (Nat.le_of_ble_eq_true rfl)) dX4_freeBlock_78 ⟨by first | exact Nat.zero_le _ | omega, by first | exact Nat.zero_le _ | omega⟩) ?_
      refine k_ifeq (tgt := 88) hx hb dX4_freeBlock_81 (by decide) (fun c30 => ?_) (fun c30 => ?_)
      · skip
        refine lv_aload_n hx hb dX4_freeBlock_88 rfl (lv_at hl 1 rfl) ?_
        refine lv_iload_n hx hb dX4_freeBlock_89 rfl (lv_at hl 2 rfl) ?_
        refine lv_iconst (v := nI 1) hx hb dX4_freeBlock_90 (by decide) ?_
        refine lv_isub hx hb dX4_freeBlock_91 ?_
        refine n_top _ (nI i - nI 1) (by exact rfl) ?_
        by_cases hi0 : i = 0
        · skip
          refine k_goR (W.runV (As := [.int (nI i - nI 1)]) (rest := []) ⟨hx, hb, hml, hown, hts⟩ (c_X4_isPair_n l g cI cJ cZ rm a1 a2 a3 a4 a5 a6 a7 a8 a9 b1 b2 b3 b4 b5 b6 b7 b8 b9 cd tp ((lvs sp 1).length) (bl - 1) (jn + j) sn wt wm wg wo wd (nI i - nI 1) (by rw [hi0]; decide)) (cwV 1 hts gX4_freeBlock_X4_isPair rfl rfl rfl (by decide +kernel) ⟨Nat.le_of_ble_eq_true rfl, Nat.le_of_ble_eq_true rfl⟩) (k_preRV hk hP [0] rfl (ci := 4) (q0 := 0) rfl rfl) rfl rfl hl.1 rfl (lv_room (Nat.le_of_ble_eq_true rfl)) dX4_freeBlock_92 ⟨by first | exact Nat.zero_le _ | omega, by first | exact Nat.zero_le _ | omega⟩) ?_
          refine n_if_eq (tgt := 104) hx hb dX4_freeBlock_95 (by decide) (by first | assumption | omega) (fun c31 => ?_) (fun c31 => ?_)
          · skip
            refine lv_iconst (v := (-1)) hx hb dX4_freeBlock_104 (by decide) ?_
            refine lv_istore (lv' := [(5, .int (-1)), (4, .int (nI (cls tp L R x))), (0, .ref rm), (2, .int (nI i)), (3, .int (nI 1))]) hx hb dX4_freeBlock_105 hl (by decide) rfl (fun ls hl => ?_)
            refine lv_iload hx hb dX4_freeBlock_107 (lv_at hl 0 rfl) ?_
            refine lv_if_lt (tgt := 152) hx hb dX4_freeBlock_109 (by decide) (fun c32 => ?_) (fun c32 => ?_)
            · skip
              refine lv_iconst (v := nI 0) hx hb dX4_freeBlock_152 (by decide) ?_
              refine lv_istore_n (lv' := [(3, .int (nI 0)), (5, .int (-1)), (4, .int (nI (cls tp L R x))), (0, .ref rm), (2, .int (nI i))]) hx hb dX4_freeBlock_153 rfl hl (by decide) rfl (fun ls hl => ?_)
              refine lv_iload_n hx hb dX4_freeBlock_154 rfl (lv_at hl 0 rfl) ?_
              refine n_if_ne (tgt := 161) hx hb dX4_freeBlock_155 (by decide) (by first | assumption | omega) (fun c33 => ?_) (fun c33 => ?_)
              · exact (by exact absurd c33 (by decide))
              · skip
                refine lv_goto (tgt := 65) hx hb dX4_freeBlock_158 (by decide) ?_
                refine lv_iload_n hx hb dX4_freeBlock_65 rfl (lv_at hl 0 rfl) ?_
                refine n_if_eq (tgt := 173) hx hb dX4_freeBlock_66 (by decide) (by first | assumption | omega) (fun c34 => ?_) (fun c34 => ?_)
                · skip
                  exact kk0 i x j sp nd hT hW hlen (mDes_x hZ (Or.inl (upG_f (fun q9 => up_none hR hT hix hrx c30 (Or.inl hi0) q9.2)))) _ _ hP hD hS ls (lv_sub hl [3] rfl)
                · exact (by exact absurd c34 (by decide))
            · exact (by exact absurd (by decide) c32)
          · exact (by exact absurd c31 (by decide))
        · skip
          refine n_top _ (nI (i - 1)) (pk_sub (by omega)) ?_
          obtain ⟨qq, qq_1, qq_2, qq_3, qq_4, qq_5, qq_6, qq_7, qq_8, qq_9, qq_10⟩ := nW_rd (i := i - 1) hR hT hW hlen (by omega)
          refine k_goR (W.runV (As := [.int (nI (i - 1))]) (rest := []) ⟨hx, hb, hml, hown, hts⟩ (c_X4_isPair l g cI cJ cZ rm a1 a2 a3 a4 a5 a6 a7 a8 a9 b1 b2 b3 b4 b5 b6 b7 b8 b9 cd tp (bl - 1) (jn + j) sn wt wm wg wo wd S L R rc sp rq nd (i - 1) hR hT hW hlen (by omega)) (cwV 1 hts gX4_freeBlock_X4_isPair rfl rfl rfl (by decide +kernel) ⟨Nat.le_of_ble_eq_true rfl, Nat.le_of_ble_eq_true rfl⟩) (k_preRV hk hP [0, 1] rfl (ci := 4) (q0 := 0) rfl rfl) rfl rfl hl.1 rfl (lv_room (Nat.le_of_ble_eq_true rfl)) dX4_freeBlock_92 ⟨by first | exact Nat.zero_le _ | omega, by first | exact Nat.zero_le _ | omega⟩) ?_
          refine k_ifeq (tgt := 104) hx hb dX4_freeBlock_95 (by decide) (fun c35 => ?_) (fun c35 => ?_)
          · skip
            refine lv_iconst (v := (-1)) hx hb dX4_freeBlock_104 (by decide) ?_
            refine lv_istore (lv' := [(5, .int (-1)), (4, .int (nI (cls tp L R x))), (0, .ref rm), (2, .int (nI i)), (3, .int (nI 1))]) hx hb dX4_freeBlock_105 hl (by decide) rfl (fun ls hl => ?_)
            refine lv_iload hx hb dX4_freeBlock_107 (lv_at hl 0 rfl) ?_
            refine lv_if_lt (tgt := 152) hx hb dX4_freeBlock_109 (by decide) (fun c36 => ?_) (fun c36 => ?_)
            · skip
              refine lv_iconst (v := nI 0) hx hb dX4_freeBlock_152 (by decide) ?_
              refine lv_istore_n (lv' := [(3, .int (nI 0)), (5, .int (-1)), (4, .int (nI (cls tp L R x))), (0, .ref rm), (2, .int (nI i))]) hx hb dX4_freeBlock_153 rfl hl (by decide) rfl (fun ls hl => ?_)
              refine lv_iload_n hx hb dX4_freeBlock_154 rfl (lv_at hl 0 rfl) ?_
              refine n_if_ne (tgt := 161) hx hb dX4_freeBlock_155 (by decide) (by first | assumption | omega) (fun c37 => ?_) (fun c37 => ?_)
              · exact (by exact absurd c37 (by decide))
              · skip
                refine lv_goto (tgt := 65) hx hb dX4_freeBlock_158 (by decide) ?_
                refine lv_iload_n hx hb dX4_freeBlock_65 rfl (lv_at hl 0 rfl) ?_
                refine n_if_eq (tgt := 173) hx hb dX4_freeBlock_66 (by decide) (by first | assumption | omega) (fun c38 => ?_) (fun c38 => ?_)
                · skip
                  exact kk0 i x j sp nd hT hW hlen (mDes_x hZ (Or.inl (upG_f (fun q9 => up_none hR hT hix hrx c30 (Or.inr c35) q9.2)))) _ _ hP hD hS ls (lv_sub hl [3] rfl)
                · exact (by exact absurd c38 (by decide))
            · exact (by exact absurd (by decide) c36)
          · skip
            refine lv_iload_n hx hb dX4_freeBlock_98 rfl (lv_at hl 2 rfl) ?_
            refine lv_iconst (v := nI 1) hx hb dX4_freeBlock_99 (by decide) ?_
            refine n_isub hx hb dX4_freeBlock_100 (by omega) ?_
            refine lv_goto (tgt := 105) hx hb dX4_freeBlock_101 (by decide) ?_
            refine lv_istore (lv' := [(5, .int (nI (i - 1))), (4, .int (nI (cls tp L R x))), (0, .ref rm), (2, .int (nI i)), (3, .int (nI 1))]) hx hb dX4_freeBlock_105 hl (by decide) rfl (fun ls hl => ?_)
            refine lv_iload hx hb dX4_freeBlock_107 (lv_at hl 0 rfl) ?_
            refine n_if_lt (tgt := 152) hx hb dX4_freeBlock_109 (by decide) (by first | assumption | omega) ?_
            refine lv_aload_n hx hb dX4_freeBlock_112 rfl (lv_at hl 2 rfl) ?_
            refine lv_iload hx hb dX4_freeBlock_113 (lv_at hl 0 rfl) ?_
            refine k_goR (W.runV (As := [.int (nI (i - 1))]) (rest := []) ⟨hx, hb, hml, hown, hts⟩ (c_X4_isLive l g cI cJ cZ rm a1 a2 a3 a4 a5 a6 a7 a8 a9 b1 b2 b3 b4 b5 b6 b7 b8 b9 cd tp ((lvs sp 1).length) (bl - 1) (jn + j) sn wt wm wg wo wd nd (i - 1) qq_4 qq_5) (cwV 1 hts gX4_freeBlock_X4_isLive rfl rfl rfl (by decide +kernel) ⟨Nat.le_of_ble_eq_true rfl, Nat.le_of_ble_eq_true rfl⟩) (k_preRV hk hP [0, 1] rfl (ci := 4) (q0 := 0) rfl rfl) rfl rfl hl.1 rfl (lv_room (Nat.le_of_ble_eq_true rfl)) dX4_freeBlock_115 ⟨by first | exact Nat.zero_le _ | omega, by first | exact Nat.zero_le _ | omega⟩) ?_
            refine n_top _ (bI (0 < rq qq)) (bI_c qq_7) ?_
            refine k_ifne (tgt := 152) hx hb dX4_freeBlock_118 (by decide) (fun c40 => ?_) (fun c40 => ?_)
            · skip
              refine lv_iconst (v := nI 0) hx hb dX4_freeBlock_152 (by decide) ?_
              refine lv_istore_n (lv' := [(3, .int (nI 0)), (5, .int (nI (i - 1))), (4, .int (nI (cls tp L R x))), (0, .ref rm), (2, .int (nI i))]) hx hb dX4_freeBlock_153 rfl hl (by decide) rfl (fun ls hl => ?_)
              refine lv_iload_n hx hb dX4_freeBlock_154 rfl (lv_at hl 0 rfl) ?_
              refine n_if_ne (tgt := 161) hx hb dX4_freeBlock_155 (by decide) (by first | assumption | omega) (fun c41 => ?_) (fun c41 => ?_)
              · exact (by exact absurd c41 (by decide))
              · skip
                refine lv_goto (tgt := 65) hx hb dX4_freeBlock_158 (by decide) ?_
                refine lv_iload_n hx hb dX4_freeBlock_65 rfl (lv_at hl 0 rfl) ?_
                refine n_if_eq (tgt := 173) hx hb dX4_freeBlock_66 (by decide) (by first | assumption | omega) (fun c42 => ?_) (fun c42 => ?_)
                · skip
                  exact kk0 i x j sp nd hT hW hlen (mDes_x hZ (Or.inl (upG_f (fun q9 => by have q8 := q9.2.2.2; rw [(up_r hR hT c35 qq_1 (by rw [show i - 1 + 1 = i by omega]; exact hix)).2.1] at q8; omega)))) _ _ hP hD hS ls (lv_sub hl [3] rfl)
                · exact (by exact absurd c42 (by decide))
            · skip
              refine lv_aload_n hx hb dX4_freeBlock_121 rfl (lv_at hl 2 rfl) ?_
              refine lv_iload hx hb dX4_freeBlock_122 (lv_at hl 0 rfl) ?_
              refine lv_iconst (v := nI 1) hx hb dX4_freeBlock_124 (by decide) ?_
              refine n_iadd hx hb dX4_freeBlock_125 ?_
              refine n_top _ (nI i) (by rw [show i - 1 + 1 = i by omega]) ?_
              refine k_goR (W.runV (As := [.int (nI i)]) (rest := []) ⟨hx, hb, hml, hown, hts⟩ (c_X4_isLive l g cI cJ cZ rm a1 a2 a3 a4 a5 a6 a7 a8 a9 b1 b2 b3 b4 b5 b6 b7 b8 b9 cd tp ((lvs sp 1).length) (bl - 1) (jn + j) sn wt wm wg wo wd nd i pp_4 pp_5) (cwV 1 hts gX4_freeBlock_X4_isLive rfl rfl rfl (by decide +kernel) ⟨Nat.le_of_ble_eq_true rfl, Nat.le_of_ble_eq_true rfl⟩) (k_preRV hk hP [0, 1] rfl (ci := 4) (q0 := 0) rfl rfl) rfl rfl hl.1 rfl (lv_room (Nat.le_of_ble_eq_true rfl)) dX4_freeBlock_126 ⟨by first | exact Nat.zero_le _ | omega, by first | exact Nat.zero_le _ | omega⟩) ?_
              refine n_top _ (bI (0 < rq x)) (bI_c pp_7) ?_
              refine k_ifne (tgt := 152) hx hb dX4_freeBlock_129 (by decide) (fun c43 => ?_) (fun c43 => ?_)
              · exact (by exfalso; omega)
              · skip
                refine lv_aload_n hx hb dX4_freeBlock_132 rfl (lv_at hl 2 rfl) ?_
                refine lv_iload hx hb dX4_freeBlock_133 (lv_at hl 1 rfl) ?_
                refine k_goR (W.runV (As := [.int (nI (cls tp L R x))]) (rest := []) ⟨hx, hb, hml, hown, hts⟩ (c_X4_freeOf l g cI cJ cZ rm a1 a2 a3 a4 a5 a6 a7 a8 a9 b1 b2 b3 b4 b5 b6 b7 b8 b9 cd tp (bl - 1) (jn + j) sn wt wm wg wo wd S L R rc sp rq nd (cls tp L R x) hR hT hW hlen (by omega)) (cwV 1 hts gX4_freeBlock_X4_freeOf rfl rfl rfl (by decide +kernel) ⟨Nat.le_of_ble_eq_true rfl, Nat.le_of_ble_eq_true rfl⟩) (k_preRV hk hP [0, 1] rfl (ci := 4) (q0 := 0) rfl rfl) rfl rfl hl.1 rfl (lv_room (Nat.le_of_ble_eq_true rfl)) dX4_freeBlock_135 ⟨by first | exact Nat.zero_le _ | omega, by first | exact Nat.zero_le _ | omega⟩) ?_
                refine lv_aload_n hx hb dX4_freeBlock_138 rfl (lv_at hl 2 rfl) ?_
                refine va_get (D := g) (ci := 4) (v := .ref a9) (C := RX4) (T := TX4) (N := 29) hx hb hts hinX4 hown hK hP 0 rfl rfl 9 (by decide) (hts (.fieldLink RX4 35 "BuddyRoofModel" "kept" "[I") (by decide +kernel)) (fun _ h9 => h9) rfl dX4_freeBlock_139 ?_
                refine lv_iload hx hb dX4_freeBlock_142 (lv_at hl 1 rfl) ?_
                refine n_ald (v := nI (kp (cls tp L R x))) hx hb hK hP 5 0 rfl rfl (i := (cls tp L R x)) (by omega) (by decide) rfl dX4_freeBlock_144 ?_
                refine n_icmp_le (tgt := 152) hx hb dX4_freeBlock_145 (by decide) (by exact Nat.lt_of_le_of_lt (Nat.le_trans List.countP_le_length hlen) (by decide)) (by exact hkp _) (fun c44 => ?_) (fun c44 => ?_)
                · skip
                  refine lv_iconst (v := nI 0) hx hb dX4_freeBlock_152 (by decide) ?_
                  refine lv_istore_n (lv' := [(3, .int (nI 0)), (5, .int (nI (i - 1))), (4, .int (nI (cls tp L R x))), (0, .ref rm), (2, .int (nI i))]) hx hb dX4_freeBlock_153 rfl hl (by decide) rfl (fun ls hl => ?_)
                  refine lv_iload_n hx hb dX4_freeBlock_154 rfl (lv_at hl 0 rfl) ?_
                  refine n_if_ne (tgt := 161) hx hb dX4_freeBlock_155 (by decide) (by first | assumption | omega) (fun c45 => ?_) (fun c45 => ?_)
                  · exact (by exact absurd c45 (by decide))
                  · skip
                    refine lv_goto (tgt := 65) hx hb dX4_freeBlock_158 (by decide) ?_
                    refine lv_iload_n hx hb dX4_freeBlock_65 rfl (lv_at hl 0 rfl) ?_
                    refine n_if_eq (tgt := 173) hx hb dX4_freeBlock_66 (by decide) (by first | assumption | omega) (fun c46 => ?_) (fun c46 => ?_)
                    · skip
                      exact kk0 i x j sp nd hT hW hlen (mDes_x hZ (Or.inl (upG_f (fun q9 => by have := q9.1; omega)))) _ _ hP hD hS ls (lv_sub hl [3] rfl)
                    · exact (by exact absurd c46 (by decide))
                · skip
                  refine lv_iconst (v := nI 1) hx hb dX4_freeBlock_148 (by decide) ?_
                  refine lv_goto (tgt := 153) hx hb dX4_freeBlock_149 (by decide) ?_
                  refine lv_istore_n (lv' := [(3, .int (nI 1)), (5, .int (nI (i - 1))), (4, .int (nI (cls tp L R x))), (0, .ref rm), (2, .int (nI i))]) hx hb dX4_freeBlock_153 rfl hl (by decide) rfl (fun ls hl => ?_)
                  refine lv_iload_n hx hb dX4_freeBlock_154 rfl (lv_at hl 0 rfl) ?_
                  refine n_if_ne (tgt := 161) hx hb dX4_freeBlock_155 (by decide) (by first | assumption | omega) (fun c47 => ?_) (fun c47 => ?_)
                  · skip
                    refine lv_aload_n hx hb dX4_freeBlock_161 rfl (lv_at hl 3 rfl) ?_
                    refine lv_iload hx hb dX4_freeBlock_162 (lv_at hl 1 rfl) ?_
                    have hix2 : (lvs sp 1)[i - 1 + 1]? = some x := by rw [show i - 1 + 1 = i by omega]; exact hix
                    obtain ⟨u1, u2, u3, u4, u5⟩ := up_r hR hT c35 qq_1 hix2
                    obtain ⟨hjo, hsp, hl1⟩ := pr_joi hR hT c35 qq_1 hix2 c40 c43
                    rw [u4] at hjo hsp
                    have hg := upG_t (cl := cls tp L R) (j := j) (kp := kp) (sp := sp) (rq := rq) (x := x) ⟨c44, u1, by rw [u2]; exact u3, by rw [u2]; omega⟩
                    have hk0 : 0 < k := by have := dep_h u1; omega
                    have hZ2 := mDes_b hZ hg hk0 rfl
                    have hsj := lvs_join_at hR hT hjo hsp
                    have hlj := len_join hR hT hjo
                    have hdh := dep_h u1
                    refine k_goV (wr := [(a9, .inl (cI, 25, .inl (fun j => nI (kp j)))), (b2, .inl (cI, 256, .inl (fun j => nI ((upN ba b0 (ba (bl - 1))) j)))), (b3, .inl (cI, 256, .inl (fun j => nI ((upN rv b0 (rv (bl - 1))) j))))]) (va_runV (As := [.int (nI (i - 1))]) (rest := []) ⟨hx, hb, hml, hown, hts⟩ (c_X4_joinAt_i l g cI cJ cZ rm a1 a2 a3 a4 a5 a6 a7 a8 a9 b1 b2 b3 b4 b5 b6 b7 b8 b9 cd tp (bl - 1) (jn + j) sn wt wm wg wo wd sz lf rt S L R rc sp rq nd (x / 2) ((lvs sp 1).take (i - 1)) ((lvs sp 1).drop (i - 1 + 2)) (i - 1) hR hT hW hlen hrl hjo hsp hl1 _) (cwV 1 hts gX4_freeBlock_X4_joinAt rfl rfl rfl (by decide +kernel) ⟨Nat.le_of_ble_eq_true rfl, Nat.le_of_ble_eq_true rfl⟩) (k_preV hk hP hD [0, 1, 2, 3, 4] rfl rfl (ci := 4) (q0 := 0) rfl rfl) rfl rfl hl.1 rfl (lv_room (Nat.le_of_ble_eq_true rfl)) dX4_freeBlock_164 ⟨by first | exact Nat.zero_le _ | omega, by first | exact Nat.zero_le _ | omega⟩) hP hD hS hA [0, 1, 2, 3, 4] [5, 6, 7] rfl rfl rfl (by decide) (fun nd1 H locs hu hP hD hS => ?_)
                    rw [show (lvs sp 1).length - 1 = (lvs (upB sp (x / 2) false) 1).length by omega] at hP hD
                    have hP : va_P g vwCl [(a9, .inl (cI, 25, .inl (fun j => nI (kp j)))), (b2, .inl (cI, 256, .inl (fun j => nI ((upN ba b0 (ba (bl - 1))) j)))), (b3, .inl (cI, 256, .inl (fun j => nI ((upN rv b0 (rv (bl - 1))) j)))), (rm, .inr (4, [.int (nI cd), .ref a1, .ref a2, .ref a3, .ref a4, .ref a5, .ref a6, .ref a7, .ref a8, .ref a9, .int (nI tp), .int (nI ((lvs (upB sp (x / 2) false) 1).length)), .ref b1, .int (nI (bl - 1)), .ref b2, .ref b3, .int (nI (jn + j + 1)), .int (nI sn), .ref b4, .ref b5, .ref b6, .ref b7, .ref b8, .int (nI wt), .int (nI wm), .int (nI wg), .long (lN wo), .int (nI wd), .ref b9])), (b1, .inl (cJ, 14000, .inr (.inl (fun j => lN (nd1 j))))), (a4, .inl (cI, 25, .inl sz)), (a5, .inl (cI, 25, .inl lf)), (a6, .inl (cI, 25, .inl rt))] H := hP
                    have hD : va_D A [(a9, .inl (cI, 25, .inl (fun j => nI (kp j)))), (b2, .inl (cI, 256, .inl (fun j => nI ((upN ba b0 (ba (bl - 1))) j)))), (b3, .inl (cI, 256, .inl (fun j => nI ((upN rv b0 (rv (bl - 1))) j)))), (rm, .inr (4, [.int (nI cd), .ref a1, .ref a2, .ref a3, .ref a4, .ref a5, .ref a6, .ref a7, .ref a8, .ref a9, .int (nI tp), .int (nI ((lvs (upB sp (x / 2) false) 1).length)), .ref b1, .int (nI (bl - 1)), .ref b2, .ref b3, .int (nI (jn + j + 1)), .int (nI sn), .ref b4, .ref b5, .ref b6, .ref b7, .ref b8, .int (nI wt), .int (nI wm), .int (nI wg), .long (lN wo), .int (nI wd), .ref b9])), (b1, .inl (cJ, 14000, .inr (.inl (fun j => lN (nd1 j))))), (a4, .inl (cI, 25, .inl sz)), (a5, .inl (cI, 25, .inl lf)), (a6, .inl (cI, 25, .inl rt))] := hD
                    refine lv_iload hx hb dX4_freeBlock_167 (lv_at hl 1 rfl) ?_
                    refine lv_istore_n (lv' := [(2, .int (nI (i - 1))), (3, .int (nI 1)), (5, .int (nI (i - 1))), (4, .int (nI (cls tp L R x))), (0, .ref rm)]) hx hb dX4_freeBlock_169 rfl hl (by decide) rfl (fun ls hl => ?_)
                    refine lv_goto (tgt := 65) hx hb dX4_freeBlock_170 (by decide) ?_
                    have hP := hP.sub (ws' := [(rm, .inr (4, [.int (nI cd), .ref a1, .ref a2, .ref a3, .ref a4, .ref a5, .ref a6, .ref a7, .ref a8, .ref a9, .int (nI tp), .int (nI ((lvs (upB sp (x / 2) false) 1).length)), .ref b1, .int (nI (bl - 1)), .ref b2, .ref b3, .int (nI (jn + j + 1)), .int (nI sn), .ref b4, .ref b5, .ref b6, .ref b7, .ref b8, .int (nI wt), .int (nI wm), .int (nI wg), .long (lN wo), .int (nI wd), .ref b9])), (b1, .inl (cJ, 14000, .inr (.inl (fun j => lN (nd1 j))))), (a4, .inl (cI, 25, .inl sz)), (a5, .inl (cI, 25, .inl lf)), (a6, .inl (cI, 25, .inl rt)), (a9, .inl (cI, 25, .inl (fun j => nI (kp j)))), (b2, .inl (cI, 256, .inl (fun j => nI ((upN ba b0 (ba (bl - 1))) j)))), (b3, .inl (cI, 256, .inl (fun j => nI ((upN rv b0 (rv (bl - 1))) j))))]) [3, 4, 5, 6, 7, 0, 1, 2] rfl
                    have hD := hD.sub (ws' := [(rm, .inr (4, [.int (nI cd), .ref a1, .ref a2, .ref a3, .ref a4, .ref a5, .ref a6, .ref a7, .ref a8, .ref a9, .int (nI tp), .int (nI ((lvs (upB sp (x / 2) false) 1).length)), .ref b1, .int (nI (bl - 1)), .ref b2, .ref b3, .int (nI (jn + j + 1)), .int (nI sn), .ref b4, .ref b5, .ref b6, .ref b7, .ref b8, .int (nI wt), .int (nI wm), .int (nI wg), .long (lN wo), .int (nI wd), .ref b9])), (b1, .inl (cJ, 14000, .inr (.inl (fun j => lN (nd1 j))))), (a4, .inl (cI, 25, .inl sz)), (a5, .inl (cI, 25, .inl lf)), (a6, .inl (cI, 25, .inl rt)), (a9, .inl (cI, 25, .inl (fun j => nI (kp j)))), (b2, .inl (cI, 256, .inl (fun j => nI ((upN ba b0 (ba (bl - 1))) j)))), (b3, .inl (cI, 256, .inl (fun j => nI ((upN rv b0 (rv (bl - 1))) j))))]) [3, 4, 5, 6, 7, 0, 1, 2] rfl rfl
                    exact ih (i - 1) (x / 2) (j + 1) (k - 1) (upB sp (x / 2) false) nd1 (by omega) (by omega) (by omega) (TOK_join hT hjo) (by rw [hsj]; exact hu) (by omega) (by rw [hsj, List.getElem?_append_right (by omega), hl1, Nat.sub_self]; rfl) (Classical.byContradiction fun e9 => by have q9 := (hT.2 (x / 2) (by omega)).2.1; rw [hjo.1] at q9; exact absurd q9 (by decide)) hZ2 _ _ hP hD hS ls (lv_sub hl [4, 0, 1] rfl)
                  · exact (by exact absurd c47 (by decide))
      · skip
        have hi1 : i + 1 < (lvs sp 1).length := Classical.byContradiction fun e9 => by rw [prB_n (by omega)] at c30; exact absurd c30 (by decide)
        obtain ⟨qq, qq_1, qq_2, qq_3, qq_4, qq_5, qq_6, qq_7, qq_8, qq_9, qq_10⟩ := nW_rd (i := i + 1) hR hT hW hlen (by omega)
        refine lv_iload_n hx hb dX4_freeBlock_84 rfl (lv_at hl 2 rfl) ?_
        refine lv_goto (tgt := 105) hx hb dX4_freeBlock_85 (by decide) ?_
        refine lv_istore (lv' := [(5, .int (nI i)), (4, .int (nI (cls tp L R x))), (0, .ref rm), (2, .int (nI i)), (3, .int (nI 1))]) hx hb dX4_freeBlock_105 hl (by decide) rfl (fun ls hl => ?_)
        refine lv_iload hx hb dX4_freeBlock_107 (lv_at hl 0 rfl) ?_
        refine n_if_lt (tgt := 152) hx hb dX4_freeBlock_109 (by decide) (by first | assumption | omega) ?_
        refine lv_aload_n hx hb dX4_freeBlock_112 rfl (lv_at hl 2 rfl) ?_
        refine lv_iload hx hb dX4_freeBlock_113 (lv_at hl 0 rfl) ?_
        refine k_goR (W.runV (As := [.int (nI i)]) (rest := []) ⟨hx, hb, hml, hown, hts⟩ (c_X4_isLive l g cI cJ cZ rm a1 a2 a3 a4 a5 a6 a7 a8 a9 b1 b2 b3 b4 b5 b6 b7 b8 b9 cd tp ((lvs sp 1).length) (bl - 1) (jn + j) sn wt wm wg wo wd nd i pp_4 pp_5) (cwV 1 hts gX4_freeBlock_X4_isLive rfl rfl rfl (by decide +kernel) ⟨Nat.le_of_ble_eq_true rfl, Nat.le_of_ble_eq_true rfl⟩) (k_preRV hk hP [0, 1] rfl (ci := 4) (q0 := 0) rfl rfl) rfl rfl hl.1 rfl (lv_room (Nat.le_of_ble_eq_true rfl)) dX4_freeBlock_115 ⟨by first | exact Nat.zero_le _ | omega, by first | exact Nat.zero_le _ | omega⟩) ?_
        refine n_top _ (bI (0 < rq x)) (bI_c pp_7) ?_
        refine k_ifne (tgt := 152) hx hb dX4_freeBlock_118 (by decide) (fun c49 => ?_) (fun c49 => ?_)
        · exact (by exfalso; omega)
        · skip
          refine lv_aload_n hx hb dX4_freeBlock_121 rfl (lv_at hl 2 rfl) ?_
          refine lv_iload hx hb dX4_freeBlock_122 (lv_at hl 0 rfl) ?_
          refine lv_iconst (v := nI 1) hx hb dX4_freeBlock_124 (by decide) ?_
          refine n_iadd hx hb dX4_freeBlock_125 ?_
          refine k_goR (W.runV (As := [.int (nI (i + 1))]) (rest := []) ⟨hx, hb, hml, hown, hts⟩ (c_X4_isLive l g cI cJ cZ rm a1 a2 a3 a4 a5 a6 a7 a8 a9 b1 b2 b3 b4 b5 b6 b7 b8 b9 cd tp ((lvs sp 1).length) (bl - 1) (jn + j) sn wt wm wg wo wd nd (i + 1) qq_4 qq_5) (cwV 1 hts gX4_freeBlock_X4_isLive rfl rfl rfl (by decide +kernel) ⟨Nat.le_of_ble_eq_true rfl, Nat.le_of_ble_eq_true rfl⟩) (k_preRV hk hP [0, 1] rfl (ci := 4) (q0 := 0) rfl rfl) rfl rfl hl.1 rfl (lv_room (Nat.le_of_ble_eq_true rfl)) dX4_freeBlock_126 ⟨by first | exact Nat.zero_le _ | omega, by first | exact Nat.zero_le _ | omega⟩) ?_
          refine n_top _ (bI (0 < rq qq)) (bI_c qq_7) ?_
          refine k_ifne (tgt := 152) hx hb dX4_freeBlock_129 (by decide) (fun c50 => ?_) (fun c50 => ?_)
          · skip
            refine lv_iconst (v := nI 0) hx hb dX4_freeBlock_152 (by decide) ?_
            refine lv_istore_n (lv' := [(3, .int (nI 0)), (5, .int (nI i)), (4, .int (nI (cls tp L R x))), (0, .ref rm), (2, .int (nI i))]) hx hb dX4_freeBlock_153 rfl hl (by decide) rfl (fun ls hl => ?_)
            refine lv_iload_n hx hb dX4_freeBlock_154 rfl (lv_at hl 0 rfl) ?_
            refine n_if_ne (tgt := 161) hx hb dX4_freeBlock_155 (by decide) (by first | assumption | omega) (fun c51 => ?_) (fun c51 => ?_)
            · exact (by exact absurd c51 (by decide))
            · skip
              refine lv_goto (tgt := 65) hx hb dX4_freeBlock_158 (by decide) ?_
              refine lv_iload_n hx hb dX4_freeBlock_65 rfl (lv_at hl 0 rfl) ?_
              refine n_if_eq (tgt := 173) hx hb dX4_freeBlock_66 (by decide) (by first | assumption | omega) (fun c52 => ?_) (fun c52 => ?_)
              · skip
                exact kk0 i x j sp nd hT hW hlen (mDes_x hZ (Or.inl (upG_f (fun q9 => by have q8 := q9.2.2.2; rw [(up_l hR hT c30 hix qq_1).2.1] at q8; omega)))) _ _ hP hD hS ls (lv_sub hl [3] rfl)
              · exact (by exact absurd c52 (by decide))
          · skip
            refine lv_aload_n hx hb dX4_freeBlock_132 rfl (lv_at hl 2 rfl) ?_
            refine lv_iload hx hb dX4_freeBlock_133 (lv_at hl 1 rfl) ?_
            refine k_goR (W.runV (As := [.int (nI (cls tp L R x))]) (rest := []) ⟨hx, hb, hml, hown, hts⟩ (c_X4_freeOf l g cI cJ cZ rm a1 a2 a3 a4 a5 a6 a7 a8 a9 b1 b2 b3 b4 b5 b6 b7 b8 b9 cd tp (bl - 1) (jn + j) sn wt wm wg wo wd S L R rc sp rq nd (cls tp L R x) hR hT hW hlen (by omega)) (cwV 1 hts gX4_freeBlock_X4_freeOf rfl rfl rfl (by decide +kernel) ⟨Nat.le_of_ble_eq_true rfl, Nat.le_of_ble_eq_true rfl⟩) (k_preRV hk hP [0, 1] rfl (ci := 4) (q0 := 0) rfl rfl) rfl rfl hl.1 rfl (lv_room (Nat.le_of_ble_eq_true rfl)) dX4_freeBlock_135 ⟨by first | exact Nat.zero_le _ | omega, by first | exact Nat.zero_le _ | omega⟩) ?_
            refine lv_aload_n hx hb dX4_freeBlock_138 rfl (lv_at hl 2 rfl) ?_
            refine va_get (D := g) (ci := 4) (v := .ref a9) (C := RX4) (T := TX4) (N := 29) hx hb hts hinX4 hown hK hP 0 rfl rfl 9 (by decide) (hts (.fieldLink RX4 35 "BuddyRoofModel" "kept" "[I") (by decide +kernel)) (fun _ h9 => h9) rfl dX4_freeBlock_139 ?_
            refine lv_iload hx hb dX4_freeBlock_142 (lv_at hl 1 rfl) ?_
            refine n_ald (v := nI (kp (cls tp L R x))) hx hb hK hP 5 0 rfl rfl (i := (cls tp L R x)) (by omega) (by decide) rfl dX4_freeBlock_144 ?_
            refine n_icmp_le (tgt := 152) hx hb dX4_freeBlock_145 (by decide) (by exact Nat.lt_of_le_of_lt (Nat.le_trans List.countP_le_length hlen) (by decide)) (by exact hkp _) (fun c53 => ?_) (fun c53 => ?_)
            · skip
              refine lv_iconst (v := nI 0) hx hb dX4_freeBlock_152 (by decide) ?_
              refine lv_istore_n (lv' := [(3, .int (nI 0)), (5, .int (nI i)), (4, .int (nI (cls tp L R x))), (0, .ref rm), (2, .int (nI i))]) hx hb dX4_freeBlock_153 rfl hl (by decide) rfl (fun ls hl => ?_)
              refine lv_iload_n hx hb dX4_freeBlock_154 rfl (lv_at hl 0 rfl) ?_
              refine n_if_ne (tgt := 161) hx hb dX4_freeBlock_155 (by decide) (by first | assumption | omega) (fun c54 => ?_) (fun c54 => ?_)
              · exact (by exact absurd c54 (by decide))
              · skip
                refine lv_goto (tgt := 65) hx hb dX4_freeBlock_158 (by decide) ?_
                refine lv_iload_n hx hb dX4_freeBlock_65 rfl (lv_at hl 0 rfl) ?_
                refine n_if_eq (tgt := 173) hx hb dX4_freeBlock_66 (by decide) (by first | assumption | omega) (fun c55 => ?_) (fun c55 => ?_)
                · skip
                  exact kk0 i x j sp nd hT hW hlen (mDes_x hZ (Or.inl (upG_f (fun q9 => by have := q9.1; omega)))) _ _ hP hD hS ls (lv_sub hl [3] rfl)
                · exact (by exact absurd c55 (by decide))
            · skip
              refine lv_iconst (v := nI 1) hx hb dX4_freeBlock_148 (by decide) ?_
              refine lv_goto (tgt := 153) hx hb dX4_freeBlock_149 (by decide) ?_
              refine lv_istore_n (lv' := [(3, .int (nI 1)), (5, .int (nI i)), (4, .int (nI (cls tp L R x))), (0, .ref rm), (2, .int (nI i))]) hx hb dX4_freeBlock_153 rfl hl (by decide) rfl (fun ls hl => ?_)
              refine lv_iload_n hx hb dX4_freeBlock_154 rfl (lv_at hl 0 rfl) ?_
              refine n_if_ne (tgt := 161) hx hb dX4_freeBlock_155 (by decide) (by first | assumption | omega) (fun c56 => ?_) (fun c56 => ?_)
              · skip
                refine lv_aload_n hx hb dX4_freeBlock_161 rfl (lv_at hl 3 rfl) ?_
                refine lv_iload hx hb dX4_freeBlock_162 (lv_at hl 1 rfl) ?_
                obtain ⟨u1, u2, u3, u4, u5⟩ := up_l hR hT c30 hix qq_1
                obtain ⟨hjo, hsp, hl1⟩ := pr_joi hR hT c30 hix qq_1 c49 c50
                have hg := upG_t (cl := cls tp L R) (j := j) (kp := kp) (sp := sp) (rq := rq) (x := x) ⟨c53, u1, by rw [u2]; exact u3, by rw [u2]; omega⟩
                have hk0 : 0 < k := by have := dep_h u1; omega
                have hZ2 := mDes_b hZ hg hk0 rfl
                have hsj := lvs_join_at hR hT hjo hsp
                have hlj := len_join hR hT hjo
                have hdh := dep_h u1
                refine k_goV (wr := [(a9, .inl (cI, 25, .inl (fun j => nI (kp j)))), (b2, .inl (cI, 256, .inl (fun j => nI ((upN ba b0 (ba (bl - 1))) j)))), (b3, .inl (cI, 256, .inl (fun j => nI ((upN rv b0 (rv (bl - 1))) j))))]) (va_runV (As := [.int (nI i)]) (rest := []) ⟨hx, hb, hml, hown, hts⟩ (c_X4_joinAt_i l g cI cJ cZ rm a1 a2 a3 a4 a5 a6 a7 a8 a9 b1 b2 b3 b4 b5 b6 b7 b8 b9 cd tp (bl - 1) (jn + j) sn wt wm wg wo wd sz lf rt S L R rc sp rq nd (x / 2) ((lvs sp 1).take (i)) ((lvs sp 1).drop (i + 2)) (i) hR hT hW hlen hrl hjo hsp hl1 _) (cwV 1 hts gX4_freeBlock_X4_joinAt rfl rfl rfl (by decide +kernel) ⟨Nat.le_of_ble_eq_true rfl, Nat.le_of_ble_eq_true rfl⟩) (k_preV hk hP hD [0, 1, 2, 3, 4] rfl rfl (ci := 4) (q0 := 0) rfl rfl) rfl rfl hl.1 rfl (lv_room (Nat.le_of_ble_eq_true rfl)) dX4_freeBlock_164 ⟨by first | exact Nat.zero_le _ | omega, by first | exact Nat.zero_le _ | omega⟩) hP hD hS hA [0, 1, 2, 3, 4] [5, 6, 7] rfl rfl rfl (by decide) (fun nd1 H locs hu hP hD hS => ?_)
                rw [show (lvs sp 1).length - 1 = (lvs (upB sp (x / 2) false) 1).length by omega] at hP hD
                have hP : va_P g vwCl [(a9, .inl (cI, 25, .inl (fun j => nI (kp j)))), (b2, .inl (cI, 256, .inl (fun j => nI ((upN ba b0 (ba (bl - 1))) j)))), (b3, .inl (cI, 256, .inl (fun j => nI ((upN rv b0 (rv (bl - 1))) j)))), (rm, .inr (4, [.int (nI cd), .ref a1, .ref a2, .ref a3, .ref a4, .ref a5, .ref a6, .ref a7, .ref a8, .ref a9, .int (nI tp), .int (nI ((lvs (upB sp (x / 2) false) 1).length)), .ref b1, .int (nI (bl - 1)), .ref b2, .ref b3, .int (nI (jn + j + 1)), .int (nI sn), .ref b4, .ref b5, .ref b6, .ref b7, .ref b8, .int (nI wt), .int (nI wm), .int (nI wg), .long (lN wo), .int (nI wd), .ref b9])), (b1, .inl (cJ, 14000, .inr (.inl (fun j => lN (nd1 j))))), (a4, .inl (cI, 25, .inl sz)), (a5, .inl (cI, 25, .inl lf)), (a6, .inl (cI, 25, .inl rt))] H := hP
                have hD : va_D A [(a9, .inl (cI, 25, .inl (fun j => nI (kp j)))), (b2, .inl (cI, 256, .inl (fun j => nI ((upN ba b0 (ba (bl - 1))) j)))), (b3, .inl (cI, 256, .inl (fun j => nI ((upN rv b0 (rv (bl - 1))) j)))), (rm, .inr (4, [.int (nI cd), .ref a1, .ref a2, .ref a3, .ref a4, .ref a5, .ref a6, .ref a7, .ref a8, .ref a9, .int (nI tp), .int (nI ((lvs (upB sp (x / 2) false) 1).length)), .ref b1, .int (nI (bl - 1)), .ref b2, .ref b3, .int (nI (jn + j + 1)), .int (nI sn), .ref b4, .ref b5, .ref b6, .ref b7, .ref b8, .int (nI wt), .int (nI wm), .int (nI wg), .long (lN wo), .int (nI wd), .ref b9])), (b1, .inl (cJ, 14000, .inr (.inl (fun j => lN (nd1 j))))), (a4, .inl (cI, 25, .inl sz)), (a5, .inl (cI, 25, .inl lf)), (a6, .inl (cI, 25, .inl rt))] := hD
                refine lv_iload hx hb dX4_freeBlock_167 (lv_at hl 1 rfl) ?_
                refine lv_istore_n (lv' := [(2, .int (nI i)), (3, .int (nI 1)), (5, .int (nI i)), (4, .int (nI (cls tp L R x))), (0, .ref rm)]) hx hb dX4_freeBlock_169 rfl hl (by decide) rfl (fun ls hl => ?_)
                refine lv_goto (tgt := 65) hx hb dX4_freeBlock_170 (by decide) ?_
                have hP := hP.sub (ws' := [(rm, .inr (4, [.int (nI cd), .ref a1, .ref a2, .ref a3, .ref a4, .ref a5, .ref a6, .ref a7, .ref a8, .ref a9, .int (nI tp), .int (nI ((lvs (upB sp (x / 2) false) 1).length)), .ref b1, .int (nI (bl - 1)), .ref b2, .ref b3, .int (nI (jn + j + 1)), .int (nI sn), .ref b4, .ref b5, .ref b6, .ref b7, .ref b8, .int (nI wt), .int (nI wm), .int (nI wg), .long (lN wo), .int (nI wd), .ref b9])), (b1, .inl (cJ, 14000, .inr (.inl (fun j => lN (nd1 j))))), (a4, .inl (cI, 25, .inl sz)), (a5, .inl (cI, 25, .inl lf)), (a6, .inl (cI, 25, .inl rt)), (a9, .inl (cI, 25, .inl (fun j => nI (kp j)))), (b2, .inl (cI, 256, .inl (fun j => nI ((upN ba b0 (ba (bl - 1))) j)))), (b3, .inl (cI, 256, .inl (fun j => nI ((upN rv b0 (rv (bl - 1))) j))))]) [3, 4, 5, 6, 7, 0, 1, 2] rfl
                have hD := hD.sub (ws' := [(rm, .inr (4, [.int (nI cd), .ref a1, .ref a2, .ref a3, .ref a4, .ref a5, .ref a6, .ref a7, .ref a8, .ref a9, .int (nI tp), .int (nI ((lvs (upB sp (x / 2) false) 1).length)), .ref b1, .int (nI (bl - 1)), .ref b2, .ref b3, .int (nI (jn + j + 1)), .int (nI sn), .ref b4, .ref b5, .ref b6, .ref b7, .ref b8, .int (nI wt), .int (nI wm), .int (nI wg), .long (lN wo), .int (nI wd), .ref b9])), (b1, .inl (cJ, 14000, .inr (.inl (fun j => lN (nd1 j))))), (a4, .inl (cI, 25, .inl sz)), (a5, .inl (cI, 25, .inl lf)), (a6, .inl (cI, 25, .inl rt)), (a9, .inl (cI, 25, .inl (fun j => nI (kp j)))), (b2, .inl (cI, 256, .inl (fun j => nI ((upN ba b0 (ba (bl - 1))) j)))), (b3, .inl (cI, 256, .inl (fun j => nI ((upN rv b0 (rv (bl - 1))) j))))]) [3, 4, 5, 6, 7, 0, 1, 2] rfl rfl
                exact ih i (x / 2) (j + 1) (k - 1) (upB sp (x / 2) false) nd1 (by omega) (by omega) (by omega) (TOK_join hT hjo) (by rw [hsj]; exact hu) (by omega) (by rw [hsj, List.getElem?_append_right (by omega), hl1, Nat.sub_self]; rfl) (Classical.byContradiction fun e9 => by have q9 := (hT.2 (x / 2) (by omega)).2.1; rw [hjo.1] at q9; exact absurd q9 (by decide)) hZ2 _ _ hP hD hS ls (lv_sub hl [4, 0, 1] rfl)
              · exact (by exact absurd c56 (by decide))

set_option maxHeartbeats 4000000 in
set_option maxRecDepth 100000 in
theorem c_X4_freeBlock (l : Launch) (g : va_G) (cI cJ cZ : ClassId) (rm a1 a2 a3 a4 a5 a6 a7 a8 a9 b1 b2 b3 b4 b5 b6 b7 b8 b9 : Nat) (cd tp bl jn sn wt wm wg wo wd : Nat) (sz lf rt : Nat → Int32) (S L R : Nat → Nat) (rc : Nat → Bool) (sp0 : Nat → Bool) (rq0 nd0 : Nat → Nat) (kp ba rv : Nat → Nat) (b0 y : Nat) (hR : RuleOK S L R rc tp) (hT0 : TOK tp S L R sp0 rq0) (hW0 : nW tp S L R rq0 nd0 (lvs sp0 1)) (hlen0 : (lvs sp0 1).length ≤ 14000) (hrl : rOK S L R rc sz lf rt) (hkp : ∀ j, kp j < 2 ^ 31) (hbl : bl ≤ 256) (hb0 : b0 < bl) (hba : ba b0 = adr tp S L R y) (hry : 0 < rq0 y) : kV l g (kty cI cJ cZ) yX4_freeBlock wsX4_freeBlock ({ frames := 2, cells := 0, slots := 0, locals := 48 }) [.ref rm, .int (nI b0)] [(rm, .inr (4, [.int (nI cd), .ref a1, .ref a2, .ref a3, .ref a4, .ref a5, .ref a6, .ref a7, .ref a8, .ref a9, .int (nI tp), .int (nI ((lvs sp0 1).length)), .ref b1, .int (nI bl), .ref b2, .ref b3, .int (nI jn), .int (nI sn), .ref b4, .ref b5, .ref b6, .ref b7, .ref b8, .int (nI wt), .int (nI wm), .int (nI wg), .long (lN wo), .int (nI wd), .ref b9])), (b1, .inl (cJ, 14000, .inr (.inl (fun j => lN (nd0 j))))), (a4, .inl (cI, 25, .inl sz)), (a5, .inl (cI, 25, .inl lf)), (a6, .inl (cI, 25, .inl rt)), (a9, .inl (cI, 25, .inl (fun j => nI (kp j)))), (b2, .inl (cI, 256, .inl (fun j => nI (ba j)))), (b3, .inl (cI, 256, .inl (fun j => nI (rv j))))] (S := Nat → Nat) (fun u => nW tp S L R (upN rq0 y 0) u (lvs (aUp (cls tp L R) kp (upN rq0 y 0) 24 (sp0, y, 0)).1 1)) (fun u => [(rm, .inr (4, [.int (nI cd), .ref a1, .ref a2, .ref a3, .ref a4, .ref a5, .ref a6, .ref a7, .ref a8, .ref a9, .int (nI tp), .int (nI ((lvs (aUp (cls tp L R) kp (upN rq0 y 0) 24 (sp0, y, 0)).1 1).length)), .ref b1, .int (nI (bl - 1)), .ref b2, .ref b3, .int (nI (jn + (aUp (cls tp L R) kp (upN rq0 y 0) 24 (sp0, y, 0)).2.2)), .int (nI sn), .ref b4, .ref b5, .ref b6, .ref b7, .ref b8, .int (nI wt), .int (nI wm), .int (nI wg), .long (lN wo), .int (nI wd), .ref b9])), (b1, .inl (cJ, 14000, .inr (.inl (fun j => lN (u j))))), (a4, .inl (cI, 25, .inl sz)), (a5, .inl (cI, 25, .inl lf)), (a6, .inl (cI, 25, .inl rt)), (a9, .inl (cI, 25, .inl (fun j => nI (kp j)))), (b2, .inl (cI, 256, .inl (fun j => nI ((upN ba b0 (ba (bl - 1))) j)))), (b3, .inl (cI, 256, .inl (fun j => nI ((upN rv b0 (rv (bl - 1))) j))))]) 0 0 := by
  intro sz
  refine Met.ofW (cc := cX4_freeBlock) (maxL := 6) (ret := none) (by decide) rfl ?_
  intro p e s m args below meth c s₁ B hml hv
  obtain ⟨rfl, hsz, hP, hk, hD0⟩ := hv
  subst hsz
  have hx := B.exec
  have hb := B.bytes
  have hr := B.returns
  have hts := atoms_spec (ws := wsX4_freeBlock) B.pre
  have hown : s.vm.findClass RX4 = some m.cls := findClass_of_methodNamed B.named
  have hlocks := B.notSynchronized
  have hK := hk.1
  have hinX4 : ∀ w ∈ wsX40, w ∈ wsX4_freeBlock := by decide +kernel
  obtain ⟨A, hAe⟩ : ∃ A, va_A [(rm, .inr (4, [.int (nI cd), .ref a1, .ref a2, .ref a3, .ref a4, .ref a5, .ref a6, .ref a7, .ref a8, .ref a9, .int (nI tp), .int (nI ((lvs sp0 1).length)), .ref b1, .int (nI bl), .ref b2, .ref b3, .int (nI jn), .int (nI sn), .ref b4, .ref b5, .ref b6, .ref b7, .ref b8, .int (nI wt), .int (nI wm), .int (nI wg), .long (lN wo), .int (nI wd), .ref b9])), (b1, .inl (cJ, 14000, .inr (.inl (fun j => lN (nd0 j))))), (a4, .inl (cI, 25, .inl sz)), (a5, .inl (cI, 25, .inl lf)), (a6, .inl (cI, 25, .inl rt)), (a9, .inl (cI, 25, .inl (fun j => nI (kp j)))), (b2, .inl (cI, 256, .inl (fun j => nI (ba j)))), (b3, .inl (cI, 256, .inl (fun j => nI (rv j))))] s.heap.size = A := ⟨_, rfl⟩
  have hD := hD0.self (sz := s.heap.size)
  rw [hAe] at hD
  have hA : ∀ q : Nat, s.heap.size ≤ q → A q := fun q h => by rw [← hAe]; exact Or.inr h
  have hS : va_S A s.heap s.heap [] := va_S.rf
  have hl := lv_entry ([.ref rm, .int (nI b0)]) (n := 6) (Nat.le_of_ble_eq_true rfl)
  rw [lg_entry_eq]
  generalize (lg_sl ([.ref rm, .int (nI b0)]) ++ List.replicate (6 - (lg_sl ([.ref rm, .int (nI b0)])).length) Slot.unset).toArray = ls at hl ⊢
  have hl : lv_has ls 6 [(0, .ref rm), (1, .int (nI b0))] := hl
  have hyl := hT0.2 y hry
  have hyx := hyl.1
  have hys := hyl.2.1
  obtain ⟨iy, hiy0⟩ : ∃ iy, plc (lvs sp0 1) y = iy := ⟨_, rfl⟩
  have hiy := plc_mem (lvs_all hR hT0 hyx hys)
  rw [hiy0] at hiy
  have hil := at_lt hiy
  have hdy := sid_b hR hT0 hyx
  have hT1 := TOK_set (w := 0) hT0 hyx hys (Nat.zero_le _)
  have hW1 : nW tp S L R (upN rq0 y 0) (upN nd0 iy (wrd tp S L R (upN rq0 y 0) y)) (lvs sp0 1) := nW_set (lvs_nodup hR hT0 ex_1) hW0 hiy (fun j q1 => upN_n _ _ q1) (upN_s _ _ _)
  refine lv_aload_n hx hb dX4_freeBlock_0 rfl (lv_at hl 0 rfl) ?_
  refine lv_aload_n hx hb dX4_freeBlock_1 rfl (lv_at hl 0 rfl) ?_
  refine va_get (D := g) (ci := 4) (v := .ref b2) (C := RX4) (T := TX4) (N := 29) hx hb hts hinX4 hown hK hP 0 rfl rfl 14 (by decide) (hts (.fieldLink RX4 42 "BuddyRoofModel" "blockAt" "[I") (by decide +kernel)) (fun _ h9 => h9) rfl dX4_freeBlock_2 ?_
  refine lv_iload_n hx hb dX4_freeBlock_5 rfl (lv_at hl 1 rfl) ?_
  refine n_ald (v := nI (adr tp S L R y)) hx hb hK hP 6 0 rfl rfl (i := b0) (by omega) (by decide) (by rw [hba]) dX4_freeBlock_6 ?_
  refine k_goR (W.runV (As := [.int (nI (adr tp S L R y))]) (rest := []) ⟨hx, hb, hml, hown, hts⟩ (c_X4_nodeAt l g cI cJ cZ rm a1 a2 a3 a4 a5 a6 a7 a8 a9 b1 b2 b3 b4 b5 b6 b7 b8 b9 cd tp bl jn sn wt wm wg wo wd S L R rc sp0 rq0 nd0 y iy hR hT0 hW0 hlen0 hiy) (cwV 1 hts gX4_freeBlock_X4_nodeAt rfl rfl rfl (by decide +kernel) ⟨Nat.le_of_ble_eq_true rfl, Nat.le_of_ble_eq_true rfl⟩) (k_preRV hk hP [0, 1] rfl (ci := 4) (q0 := 0) rfl rfl) rfl rfl hl.1 rfl (lv_room (Nat.le_of_ble_eq_true rfl)) dX4_freeBlock_7 ⟨by first | exact Nat.zero_le _ | omega, by first | exact Nat.zero_le _ | omega⟩) ?_
  refine lv_istore_n (lv' := [(2, .int (nI iy)), (0, .ref rm), (1, .int (nI b0))]) hx hb dX4_freeBlock_10 rfl hl (by decide) rfl (fun ls hl => ?_)
  refine lv_aload_n hx hb dX4_freeBlock_11 rfl (lv_at hl 1 rfl) ?_
  refine lv_dup hx hb dX4_freeBlock_12 rfl ?_
  refine va_get (D := g) (ci := 4) (v := .int (nI bl)) (C := RX4) (T := TX4) (N := 29) hx hb hts hinX4 hown hK hP 0 rfl rfl 13 (by decide) (hts (.fieldLink RX4 103 "BuddyRoofModel" "blocks" "I") (by decide +kernel)) (fun _ h9 => h9) rfl dX4_freeBlock_13 ?_
  refine lv_iconst (v := nI 1) hx hb dX4_freeBlock_16 (by decide) ?_
  refine n_isub hx hb dX4_freeBlock_17 (by omega) ?_
  refine va_put (D := g) (ci := 4) (v := .int (nI (bl - 1))) (ty := .int) (C := RX4) (T := TX4) (N := 29) hx hb hts hinX4 tyX4 tyX4_ok nmX4 hown hK hP hD hS 0 rfl rfl 13 (by decide) (hts (.fieldLink RX4 103 "BuddyRoofModel" "blocks" "I") (by decide +kernel)) (fun _ h9 => h9) rfl (by decide +kernel) rfl rfl (Nat.le_of_ble_eq_true rfl) dX4_freeBlock_18 (fun H locs hP hD hS => ?_)
  have hP : va_P g vwCl [(rm, .inr (4, [.int (nI cd), .ref a1, .ref a2, .ref a3, .ref a4, .ref a5, .ref a6, .ref a7, .ref a8, .ref a9, .int (nI tp), .int (nI ((lvs sp0 1).length)), .ref b1, .int (nI (bl - 1)), .ref b2, .ref b3, .int (nI jn), .int (nI sn), .ref b4, .ref b5, .ref b6, .ref b7, .ref b8, .int (nI wt), .int (nI wm), .int (nI wg), .long (lN wo), .int (nI wd), .ref b9])), (b1, .inl (cJ, 14000, .inr (.inl (fun j => lN (nd0 j))))), (a4, .inl (cI, 25, .inl sz)), (a5, .inl (cI, 25, .inl lf)), (a6, .inl (cI, 25, .inl rt)), (a9, .inl (cI, 25, .inl (fun j => nI (kp j)))), (b2, .inl (cI, 256, .inl (fun j => nI (ba j)))), (b3, .inl (cI, 256, .inl (fun j => nI (rv j))))] H := hP
  have hD : va_D A [(rm, .inr (4, [.int (nI cd), .ref a1, .ref a2, .ref a3, .ref a4, .ref a5, .ref a6, .ref a7, .ref a8, .ref a9, .int (nI tp), .int (nI ((lvs sp0 1).length)), .ref b1, .int (nI (bl - 1)), .ref b2, .ref b3, .int (nI jn), .int (nI sn), .ref b4, .ref b5, .ref b6, .ref b7, .ref b8, .int (nI wt), .int (nI wm), .int (nI wg), .long (lN wo), .int (nI wd), .ref b9])), (b1, .inl (cJ, 14000, .inr (.inl (fun j => lN (nd0 j))))), (a4, .inl (cI, 25, .inl sz)), (a5, .inl (cI, 25, .inl lf)), (a6, .inl (cI, 25, .inl rt)), (a9, .inl (cI, 25, .inl (fun j => nI (kp j)))), (b2, .inl (cI, 256, .inl (fun j => nI (ba j)))), (b3, .inl (cI, 256, .inl (fun j => nI (rv j))))] := hD
  refine lv_aload_n hx hb dX4_freeBlock_21 rfl (lv_at hl 1 rfl) ?_
  refine va_get (D := g) (ci := 4) (v := .ref b2) (C := RX4) (T := TX4) (N := 29) hx hb hts hinX4 hown hK hP 0 rfl rfl 14 (by decide) (hts (.fieldLink RX4 42 "BuddyRoofModel" "blockAt" "[I") (by decide +kernel)) (fun _ h9 => h9) rfl dX4_freeBlock_22 ?_
  refine lv_iload_n hx hb dX4_freeBlock_25 rfl (lv_at hl 2 rfl) ?_
  refine lv_aload_n hx hb dX4_freeBlock_26 rfl (lv_at hl 1 rfl) ?_
  refine va_get (D := g) (ci := 4) (v := .ref b2) (C := RX4) (T := TX4) (N := 29) hx hb hts hinX4 hown hK hP 0 rfl rfl 14 (by decide) (hts (.fieldLink RX4 42 "BuddyRoofModel" "blockAt" "[I") (by decide +kernel)) (fun _ h9 => h9) rfl dX4_freeBlock_27 ?_
  refine lv_aload_n hx hb dX4_freeBlock_30 rfl (lv_at hl 1 rfl) ?_
  refine va_get (D := g) (ci := 4) (v := .int (nI (bl - 1))) (C := RX4) (T := TX4) (N := 29) hx hb hts hinX4 hown hK hP 0 rfl rfl 13 (by decide) (hts (.fieldLink RX4 103 "BuddyRoofModel" "blocks" "I") (by decide +kernel)) (fun _ h9 => h9) rfl dX4_freeBlock_31 ?_
  refine n_ald (v := nI (ba (bl - 1))) hx hb hK hP 6 0 rfl rfl (i := (bl - 1)) (by omega) (by decide) rfl dX4_freeBlock_34 ?_
  refine n_ast hx hb hK hP hD hS 6 0 rfl rfl (i := b0) (v := (ba (bl - 1))) (by omega) (by decide) dX4_freeBlock_35 (fun H locs hP hD hS => ?_)
  have hP : va_P g vwCl [(rm, .inr (4, [.int (nI cd), .ref a1, .ref a2, .ref a3, .ref a4, .ref a5, .ref a6, .ref a7, .ref a8, .ref a9, .int (nI tp), .int (nI ((lvs sp0 1).length)), .ref b1, .int (nI (bl - 1)), .ref b2, .ref b3, .int (nI jn), .int (nI sn), .ref b4, .ref b5, .ref b6, .ref b7, .ref b8, .int (nI wt), .int (nI wm), .int (nI wg), .long (lN wo), .int (nI wd), .ref b9])), (b1, .inl (cJ, 14000, .inr (.inl (fun j => lN (nd0 j))))), (a4, .inl (cI, 25, .inl sz)), (a5, .inl (cI, 25, .inl lf)), (a6, .inl (cI, 25, .inl rt)), (a9, .inl (cI, 25, .inl (fun j => nI (kp j)))), (b2, .inl (cI, 256, .inl (fun j => nI ((upN ba b0 (ba (bl - 1))) j)))), (b3, .inl (cI, 256, .inl (fun j => nI (rv j))))] H := hP
  have hD : va_D A [(rm, .inr (4, [.int (nI cd), .ref a1, .ref a2, .ref a3, .ref a4, .ref a5, .ref a6, .ref a7, .ref a8, .ref a9, .int (nI tp), .int (nI ((lvs sp0 1).length)), .ref b1, .int (nI (bl - 1)), .ref b2, .ref b3, .int (nI jn), .int (nI sn), .ref b4, .ref b5, .ref b6, .ref b7, .ref b8, .int (nI wt), .int (nI wm), .int (nI wg), .long (lN wo), .int (nI wd), .ref b9])), (b1, .inl (cJ, 14000, .inr (.inl (fun j => lN (nd0 j))))), (a4, .inl (cI, 25, .inl sz)), (a5, .inl (cI, 25, .inl lf)), (a6, .inl (cI, 25, .inl rt)), (a9, .inl (cI, 25, .inl (fun j => nI (kp j)))), (b2, .inl (cI, 256, .inl (fun j => nI ((upN ba b0 (ba (bl - 1))) j)))), (b3, .inl (cI, 256, .inl (fun j => nI (rv j))))] := hD
  refine lv_aload_n hx hb dX4_freeBlock_36 rfl (lv_at hl 1 rfl) ?_
  refine va_get (D := g) (ci := 4) (v := .ref b3) (C := RX4) (T := TX4) (N := 29) hx hb hts hinX4 hown hK hP 0 rfl rfl 15 (by decide) (hts (.fieldLink RX4 45 "BuddyRoofModel" "request" "[I") (by decide +kernel)) (fun _ h9 => h9) rfl dX4_freeBlock_37 ?_
  refine lv_iload_n hx hb dX4_freeBlock_40 rfl (lv_at hl 2 rfl) ?_
  refine lv_aload_n hx hb dX4_freeBlock_41 rfl (lv_at hl 1 rfl) ?_
  refine va_get (D := g) (ci := 4) (v := .ref b3) (C := RX4) (T := TX4) (N := 29) hx hb hts hinX4 hown hK hP 0 rfl rfl 15 (by decide) (hts (.fieldLink RX4 45 "BuddyRoofModel" "request" "[I") (by decide +kernel)) (fun _ h9 => h9) rfl dX4_freeBlock_42 ?_
  refine lv_aload_n hx hb dX4_freeBlock_45 rfl (lv_at hl 1 rfl) ?_
  refine va_get (D := g) (ci := 4) (v := .int (nI (bl - 1))) (C := RX4) (T := TX4) (N := 29) hx hb hts hinX4 hown hK hP 0 rfl rfl 13 (by decide) (hts (.fieldLink RX4 103 "BuddyRoofModel" "blocks" "I") (by decide +kernel)) (fun _ h9 => h9) rfl dX4_freeBlock_46 ?_
  refine n_ald (v := nI (rv (bl - 1))) hx hb hK hP 7 0 rfl rfl (i := (bl - 1)) (by omega) (by decide) rfl dX4_freeBlock_49 ?_
  refine n_ast hx hb hK hP hD hS 7 0 rfl rfl (i := b0) (v := (rv (bl - 1))) (by omega) (by decide) dX4_freeBlock_50 (fun H locs hP hD hS => ?_)
  have hP : va_P g vwCl [(rm, .inr (4, [.int (nI cd), .ref a1, .ref a2, .ref a3, .ref a4, .ref a5, .ref a6, .ref a7, .ref a8, .ref a9, .int (nI tp), .int (nI ((lvs sp0 1).length)), .ref b1, .int (nI (bl - 1)), .ref b2, .ref b3, .int (nI jn), .int (nI sn), .ref b4, .ref b5, .ref b6, .ref b7, .ref b8, .int (nI wt), .int (nI wm), .int (nI wg), .long (lN wo), .int (nI wd), .ref b9])), (b1, .inl (cJ, 14000, .inr (.inl (fun j => lN (nd0 j))))), (a4, .inl (cI, 25, .inl sz)), (a5, .inl (cI, 25, .inl lf)), (a6, .inl (cI, 25, .inl rt)), (a9, .inl (cI, 25, .inl (fun j => nI (kp j)))), (b2, .inl (cI, 256, .inl (fun j => nI ((upN ba b0 (ba (bl - 1))) j)))), (b3, .inl (cI, 256, .inl (fun j => nI ((upN rv b0 (rv (bl - 1))) j))))] H := hP
  have hD : va_D A [(rm, .inr (4, [.int (nI cd), .ref a1, .ref a2, .ref a3, .ref a4, .ref a5, .ref a6, .ref a7, .ref a8, .ref a9, .int (nI tp), .int (nI ((lvs sp0 1).length)), .ref b1, .int (nI (bl - 1)), .ref b2, .ref b3, .int (nI jn), .int (nI sn), .ref b4, .ref b5, .ref b6, .ref b7, .ref b8, .int (nI wt), .int (nI wm), .int (nI wg), .long (lN wo), .int (nI wd), .ref b9])), (b1, .inl (cJ, 14000, .inr (.inl (fun j => lN (nd0 j))))), (a4, .inl (cI, 25, .inl sz)), (a5, .inl (cI, 25, .inl lf)), (a6, .inl (cI, 25, .inl rt)), (a9, .inl (cI, 25, .inl (fun j => nI (kp j)))), (b2, .inl (cI, 256, .inl (fun j => nI ((upN ba b0 (ba (bl - 1))) j)))), (b3, .inl (cI, 256, .inl (fun j => nI ((upN rv b0 (rv (bl - 1))) j))))] := hD
  refine lv_aload_n hx hb dX4_freeBlock_51 rfl (lv_at hl 1 rfl) ?_
  refine va_get (D := g) (ci := 4) (v := .ref b1) (C := RX4) (T := TX4) (N := 29) hx hb hts hinX4 hown hK hP 0 rfl rfl 12 (by decide) (hts (.fieldLink RX4 38 "BuddyRoofModel" "node" "[J") (by decide +kernel)) (fun _ h9 => h9) rfl dX4_freeBlock_52 ?_
  refine lv_iload_n hx hb dX4_freeBlock_55 rfl (lv_at hl 0 rfl) ?_
  refine lv_dup2_11 hx hb dX4_freeBlock_56 rfl rfl ?_
  refine n_lald (v := lN (nd0 iy)) hx hb hK hP 1 1 rfl rfl (i := iy) (by omega) (by decide) rfl dX4_freeBlock_57 ?_
  refine lv_ldc2 hx hb (v := -34359738369) hown (hts (.constantLong RX4 154 (-34359738369)) (by decide +kernel)) dX4_freeBlock_58 ?_
  refine lv_land hx hb dX4_freeBlock_61 ?_
  refine n_topl _ (lN (wrd tp S L R (upN rq0 y 0) y)) (by rw [hW0 iy y hiy]; exact wrd_off hR hT0 hyx hry) ?_
  refine n_lastM hx hb hK hP hD hS 1 1 rfl rfl (i := iy) (v := (wrd tp S L R (upN rq0 y 0) y)) (by omega) (by decide) dX4_freeBlock_62 (fun H locs hP hD hS => ?_)
  have hP : va_P g vwCl [(rm, .inr (4, [.int (nI cd), .ref a1, .ref a2, .ref a3, .ref a4, .ref a5, .ref a6, .ref a7, .ref a8, .ref a9, .int (nI tp), .int (nI ((lvs sp0 1).length)), .ref b1, .int (nI (bl - 1)), .ref b2, .ref b3, .int (nI jn), .int (nI sn), .ref b4, .ref b5, .ref b6, .ref b7, .ref b8, .int (nI wt), .int (nI wm), .int (nI wg), .long (lN wo), .int (nI wd), .ref b9])), (b1, .inl (cJ, 14000, .inr (.inl (fun j => lN ((upN nd0 iy (wrd tp S L R (upN rq0 y 0) y)) j))))), (a4, .inl (cI, 25, .inl sz)), (a5, .inl (cI, 25, .inl lf)), (a6, .inl (cI, 25, .inl rt)), (a9, .inl (cI, 25, .inl (fun j => nI (kp j)))), (b2, .inl (cI, 256, .inl (fun j => nI ((upN ba b0 (ba (bl - 1))) j)))), (b3, .inl (cI, 256, .inl (fun j => nI ((upN rv b0 (rv (bl - 1))) j))))] H := hP
  have hD : va_D A [(rm, .inr (4, [.int (nI cd), .ref a1, .ref a2, .ref a3, .ref a4, .ref a5, .ref a6, .ref a7, .ref a8, .ref a9, .int (nI tp), .int (nI ((lvs sp0 1).length)), .ref b1, .int (nI (bl - 1)), .ref b2, .ref b3, .int (nI jn), .int (nI sn), .ref b4, .ref b5, .ref b6, .ref b7, .ref b8, .int (nI wt), .int (nI wm), .int (nI wg), .long (lN wo), .int (nI wd), .ref b9])), (b1, .inl (cJ, 14000, .inr (.inl (fun j => lN ((upN nd0 iy (wrd tp S L R (upN rq0 y 0) y)) j))))), (a4, .inl (cI, 25, .inl sz)), (a5, .inl (cI, 25, .inl lf)), (a6, .inl (cI, 25, .inl rt)), (a9, .inl (cI, 25, .inl (fun j => nI (kp j)))), (b2, .inl (cI, 256, .inl (fun j => nI ((upN ba b0 (ba (bl - 1))) j)))), (b3, .inl (cI, 256, .inl (fun j => nI ((upN rv b0 (rv (bl - 1))) j))))] := hD
  refine lv_iconst (v := nI 1) hx hb dX4_freeBlock_63 (by decide) ?_
  refine lv_istore_n (lv' := [(3, .int (nI 1)), (2, .int (nI iy)), (0, .ref rm), (1, .int (nI b0))]) hx hb dX4_freeBlock_64 rfl hl (by decide) rfl (fun ls hl => ?_)
  refine lp_X4_freeBlock_65 l g cI cJ cZ rm a1 a2 a3 a4 a5 a6 a7 a8 a9 b1 b2 b3 b4 b5 b6 b7 b8 b9 cd tp bl jn sn wt wm wg wo wd sz lf rt S L R rc sp0 rq0 nd0 kp ba rv b0 y hR hT0 hW0 hlen0 hrl hkp hbl hb0 hba hry (upN rq0 y 0) (aUp (cls tp L R) kp (upN rq0 y 0) 24 (sp0, y, 0)) ⟨hx, hb, hr, hml, hown, hts, hlocks⟩ hk hA (fun i x j sp nd hT hW hlen hZ H locs hP hD hS ls hl => ?_) _ iy y 0 24 sp0 (upN nd0 iy (wrd tp S L R (upN rq0 y 0) y)) (Nat.lt_succ_self _) rfl (by omega) hT1 hW1 hlen0 hiy (upN_s _ _ _) rfl _ _ hP hD hS ls (lv_sub hl [2, 1, 0] rfl)
  · skip
    have hP := hP.sub (ws' := [(rm, .inr (4, [.int (nI cd), .ref a1, .ref a2, .ref a3, .ref a4, .ref a5, .ref a6, .ref a7, .ref a8, .ref a9, .int (nI tp), .int (nI ((lvs sp 1).length)), .ref b1, .int (nI (bl - 1)), .ref b2, .ref b3, .int (nI (jn + j)), .int (nI sn), .ref b4, .ref b5, .ref b6, .ref b7, .ref b8, .int (nI wt), .int (nI wm), .int (nI wg), .long (lN wo), .int (nI wd), .ref b9])), (b1, .inl (cJ, 14000, .inr (.inl (fun j => lN (nd j))))), (a4, .inl (cI, 25, .inl sz)), (a5, .inl (cI, 25, .inl lf)), (a6, .inl (cI, 25, .inl rt)), (a9, .inl (cI, 25, .inl (fun j => nI (kp j)))), (b2, .inl (cI, 256, .inl (fun j => nI ((upN ba b0 (ba (bl - 1))) j)))), (b3, .inl (cI, 256, .inl (fun j => nI ((upN rv b0 (rv (bl - 1))) j))))]) [0, 1, 2, 3, 4, 5, 6, 7] rfl
    have hD := hD.sub (ws' := [(rm, .inr (4, [.int (nI cd), .ref a1, .ref a2, .ref a3, .ref a4, .ref a5, .ref a6, .ref a7, .ref a8, .ref a9, .int (nI tp), .int (nI ((lvs sp 1).length)), .ref b1, .int (nI (bl - 1)), .ref b2, .ref b3, .int (nI (jn + j)), .int (nI sn), .ref b4, .ref b5, .ref b6, .ref b7, .ref b8, .int (nI wt), .int (nI wm), .int (nI wg), .long (lN wo), .int (nI wd), .ref b9])), (b1, .inl (cJ, 14000, .inr (.inl (fun j => lN (nd j))))), (a4, .inl (cI, 25, .inl sz)), (a5, .inl (cI, 25, .inl lf)), (a6, .inl (cI, 25, .inl rt)), (a9, .inl (cI, 25, .inl (fun j => nI (kp j)))), (b2, .inl (cI, 256, .inl (fun j => nI ((upN ba b0 (ba (bl - 1))) j)))), (b3, .inl (cI, 256, .inl (fun j => nI ((upN rv b0 (rv (bl - 1))) j))))]) [0, 1, 2, 3, 4, 5, 6, 7] rfl rfl
    refine W.widen (k := 0) (n := 0) (by first | exact Nat.le_refl _ | omega) (by first | exact Nat.le_refl _ | omega) ?_
    exact k_retV (sz := 0) hx hb hr hlocks hAe hS hP hD nd (by rw [← hZ]) (by rw [← hZ]; exact hW) dX4_freeBlock_173
