set_option maxHeartbeats 4000000 in
set_option maxRecDepth 100000 in
theorem c_X2_hasLive (l : Launch) (g : va_G) (cI cJ cZ : ClassId) (h q1 q2 q3 q4 q5 q6 q7 n : Nat) (pa ch kd ad rq su un : Nat → Nat) (mk sp : Nat) (i : Nat) (hn : n < 2 ^ 31) (hi : i < n) : kR l g (kty cI cJ cZ) yX2_hasLive wsX2_hasLive ({ frames := 0, cells := 0, slots := 0, locals := 0 }) [.ref h, .int (nI i)] [(h, .inr (2, [.ref q1, .ref q2, .ref q3, .ref q4, .ref q5, .ref q6, .ref q7, .int (nI mk), .int (nI sp)])), (q1, .inl (cI, n, .inl (fun j => nI (pa j)))), (q2, .inl (cI, n, .inl (fun j => nI (ch j)))), (q3, .inl (cI, n, .inl (fun j => nI (kd j)))), (q4, .inl (cI, n, .inl (fun j => nI (ad j)))), (q5, .inl (cI, n, .inl (fun j => nI (rq j)))), (q6, .inl (cI, n, .inl (fun j => nI (su j)))), (q7, .inl (cI, n, .inl (fun j => nI (un j))))] (bI (¬ su i &&& 33554432 = 0)) := by
  refine Met.ofW (cc := cX2_hasLive) (maxL := 2) (ret := (some .boolean)) (by decide) rfl ?_
  intro p e s m args below meth c s₁ B hml hv
  obtain ⟨rfl, hP, hk⟩ := hv
  have hx := B.exec
  have hb := B.bytes
  have hr := B.returns
  have hts := atoms_spec (ws := wsX2_hasLive) B.pre
  have hown : s.vm.findClass RX2 = some m.cls := findClass_of_methodNamed B.named
  have hlocks := B.notSynchronized
  have hK := hk.1
  have hinX2 : ∀ w ∈ wsX20, w ∈ wsX2_hasLive := by decide +kernel
  have hl := lv_entry ([.ref h, .int (nI i)]) (n := 2) (Nat.le_of_ble_eq_true rfl)
  rw [lg_entry_eq]
  generalize (lg_sl ([.ref h, .int (nI i)]) ++ List.replicate (2 - (lg_sl ([.ref h, .int (nI i)])).length) Slot.unset).toArray = ls at hl ⊢
  have hl : lv_has ls 2 [(0, .ref h), (1, .int (nI i))] := hl
  refine lv_aload_n hx hb dX2_hasLive_0 rfl (lv_at hl 0 rfl) ?_
  refine va_get (D := g) (ci := 2) (v := .ref q6) (C := RX2) (T := TX2) (N := 9) hx hb hts hinX2 hown hK hP 0 rfl rfl 5 (by decide) (hts (.fieldLink RX2 27 "BuddyRoof$Tree" "summary" "[I") (by decide +kernel)) (fun _ h9 => h9) rfl dX2_hasLive_1 ?_
  refine lv_iload_n hx hb dX2_hasLive_4 rfl (lv_at hl 1 rfl) ?_
  refine n_ald (v := nI (su i)) hx hb hK hP 6 0 rfl rfl (i := i) (by first | assumption | omega) (by first | assumption | omega) rfl dX2_hasLive_5 ?_
  refine lv_ldc hx hb (v := 33554432) hown (hts (.constant RX2 44 33554432) (by decide +kernel)) dX2_hasLive_6 ?_
  refine n_top _ (nI 33554432) (by decide) ?_
  refine n_iand hx hb dX2_hasLive_8 ?_
  refine n_if_eq (tgt := 16) hx hb dX2_hasLive_9 (by decide) (by exact Nat.lt_of_le_of_lt Nat.and_le_right (by decide)) (fun c1 => ?_) (fun c1 => ?_)
  · skip
    refine lv_iconst (v := nI 0) hx hb dX2_hasLive_16 (by decide) ?_
    exact k_retRZ (v := nI 0) hx hb hr hlocks (by decide) (by unfold bI; split <;> first | rfl | (exfalso; omega)) dX2_hasLive_17
  · skip
    refine lv_iconst (v := nI 1) hx hb dX2_hasLive_12 (by decide) ?_
    refine lv_goto (tgt := 17) hx hb dX2_hasLive_13 (by decide) ?_
    exact k_retRZ (v := nI 1) hx hb hr hlocks (by decide) (by unfold bI; split <;> first | rfl | (exfalso; omega)) dX2_hasLive_17
set_option maxHeartbeats 4000000 in
set_option maxRecDepth 100000 in
theorem c_X2_hasFree (l : Launch) (g : va_G) (cI cJ cZ : ClassId) (h q1 q2 q3 q4 q5 q6 q7 n : Nat) (pa ch kd ad rq su un : Nat → Nat) (mk sp : Nat) (i : Nat) (hn : n < 2 ^ 31) (h1 : 1 < n) (hi : i < 32) (hsu : ∀ i, su i < 2 ^ 31) : kR l g (kty cI cJ cZ) yX2_hasFree wsX2_hasFree ({ frames := 0, cells := 0, slots := 0, locals := 0 }) [.ref h, .int (nI i)] [(h, .inr (2, [.ref q1, .ref q2, .ref q3, .ref q4, .ref q5, .ref q6, .ref q7, .int (nI mk), .int (nI sp)])), (q1, .inl (cI, n, .inl (fun j => nI (pa j)))), (q2, .inl (cI, n, .inl (fun j => nI (ch j)))), (q3, .inl (cI, n, .inl (fun j => nI (kd j)))), (q4, .inl (cI, n, .inl (fun j => nI (ad j)))), (q5, .inl (cI, n, .inl (fun j => nI (rq j)))), (q6, .inl (cI, n, .inl (fun j => nI (su j)))), (q7, .inl (cI, n, .inl (fun j => nI (un j))))] (bI (su 1 / 2 ^ i &&& 1 = 1)) := by
  refine Met.ofW (cc := cX2_hasFree) (maxL := 2) (ret := (some .boolean)) (by decide) rfl ?_
  intro p e s m args below meth c s₁ B hml hv
  obtain ⟨rfl, hP, hk⟩ := hv
  have hx := B.exec
  have hb := B.bytes
  have hr := B.returns
  have hts := atoms_spec (ws := wsX2_hasFree) B.pre
  have hown : s.vm.findClass RX2 = some m.cls := findClass_of_methodNamed B.named
  have hlocks := B.notSynchronized
  have hK := hk.1
  have hinX2 : ∀ w ∈ wsX20, w ∈ wsX2_hasFree := by decide +kernel
  have hl := lv_entry ([.ref h, .int (nI i)]) (n := 2) (Nat.le_of_ble_eq_true rfl)
  rw [lg_entry_eq]
  generalize (lg_sl ([.ref h, .int (nI i)]) ++ List.replicate (2 - (lg_sl ([.ref h, .int (nI i)])).length) Slot.unset).toArray = ls at hl ⊢
  have hl : lv_has ls 2 [(0, .ref h), (1, .int (nI i))] := hl
  refine lv_aload_n hx hb dX2_hasFree_0 rfl (lv_at hl 0 rfl) ?_
  refine va_get (D := g) (ci := 2) (v := .ref q6) (C := RX2) (T := TX2) (N := 9) hx hb hts hinX2 hown hK hP 0 rfl rfl 5 (by decide) (hts (.fieldLink RX2 27 "BuddyRoof$Tree" "summary" "[I") (by decide +kernel)) (fun _ h9 => h9) rfl dX2_hasFree_1 ?_
  refine lv_iconst (v := nI 1) hx hb dX2_hasFree_4 (by decide) ?_
  refine n_ald (v := nI (su 1)) hx hb hK hP 6 0 rfl rfl (i := 1) (by first | assumption | omega) (by first | assumption | omega) rfl dX2_hasFree_5 ?_
  have f1 := hsu 1
  refine lv_iload_n hx hb dX2_hasFree_6 rfl (lv_at hl 1 rfl) ?_
  refine n_ishr hx hb dX2_hasFree_7 (by first | assumption | omega) (by first | assumption | omega) ?_
  refine lv_iconst (v := nI 1) hx hb dX2_hasFree_8 (by decide) ?_
  refine n_iand hx hb dX2_hasFree_9 ?_
  refine lv_iconst (v := nI 1) hx hb dX2_hasFree_10 (by decide) ?_
  refine n_icmp_ne (tgt := 18) hx hb dX2_hasFree_11 (by decide) (by exact Nat.lt_of_le_of_lt Nat.and_le_right (by decide)) (by first | assumption | omega) (fun c2 => ?_) (fun c2 => ?_)
  · skip
    refine lv_iconst (v := nI 0) hx hb dX2_hasFree_18 (by decide) ?_
    exact k_retRZ (v := nI 0) hx hb hr hlocks (by decide) (by unfold bI; split <;> first | rfl | (exfalso; omega)) dX2_hasFree_19
  · skip
    refine lv_iconst (v := nI 1) hx hb dX2_hasFree_14 (by decide) ?_
    refine lv_goto (tgt := 19) hx hb dX2_hasFree_15 (by decide) ?_
    exact k_retRZ (v := nI 1) hx hb hr hlocks (by decide) (by unfold bI; split <;> first | rfl | (exfalso; omega)) dX2_hasFree_19
def itN (f : Nat → Nat) : Nat → Nat → Nat
  | 0, x => x
  | k + 1, x => itN f k (f x)
theorem itN_s (f : Nat → Nat) {k x : Nat} (h : 0 < k) : itN f k x = itN f (k - 1) (f x) := by
  cases k with
  | zero => omega
  | succ k => rfl
theorem mDepth_le (pa : Nat → Nat) : ∀ (k x d : Nat), mDepth pa k x d ≤ d + k := by
  intro k
  induction k with
  | zero => intro x d; exact Nat.le_refl _
  | succ k ih =>
    intro x d
    unfold mDepth
    split
    · omega
    · have := ih (pa x) (d + 1)
      omega
theorem n_sub2 {D i : Nat} (hD : D ≤ 24) (hi : i < 2 ^ 31) : (nI D - nI 1 - nI i < 0 ↔ D < 1 + i) ∧ (1 + i ≤ D → nI D - nI 1 - nI i = nI (D - 1 - i)) := by
  have e1 : (nI D - nI 1 - nI i).toInt = (D : Int) - 1 - i := by
    rw [Int32.toInt_sub, Int32.toInt_sub, nI_toInt (by omega), nI_toInt (by omega), nI_toInt hi]
    rw [Int.bmod_eq_of_le (n := (D : Int) - ((1 : Nat) : Int)) (by omega) (by omega)]
    rw [Int.bmod_eq_of_le (by omega) (by omega)]
    rfl
  refine ⟨?_, fun h => ?_⟩
  · rw [Int32.lt_iff_toInt_lt, e1, Int32.toInt_zero]
    omega
  · apply Int32.toInt_inj.mp
    rw [e1, nI_toInt (by omega)]
    omega
set_option maxHeartbeats 4000000 in
set_option maxRecDepth 100000 in
theorem lp_X2_sideAt_22 {p : Program} {e : Env} {s : State} {m : MethodId} {args : Array Value} {below : List Frame} {meth : Method} {c : Code} {Q : State → Prop} (l : Launch) (g : va_G) (cI cJ cZ : ClassId) (h q1 q2 q3 q4 q5 q6 q7 n : Nat) (pa ch kd ad rq su un : Nat → Nat) (mk sp : Nat) (i dd : Nat) (hn : n < 2 ^ 31) (hi : i < n) (hpa : ∀ i, pa i < n) (hdd : dd < 2 ^ 31) (ab rr : Nat) (hab : ab ≤ 24) (C0 : cM p s m args meth c cX2_sideAt 6 (some .int) wsX2_sideAt RX2) (hk : kK g (kty cI cJ cZ) s) {H : Heap} {locs : List Loc} (hP : va_P g vwCl [(h, .inr (2, [.ref q1, .ref q2, .ref q3, .ref q4, .ref q5, .ref q6, .ref q7, .int (nI mk), .int (nI sp)])), (q1, .inl (cI, n, .inl (fun j => nI (pa j)))), (q2, .inl (cI, n, .inl (fun j => nI (ch j)))), (q3, .inl (cI, n, .inl (fun j => nI (kd j)))), (q4, .inl (cI, n, .inl (fun j => nI (ad j)))), (q5, .inl (cI, n, .inl (fun j => nI (rq j)))), (q6, .inl (cI, n, .inl (fun j => nI (su j)))), (q7, .inl (cI, n, .inl (fun j => nI (un j))))] H) (kk0 : ∀ (x : Nat), (x = rr) → ∀ (ls : Array Slot), lv_has ls 6 [(4, .int (nI x))] → W p l e (headSpec wsX2_sideAt ({ frames := 1, cells := 0, slots := 0, locals := 23 })).room s m args below meth c H locs 0 0 Q (F0 m 43 ls [])) :
    ∀ (K : Nat) (k j x : Nat), k < K → (j + k = ab) → (x < n) → (itN pa k x = rr) → ∀ (ls : Array Slot), lv_has ls 6 [(0, .ref h), (3, .int (nI ab)), (4, .int (nI x)), (5, .int (nI j))] → W p l e (headSpec wsX2_sideAt ({ frames := 1, cells := 0, slots := 0, locals := 23 })).room s m args below meth c H locs 0 0 Q (F0 m 22 ls []) := by
  obtain ⟨hx, hb, hr, hml, hown, hts, hlocks⟩ := C0
  have hK := hk.1
  have hinX2 : ∀ w ∈ wsX20, w ∈ wsX2_sideAt := by decide +kernel
  intro K
  induction K with
  | zero =>
    intro k j x h0
    exact absurd h0 (Nat.not_lt_zero _)
  | succ K ih =>
    intro k j x hmu hf hx1 hR ls hl
    refine lv_iload hx hb dX2_sideAt_22 (lv_at hl 3 rfl) ?_
    refine lv_iload_n hx hb dX2_sideAt_24 rfl (lv_at hl 1 rfl) ?_
    refine n_icmp_ge (tgt := 43) hx hb dX2_sideAt_25 (by decide) (by first | assumption | omega) (by first | assumption | omega) (fun c4 => ?_) (fun c4 => ?_)
    · skip
      exact kk0 x (by rw [← hR, show k = 0 by omega]; rfl) ls (lv_sub hl [2] rfl)
    · skip
      refine lv_aload_n hx hb dX2_sideAt_28 rfl (lv_at hl 0 rfl) ?_
      refine va_get (D := g) (ci := 2) (v := .ref q1) (C := RX2) (T := TX2) (N := 9) hx hb hts hinX2 hown hK hP 0 rfl rfl 0 (by decide) (hts (.fieldLink RX2 11 "BuddyRoof$Tree" "parent" "[I") (by decide +kernel)) (fun _ h9 => h9) rfl dX2_sideAt_29 ?_
      refine lv_iload hx hb dX2_sideAt_32 (lv_at hl 2 rfl) ?_
      refine n_ald (v := nI (pa x)) hx hb hK hP 1 0 rfl rfl (i := x) (by first | assumption | omega) (by first | assumption | omega) rfl dX2_sideAt_34 ?_
      have f5 := hpa x
      refine lv_istore (lv' := [(4, .int (nI (pa x))), (0, .ref h), (3, .int (nI ab)), (5, .int (nI j))]) hx hb dX2_sideAt_35 hl (by decide) rfl (fun ls hl => ?_)
      refine lv_iinc (v := nI (j + 1)) (lv' := [(5, .int (nI (j + 1))), (4, .int (nI (pa x))), (0, .ref h), (3, .int (nI ab))]) hx hb dX2_sideAt_37 hl (k := 3) rfl (n_inc _ 1) (by decide) rfl (fun ls hl => ?_)
      refine lv_goto (tgt := 22) hx hb dX2_sideAt_40 (by decide) ?_
      exact ih (k - 1) (j + 1) (pa x) (by omega) (by omega) (hpa x) (by rw [← hR]; exact (itN_s pa (by omega)).symm) ls (lv_sub hl [2, 3, 1, 0] rfl)

set_option maxHeartbeats 4000000 in
set_option maxRecDepth 100000 in
theorem c_X2_sideAt (l : Launch) (g : va_G) (cI cJ cZ : ClassId) (h q1 q2 q3 q4 q5 q6 q7 n : Nat) (pa ch kd ad rq su un : Nat → Nat) (mk sp : Nat) (i dd : Nat) (hn : n < 2 ^ 31) (hi : i < n) (hpa : ∀ i, pa i < n) (hdd : dd < 2 ^ 31) : kR l g (kty cI cJ cZ) yX2_sideAt wsX2_sideAt ({ frames := 1, cells := 0, slots := 0, locals := 23 }) [.ref h, .int (nI i), .int (nI dd)] [(h, .inr (2, [.ref q1, .ref q2, .ref q3, .ref q4, .ref q5, .ref q6, .ref q7, .int (nI mk), .int (nI sp)])), (q1, .inl (cI, n, .inl (fun j => nI (pa j)))), (q2, .inl (cI, n, .inl (fun j => nI (ch j)))), (q3, .inl (cI, n, .inl (fun j => nI (kd j)))), (q4, .inl (cI, n, .inl (fun j => nI (ad j)))), (q5, .inl (cI, n, .inl (fun j => nI (rq j)))), (q6, .inl (cI, n, .inl (fun j => nI (su j)))), (q7, .inl (cI, n, .inl (fun j => nI (un j))))] (if mDepth pa 24 i 0 < 1 + dd then -1 else nI (itN pa (mDepth pa 24 i 0 - 1 - dd) i &&& 1)) := by
  refine Met.ofW (cc := cX2_sideAt) (maxL := 6) (ret := (some .int)) (by decide) rfl ?_
  intro p e s m args below meth c s₁ B hml hv
  obtain ⟨rfl, hP, hk⟩ := hv
  have hx := B.exec
  have hb := B.bytes
  have hr := B.returns
  have hts := atoms_spec (ws := wsX2_sideAt) B.pre
  have hown : s.vm.findClass RX2 = some m.cls := findClass_of_methodNamed B.named
  have hlocks := B.notSynchronized
  have hK := hk.1
  have hinX2 : ∀ w ∈ wsX20, w ∈ wsX2_sideAt := by decide +kernel
  have hl := lv_entry ([.ref h, .int (nI i), .int (nI dd)]) (n := 6) (Nat.le_of_ble_eq_true rfl)
  rw [lg_entry_eq]
  generalize (lg_sl ([.ref h, .int (nI i), .int (nI dd)]) ++ List.replicate (6 - (lg_sl ([.ref h, .int (nI i), .int (nI dd)])).length) Slot.unset).toArray = ls at hl ⊢
  have hl : lv_has ls 6 [(0, .ref h), (1, .int (nI i)), (2, .int (nI dd))] := hl
  refine lv_aload_n hx hb dX2_sideAt_0 rfl (lv_at hl 0 rfl) ?_
  refine lv_iload_n hx hb dX2_sideAt_1 rfl (lv_at hl 1 rfl) ?_
  refine k_goR (W.runV (As := [.int (nI i)]) (rest := []) ⟨hx, hb, hml, hown, hts⟩ (c_X2_depthOf l g cI cJ cZ h q1 q2 q3 q4 q5 q6 q7 n pa ch kd ad rq su un mk sp i hn hi hpa) (cwV 1 hts gX2_sideAt_X2_depthOf rfl rfl rfl (by decide +kernel) ⟨Nat.le_of_ble_eq_true rfl, Nat.le_of_ble_eq_true rfl⟩) (k_preRV hk hP [0, 1, 2, 3, 4, 5, 6, 7] rfl (ci := 2) (q0 := 0) rfl rfl) rfl rfl hl.1 rfl (lv_room (Nat.le_of_ble_eq_true rfl)) dX2_sideAt_2 ⟨by first | exact Nat.zero_le _ | omega, by first | exact Nat.zero_le _ | omega⟩) ?_
  refine lv_iconst (v := nI 1) hx hb dX2_sideAt_5 (by decide) ?_
  refine lv_isub hx hb dX2_sideAt_6 ?_
  refine n_top _ (nI (mDepth pa 24 i 0) - nI 1) (by rfl) ?_
  refine lv_iload_n hx hb dX2_sideAt_7 rfl (lv_at hl 2 rfl) ?_
  refine lv_isub hx hb dX2_sideAt_8 ?_
  refine n_top _ (nI (mDepth pa 24 i 0) - nI 1 - nI dd) (by rfl) ?_
  refine lv_istore_n (lv' := [(3, .int (nI (mDepth pa 24 i 0) - nI 1 - nI dd)), (0, .ref h), (1, .int (nI i)), (2, .int (nI dd))]) hx hb dX2_sideAt_9 rfl hl (by decide) rfl (fun ls hl => ?_)
  refine lv_iload_n hx hb dX2_sideAt_10 rfl (lv_at hl 0 rfl) ?_
  refine lv_if_ge (tgt := 16) hx hb dX2_sideAt_11 (by decide) (fun c1 => ?_) (fun c1 => ?_)
  · skip
    have hD24 := mDepth_le pa 24 i 0
    have h9 := (n_sub2 (D := mDepth pa 24 i 0) (i := dd) (by omega) hdd)
    have h8 : 1 + dd ≤ mDepth pa 24 i 0 := Nat.not_lt.mp (fun q => Int32.not_le.mpr (h9.1.mpr q) c1)
    rw [h9.2 h8] at hl
    refine lv_iload_n hx hb dX2_sideAt_16 rfl (lv_at hl 2 rfl) ?_
    refine lv_istore (lv' := [(4, .int (nI i)), (3, .int (nI (mDepth pa 24 i 0 - 1 - dd))), (0, .ref h), (1, .int (nI i)), (2, .int (nI dd))]) hx hb dX2_sideAt_17 hl (by decide) rfl (fun ls hl => ?_)
    refine lv_iconst (v := nI 0) hx hb dX2_sideAt_19 (by decide) ?_
    refine lv_istore (lv' := [(5, .int (nI 0)), (4, .int (nI i)), (3, .int (nI (mDepth pa 24 i 0 - 1 - dd))), (0, .ref h), (1, .int (nI i)), (2, .int (nI dd))]) hx hb dX2_sideAt_20 hl (by decide) rfl (fun ls hl => ?_)
    refine lp_X2_sideAt_22 l g cI cJ cZ h q1 q2 q3 q4 q5 q6 q7 n pa ch kd ad rq su un mk sp i dd hn hi hpa hdd (mDepth pa 24 i 0 - 1 - dd) (itN pa (mDepth pa 24 i 0 - 1 - dd) i) (by omega) ⟨hx, hb, hr, hml, hown, hts, hlocks⟩ hk hP (fun x hd ls hl => ?_) _ (mDepth pa 24 i 0 - 1 - dd) 0 i (Nat.lt_succ_self _) (by omega) hi rfl ls (lv_sub hl [3, 2, 1, 0] rfl)
    · skip
      refine lv_iload hx hb dX2_sideAt_43 (lv_at hl 0 rfl) ?_
      refine lv_iconst (v := nI 1) hx hb dX2_sideAt_45 (by decide) ?_
      refine n_iand hx hb dX2_sideAt_46 ?_
      exact k_retR (v := nI (x &&& 1)) hx hb hr hlocks (by rw [if_neg (by omega), hd]) dX2_sideAt_47
  · skip
    have hD24 := mDepth_le pa 24 i 0
    have h9 := (n_sub2 (D := mDepth pa 24 i 0) (i := dd) (by omega) hdd)
    have h8 : mDepth pa 24 i 0 < 1 + dd := h9.1.mp (Int32.not_le.mp c1)
    refine lv_iconst (v := (-1)) hx hb dX2_sideAt_14 (by decide) ?_
    exact k_retR (v := -1) hx hb hr hlocks ((if_pos h8).symm) dX2_sideAt_15
