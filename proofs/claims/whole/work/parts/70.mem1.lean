set_option maxHeartbeats 4000000 in
set_option maxRecDepth 100000 in
theorem c_X0_sizeOf (l : Launch) (g : va_G) (cI cJ cZ : ClassId) (mh kr kq fq bq gq : Nat) (rcv ncl bl rd hd jn sn : Nat) (fo : Nat → Nat) (r1 r2 r3 r4 : Nat) (sz lf rt tr : Nat → Int32) (h q1 q2 q3 q4 q5 q6 q7 n : Nat) (pa ch kd ad ra su un : Nat → Nat) (mk sv : Nat) (i z : Nat) (hn : n < 2 ^ 31) (hi : i < n) (hkd : ∀ i, kd i ≤ 24) (hz : sz (kd i) = nI z) : kR l g (kty cI cJ cZ) yX0_sizeOf wsX0_sizeOf ({ frames := 1, cells := 0, slots := 0, locals := 21 }) [.ref mh, .int (nI i)] [(mh, .inr (0, [.ref kr, .ref h, .ref kq, .ref fq, .ref bq, .ref gq, .int (nI rcv), .int (nI ncl), .int (nI bl), .int (nI rd), .int (nI hd), .int (nI jn), .int (nI sn)])), (kr, .inr (1, [.ref r1, .ref r2, .ref r3, .ref r4])), (r1, .inl (cI, 25, .inl sz)), (r2, .inl (cI, 25, .inl lf)), (r3, .inl (cI, 25, .inl rt)), (r4, .inl (cI, 25, .inl tr)), (h, .inr (2, [.ref q1, .ref q2, .ref q3, .ref q4, .ref q5, .ref q6, .ref q7, .int (nI mk), .int (nI sv)])), (q1, .inl (cI, n, .inl (fun j => nI (pa j)))), (q2, .inl (cI, n, .inl (fun j => nI (ch j)))), (q3, .inl (cI, n, .inl (fun j => nI (kd j)))), (q4, .inl (cI, n, .inl (fun j => nI (ad j)))), (q5, .inl (cI, n, .inl (fun j => nI (ra j)))), (q6, .inl (cI, n, .inl (fun j => nI (su j)))), (q7, .inl (cI, n, .inl (fun j => nI (un j))))] (nI z) := by
  refine Met.ofW (cc := cX0_sizeOf) (maxL := 2) (ret := (some .int)) (by decide) rfl ?_
  intro p e s m args below meth c s₁ B hml hv
  obtain ⟨rfl, hP, hk⟩ := hv
  have hx := B.exec
  have hb := B.bytes
  have hr := B.returns
  have hts := atoms_spec (ws := wsX0_sizeOf) B.pre
  have hown : s.vm.findClass RX0 = some m.cls := findClass_of_methodNamed B.named
  have hlocks := B.notSynchronized
  have hK := hk.1
  have hinX0 : ∀ w ∈ wsX00, w ∈ wsX0_sizeOf := by decide +kernel
  have hinX1 : ∀ w ∈ wsX10, w ∈ wsX0_sizeOf := by decide +kernel
  have hl := lv_entry ([.ref mh, .int (nI i)]) (n := 2) (Nat.le_of_ble_eq_true rfl)
  rw [lg_entry_eq]
  generalize (lg_sl ([.ref mh, .int (nI i)]) ++ List.replicate (2 - (lg_sl ([.ref mh, .int (nI i)])).length) Slot.unset).toArray = ls at hl ⊢
  have hl : lv_has ls 2 [(0, .ref mh), (1, .int (nI i))] := hl
  refine lv_aload_n hx hb dX0_sizeOf_0 rfl (lv_at hl 0 rfl) ?_
  refine va_get (D := g) (ci := 0) (v := .ref kr) (C := RX0) (T := TX0) (N := 13) hx hb hts hinX0 hown hK hP 0 rfl rfl 0 (by decide) (hts (.fieldLink RX0 12 "BuddyRoof$Memory" "rule" "LBuddyRoof$Rule;") (by decide +kernel)) (fun _ h9 => h9) rfl dX0_sizeOf_1 ?_
  refine va_getN (D := g) (host := "BuddyRoof") (ci := 1) (v := .ref r1) (C := RX1) (T := TX1) (N := 4) hx hb hts hinX1 hown hK hP 1 rfl rfl 0 (by decide) (hk.2.f (h := "BuddyRoof") (by decide +kernel)) (fun _ h9 => h9) rfl dX0_sizeOf_4 ?_
  refine lv_aload_n hx hb dX0_sizeOf_7 rfl (lv_at hl 0 rfl) ?_
  refine va_get (D := g) (ci := 0) (v := .ref h) (C := RX0) (T := TX0) (N := 13) hx hb hts hinX0 hown hK hP 0 rfl rfl 1 (by decide) (hts (.fieldLink RX0 21 "BuddyRoof$Memory" "tree" "LBuddyRoof$Tree;") (by decide +kernel)) (fun _ h9 => h9) rfl dX0_sizeOf_8 ?_
  refine lv_iload_n hx hb dX0_sizeOf_11 rfl (lv_at hl 1 rfl) ?_
  refine k_goR (W.runV (As := [.int (nI i)]) (rest := [.ref r1]) ⟨hx, hb, hml, hown, hts⟩ (c_X2_kindOf l g cI cJ cZ h q1 q2 q3 q4 q5 q6 q7 n pa ch kd ad ra su un mk sv i hn hi) (cwV 1 hts gX0_sizeOf_X2_kindOf rfl rfl rfl (by decide +kernel) ⟨Nat.le_of_ble_eq_true rfl, Nat.le_of_ble_eq_true rfl⟩) (k_preRV hk hP [6, 7, 8, 9, 10, 11, 12, 13] rfl (ci := 2) (q0 := 0) rfl rfl) rfl rfl hl.1 rfl (lv_room (Nat.le_of_ble_eq_true rfl)) dX0_sizeOf_12 ⟨by first | exact Nat.zero_le _ | omega, by first | exact Nat.zero_le _ | omega⟩) ?_
  refine n_ald (v := nI z) hx hb hK hP 2 0 rfl rfl (i := (kd i)) (by have := hkd i; omega) (by first | assumption | omega) (by exact hz) dX0_sizeOf_15 ?_
  exact k_retR (v := nI z) hx hb hr hlocks (rfl) dX0_sizeOf_16
set_option maxHeartbeats 4000000 in
set_option maxRecDepth 100000 in
theorem c_X0_isFull (l : Launch) (g : va_G) (cI cJ cZ : ClassId) (mh kr kq fq bq gq : Nat) (rcv ncl bl rd hd jn sn : Nat) (fo : Nat → Nat) (h : Nat) (hb : bl < 2 ^ 31) : kR l g (kty cI cJ cZ) yX0_isFull wsX0_isFull ({ frames := 0, cells := 0, slots := 0, locals := 0 }) [.ref mh] [(mh, .inr (0, [.ref kr, .ref h, .ref kq, .ref fq, .ref bq, .ref gq, .int (nI rcv), .int (nI ncl), .int (nI bl), .int (nI rd), .int (nI hd), .int (nI jn), .int (nI sn)]))] (bI (256 ≤ bl)) := by
  refine Met.ofW (cc := cX0_isFull) (maxL := 1) (ret := (some .boolean)) (by decide) rfl ?_
  intro p e s m args below meth c s₁ B hml hv
  obtain ⟨rfl, hP, hk⟩ := hv
  have hx := B.exec
  have hb := B.bytes
  have hr := B.returns
  have hts := atoms_spec (ws := wsX0_isFull) B.pre
  have hown : s.vm.findClass RX0 = some m.cls := findClass_of_methodNamed B.named
  have hlocks := B.notSynchronized
  have hK := hk.1
  have hinX0 : ∀ w ∈ wsX00, w ∈ wsX0_isFull := by decide +kernel
  have hl := lv_entry ([.ref mh]) (n := 1) (Nat.le_of_ble_eq_true rfl)
  rw [lg_entry_eq]
  generalize (lg_sl ([.ref mh]) ++ List.replicate (1 - (lg_sl ([.ref mh])).length) Slot.unset).toArray = ls at hl ⊢
  have hl : lv_has ls 1 [(0, .ref mh)] := hl
  refine lv_aload_n hx hb dX0_isFull_0 rfl (lv_at hl 0 rfl) ?_
  refine va_get (D := g) (ci := 0) (v := .int (nI bl)) (C := RX0) (T := TX0) (N := 13) hx hb hts hinX0 hown hK hP 0 rfl rfl 8 (by decide) (hts (.fieldLink RX0 45 "BuddyRoof$Memory" "blocks" "I") (by decide +kernel)) (fun _ h9 => h9) rfl dX0_isFull_1 ?_
  refine lv_sipush (v := nI 256) hx hb dX0_isFull_4 (by decide) ?_
  refine n_icmp_lt (tgt := 14) hx hb dX0_isFull_7 (by decide) (by first | assumption | omega) (by first | assumption | omega) (fun c1 => ?_) (fun c1 => ?_)
  · skip
    refine lv_iconst (v := nI 0) hx hb dX0_isFull_14 (by decide) ?_
    exact k_retRZ (v := nI 0) hx hb hr hlocks (by decide) (by unfold bI; split <;> first | rfl | (exfalso; omega)) dX0_isFull_15
  · skip
    refine lv_iconst (v := nI 1) hx hb dX0_isFull_10 (by decide) ?_
    refine lv_goto (tgt := 15) hx hb dX0_isFull_11 (by decide) ?_
    exact k_retRZ (v := nI 1) hx hb hr hlocks (by decide) (by unfold bI; split <;> first | rfl | (exfalso; omega)) dX0_isFull_15
set_option maxHeartbeats 4000000 in
set_option maxRecDepth 100000 in
theorem c_X0_reaches (l : Launch) (g : va_G) (cI cJ cZ : ClassId) (mh kr kq fq bq gq : Nat) (rcv ncl bl rd hd jn sn : Nat) (fo : Nat → Nat) (h : Nat) (i : Nat) (hr : rcv < 2 ^ 31) (hi : i < 32) : kR l g (kty cI cJ cZ) yX0_reaches wsX0_reaches ({ frames := 0, cells := 0, slots := 0, locals := 0 }) [.ref mh, .int (nI i)] [(mh, .inr (0, [.ref kr, .ref h, .ref kq, .ref fq, .ref bq, .ref gq, .int (nI rcv), .int (nI ncl), .int (nI bl), .int (nI rd), .int (nI hd), .int (nI jn), .int (nI sn)]))] (bI (rcv / 2 ^ i &&& 1 = 1)) := by
  refine Met.ofW (cc := cX0_reaches) (maxL := 2) (ret := (some .boolean)) (by decide) rfl ?_
  intro p e s m args below meth c s₁ B hml hv
  obtain ⟨rfl, hP, hk⟩ := hv
  have hx := B.exec
  have hb := B.bytes
  have hr := B.returns
  have hts := atoms_spec (ws := wsX0_reaches) B.pre
  have hown : s.vm.findClass RX0 = some m.cls := findClass_of_methodNamed B.named
  have hlocks := B.notSynchronized
  have hK := hk.1
  have hinX0 : ∀ w ∈ wsX00, w ∈ wsX0_reaches := by decide +kernel
  have hl := lv_entry ([.ref mh, .int (nI i)]) (n := 2) (Nat.le_of_ble_eq_true rfl)
  rw [lg_entry_eq]
  generalize (lg_sl ([.ref mh, .int (nI i)]) ++ List.replicate (2 - (lg_sl ([.ref mh, .int (nI i)])).length) Slot.unset).toArray = ls at hl ⊢
  have hl : lv_has ls 2 [(0, .ref mh), (1, .int (nI i))] := hl
  refine lv_aload_n hx hb dX0_reaches_0 rfl (lv_at hl 0 rfl) ?_
  refine va_get (D := g) (ci := 0) (v := .int (nI rcv)) (C := RX0) (T := TX0) (N := 13) hx hb hts hinX0 hown hK hP 0 rfl rfl 6 (by decide) (hts (.fieldLink RX0 38 "BuddyRoof$Memory" "reached" "I") (by decide +kernel)) (fun _ h9 => h9) rfl dX0_reaches_1 ?_
  refine lv_iload_n hx hb dX0_reaches_4 rfl (lv_at hl 1 rfl) ?_
  refine n_ishr hx hb dX0_reaches_5 (by first | assumption | omega) (by first | assumption | omega) ?_
  refine lv_iconst (v := nI 1) hx hb dX0_reaches_6 (by decide) ?_
  refine n_iand hx hb dX0_reaches_7 ?_
  refine lv_iconst (v := nI 1) hx hb dX0_reaches_8 (by decide) ?_
  refine n_icmp_ne (tgt := 16) hx hb dX0_reaches_9 (by decide) (by exact Nat.lt_of_le_of_lt Nat.and_le_right (by decide)) (by first | assumption | omega) (fun c1 => ?_) (fun c1 => ?_)
  · skip
    refine lv_iconst (v := nI 0) hx hb dX0_reaches_16 (by decide) ?_
    exact k_retRZ (v := nI 0) hx hb hr hlocks (by decide) (by unfold bI; split <;> first | rfl | (exfalso; omega)) dX0_reaches_17
  · skip
    refine lv_iconst (v := nI 1) hx hb dX0_reaches_12 (by decide) ?_
    refine lv_goto (tgt := 17) hx hb dX0_reaches_13 (by decide) ?_
    exact k_retRZ (v := nI 1) hx hb hr hlocks (by decide) (by unfold bI; split <;> first | rfl | (exfalso; omega)) dX0_reaches_17
set_option maxHeartbeats 4000000 in
set_option maxRecDepth 100000 in
theorem c_X0_isTooMany (l : Launch) (g : va_G) (cI cJ cZ : ClassId) (mh kr kq fq bq gq : Nat) (rcv ncl bl rd hd jn sn : Nat) (fo : Nat → Nat) (h : Nat) (kp : Nat → Nat) (i : Nat) (hi : i < 25) (hf : ∀ j, fo j < 2 ^ 31) (hkp : ∀ j, kp j < 2 ^ 31) : kR l g (kty cI cJ cZ) yX0_isTooMany wsX0_isTooMany ({ frames := 0, cells := 0, slots := 0, locals := 0 }) [.ref mh, .int (nI i)] [(mh, .inr (0, [.ref kr, .ref h, .ref kq, .ref fq, .ref bq, .ref gq, .int (nI rcv), .int (nI ncl), .int (nI bl), .int (nI rd), .int (nI hd), .int (nI jn), .int (nI sn)])), (fq, .inl (cI, 25, .inl (fun j => nI (fo j)))), (kq, .inl (cI, 25, .inl (fun j => nI (kp j))))] (bI (kp i < fo i)) := by
  refine Met.ofW (cc := cX0_isTooMany) (maxL := 2) (ret := (some .boolean)) (by decide) rfl ?_
  intro p e s m args below meth c s₁ B hml hv
  obtain ⟨rfl, hP, hk⟩ := hv
  have hx := B.exec
  have hb := B.bytes
  have hr := B.returns
  have hts := atoms_spec (ws := wsX0_isTooMany) B.pre
  have hown : s.vm.findClass RX0 = some m.cls := findClass_of_methodNamed B.named
  have hlocks := B.notSynchronized
  have hK := hk.1
  have hinX0 : ∀ w ∈ wsX00, w ∈ wsX0_isTooMany := by decide +kernel
  have hl := lv_entry ([.ref mh, .int (nI i)]) (n := 2) (Nat.le_of_ble_eq_true rfl)
  rw [lg_entry_eq]
  generalize (lg_sl ([.ref mh, .int (nI i)]) ++ List.replicate (2 - (lg_sl ([.ref mh, .int (nI i)])).length) Slot.unset).toArray = ls at hl ⊢
  have hl : lv_has ls 2 [(0, .ref mh), (1, .int (nI i))] := hl
  refine lv_aload_n hx hb dX0_isTooMany_0 rfl (lv_at hl 0 rfl) ?_
  refine va_get (D := g) (ci := 0) (v := .ref fq) (C := RX0) (T := TX0) (N := 13) hx hb hts hinX0 hown hK hP 0 rfl rfl 3 (by decide) (hts (.fieldLink RX0 29 "BuddyRoof$Memory" "freeOf" "[I") (by decide +kernel)) (fun _ h9 => h9) rfl dX0_isTooMany_1 ?_
  refine lv_iload_n hx hb dX0_isTooMany_4 rfl (lv_at hl 1 rfl) ?_
  refine n_ald (v := nI (fo i)) hx hb hK hP 1 0 rfl rfl (i := i) (by first | assumption | omega) (by decide) rfl dX0_isTooMany_5 ?_
  refine lv_aload_n hx hb dX0_isTooMany_6 rfl (lv_at hl 0 rfl) ?_
  refine va_get (D := g) (ci := 0) (v := .ref kq) (C := RX0) (T := TX0) (N := 13) hx hb hts hinX0 hown hK hP 0 rfl rfl 2 (by decide) (hts (.fieldLink RX0 25 "BuddyRoof$Memory" "kept" "[I") (by decide +kernel)) (fun _ h9 => h9) rfl dX0_isTooMany_7 ?_
  refine lv_iload_n hx hb dX0_isTooMany_10 rfl (lv_at hl 1 rfl) ?_
  refine n_ald (v := nI (kp i)) hx hb hK hP 2 0 rfl rfl (i := i) (by first | assumption | omega) (by decide) rfl dX0_isTooMany_11 ?_
  refine n_icmp_le (tgt := 19) hx hb dX0_isTooMany_12 (by decide) (by exact hf _) (by exact hkp _) (fun c1 => ?_) (fun c1 => ?_)
  · skip
    refine lv_iconst (v := nI 0) hx hb dX0_isTooMany_19 (by decide) ?_
    exact k_retRZ (v := nI 0) hx hb hr hlocks (by decide) (by unfold bI; split <;> first | rfl | (exfalso; omega)) dX0_isTooMany_20
  · skip
    refine lv_iconst (v := nI 1) hx hb dX0_isTooMany_15 (by decide) ?_
    refine lv_goto (tgt := 20) hx hb dX0_isTooMany_16 (by decide) ?_
    exact k_retRZ (v := nI 1) hx hb hr hlocks (by decide) (by unfold bI; split <;> first | rfl | (exfalso; omega)) dX0_isTooMany_20
set_option maxHeartbeats 4000000 in
set_option maxRecDepth 100000 in
theorem c_X0_childHolds (l : Launch) (g : va_G) (cI cJ cZ : ClassId) (mh kr kq fq bq gq : Nat) (rcv ncl bl rd hd jn sn : Nat) (fo : Nat → Nat) (r1 r2 r3 r4 : Nat) (sz lf rt tr : Nat → Int32) (h q1 q2 q3 q4 q5 q6 q7 n : Nat) (pa ch kd ad ra su un : Nat → Nat) (mk sv : Nat) (i w lc rd2 lsz rsz : Nat) (hn : n < 2 ^ 31) (hi : i < n) (hkd : ∀ i, kd i ≤ 24) (hw : w < 2 ^ 31) (hlc : lf (kd i) = nI lc) (hrc : rt (kd i) = nI rd2) (hls : sz lc = nI lsz) (hrs : sz rd2 = nI rsz) (hlc2 : lc ≤ 24) (hrc2 : rd2 ≤ 24) (hls2 : lsz < 2 ^ 31) (hrs2 : rsz < 2 ^ 31) : kR l g (kty cI cJ cZ) yX0_childHolds wsX0_childHolds ({ frames := 1, cells := 0, slots := 0, locals := 21 }) [.ref mh, .int (nI i), .int (nI w)] [(mh, .inr (0, [.ref kr, .ref h, .ref kq, .ref fq, .ref bq, .ref gq, .int (nI rcv), .int (nI ncl), .int (nI bl), .int (nI rd), .int (nI hd), .int (nI jn), .int (nI sn)])), (kr, .inr (1, [.ref r1, .ref r2, .ref r3, .ref r4])), (r1, .inl (cI, 25, .inl sz)), (r2, .inl (cI, 25, .inl lf)), (r3, .inl (cI, 25, .inl rt)), (r4, .inl (cI, 25, .inl tr)), (h, .inr (2, [.ref q1, .ref q2, .ref q3, .ref q4, .ref q5, .ref q6, .ref q7, .int (nI mk), .int (nI sv)])), (q1, .inl (cI, n, .inl (fun j => nI (pa j)))), (q2, .inl (cI, n, .inl (fun j => nI (ch j)))), (q3, .inl (cI, n, .inl (fun j => nI (kd j)))), (q4, .inl (cI, n, .inl (fun j => nI (ad j)))), (q5, .inl (cI, n, .inl (fun j => nI (ra j)))), (q6, .inl (cI, n, .inl (fun j => nI (su j)))), (q7, .inl (cI, n, .inl (fun j => nI (un j))))] (bI (w ≤ lsz ∨ w ≤ rsz)) := by
  refine Met.ofW (cc := cX0_childHolds) (maxL := 4) (ret := (some .boolean)) (by decide) rfl ?_
  intro p e s m args below meth c s₁ B hml hv
  obtain ⟨rfl, hP, hk⟩ := hv
  have hx := B.exec
  have hb := B.bytes
  have hr := B.returns
  have hts := atoms_spec (ws := wsX0_childHolds) B.pre
  have hown : s.vm.findClass RX0 = some m.cls := findClass_of_methodNamed B.named
  have hlocks := B.notSynchronized
  have hK := hk.1
  have hinX0 : ∀ w ∈ wsX00, w ∈ wsX0_childHolds := by decide +kernel
  have hinX1 : ∀ w ∈ wsX10, w ∈ wsX0_childHolds := by decide +kernel
  have hl := lv_entry ([.ref mh, .int (nI i), .int (nI w)]) (n := 4) (Nat.le_of_ble_eq_true rfl)
  rw [lg_entry_eq]
  generalize (lg_sl ([.ref mh, .int (nI i), .int (nI w)]) ++ List.replicate (4 - (lg_sl ([.ref mh, .int (nI i), .int (nI w)])).length) Slot.unset).toArray = ls at hl ⊢
  have hl : lv_has ls 4 [(0, .ref mh), (1, .int (nI i)), (2, .int (nI w))] := hl
  refine lv_aload_n hx hb dX0_childHolds_0 rfl (lv_at hl 0 rfl) ?_
  refine va_get (D := g) (ci := 0) (v := .ref h) (C := RX0) (T := TX0) (N := 13) hx hb hts hinX0 hown hK hP 0 rfl rfl 1 (by decide) (hts (.fieldLink RX0 21 "BuddyRoof$Memory" "tree" "LBuddyRoof$Tree;") (by decide +kernel)) (fun _ h9 => h9) rfl dX0_childHolds_1 ?_
  refine lv_iload_n hx hb dX0_childHolds_4 rfl (lv_at hl 1 rfl) ?_
  refine k_goR (W.runV (As := [.int (nI i)]) (rest := []) ⟨hx, hb, hml, hown, hts⟩ (c_X2_kindOf l g cI cJ cZ h q1 q2 q3 q4 q5 q6 q7 n pa ch kd ad ra su un mk sv i hn hi) (cwV 1 hts gX0_childHolds_X2_kindOf rfl rfl rfl (by decide +kernel) ⟨Nat.le_of_ble_eq_true rfl, Nat.le_of_ble_eq_true rfl⟩) (k_preRV hk hP [6, 7, 8, 9, 10, 11, 12, 13] rfl (ci := 2) (q0 := 0) rfl rfl) rfl rfl hl.1 rfl (lv_room (Nat.le_of_ble_eq_true rfl)) dX0_childHolds_5 ⟨by first | exact Nat.zero_le _ | omega, by first | exact Nat.zero_le _ | omega⟩) ?_
  refine lv_istore_n (lv' := [(3, .int (nI (kd i))), (0, .ref mh), (1, .int (nI i)), (2, .int (nI w))]) hx hb dX0_childHolds_8 rfl hl (by decide) rfl (fun ls hl => ?_)
  refine lv_aload_n hx hb dX0_childHolds_9 rfl (lv_at hl 1 rfl) ?_
  refine va_get (D := g) (ci := 0) (v := .ref kr) (C := RX0) (T := TX0) (N := 13) hx hb hts hinX0 hown hK hP 0 rfl rfl 0 (by decide) (hts (.fieldLink RX0 12 "BuddyRoof$Memory" "rule" "LBuddyRoof$Rule;") (by decide +kernel)) (fun _ h9 => h9) rfl dX0_childHolds_10 ?_
  refine va_getN (D := g) (host := "BuddyRoof") (ci := 1) (v := .ref r1) (C := RX1) (T := TX1) (N := 4) hx hb hts hinX1 hown hK hP 1 rfl rfl 0 (by decide) (hk.2.f (h := "BuddyRoof") (by decide +kernel)) (fun _ h9 => h9) rfl dX0_childHolds_13 ?_
  refine lv_aload_n hx hb dX0_childHolds_16 rfl (lv_at hl 1 rfl) ?_
  refine va_get (D := g) (ci := 0) (v := .ref kr) (C := RX0) (T := TX0) (N := 13) hx hb hts hinX0 hown hK hP 0 rfl rfl 0 (by decide) (hts (.fieldLink RX0 12 "BuddyRoof$Memory" "rule" "LBuddyRoof$Rule;") (by decide +kernel)) (fun _ h9 => h9) rfl dX0_childHolds_17 ?_
  refine va_getN (D := g) (host := "BuddyRoof") (ci := 1) (v := .ref r2) (C := RX1) (T := TX1) (N := 4) hx hb hts hinX1 hown hK hP 1 rfl rfl 1 (by decide) (hk.2.f (h := "BuddyRoof") (by decide +kernel)) (fun _ h9 => h9) rfl dX0_childHolds_20 ?_
  refine lv_iload_n hx hb dX0_childHolds_23 rfl (lv_at hl 0 rfl) ?_
  refine n_ald (v := nI lc) hx hb hK hP 3 0 rfl rfl (i := (kd i)) (by have := hkd i; omega) (by first | assumption | omega) (by exact hlc) dX0_childHolds_24 ?_
  refine n_ald (v := nI lsz) hx hb hK hP 2 0 rfl rfl (i := lc) (by first | assumption | omega) (by first | assumption | omega) (by exact hls) dX0_childHolds_25 ?_
  refine lv_iload_n hx hb dX0_childHolds_26 rfl (lv_at hl 3 rfl) ?_
  refine n_icmp_ge (tgt := 51) hx hb dX0_childHolds_27 (by decide) (by first | assumption | omega) (by first | assumption | omega) (fun c1 => ?_) (fun c1 => ?_)
  · skip
    refine lv_iconst (v := nI 1) hx hb dX0_childHolds_51 (by decide) ?_
    refine lv_goto (tgt := 56) hx hb dX0_childHolds_52 (by decide) ?_
    exact k_retRZ (v := nI 1) hx hb hr hlocks (by decide) (by unfold bI; split <;> first | rfl | (exfalso; omega)) dX0_childHolds_56
  · skip
    refine lv_aload_n hx hb dX0_childHolds_30 rfl (lv_at hl 1 rfl) ?_
    refine va_get (D := g) (ci := 0) (v := .ref kr) (C := RX0) (T := TX0) (N := 13) hx hb hts hinX0 hown hK hP 0 rfl rfl 0 (by decide) (hts (.fieldLink RX0 12 "BuddyRoof$Memory" "rule" "LBuddyRoof$Rule;") (by decide +kernel)) (fun _ h9 => h9) rfl dX0_childHolds_31 ?_
    refine va_getN (D := g) (host := "BuddyRoof") (ci := 1) (v := .ref r1) (C := RX1) (T := TX1) (N := 4) hx hb hts hinX1 hown hK hP 1 rfl rfl 0 (by decide) (hk.2.f (h := "BuddyRoof") (by decide +kernel)) (fun _ h9 => h9) rfl dX0_childHolds_34 ?_
    refine lv_aload_n hx hb dX0_childHolds_37 rfl (lv_at hl 1 rfl) ?_
    refine va_get (D := g) (ci := 0) (v := .ref kr) (C := RX0) (T := TX0) (N := 13) hx hb hts hinX0 hown hK hP 0 rfl rfl 0 (by decide) (hts (.fieldLink RX0 12 "BuddyRoof$Memory" "rule" "LBuddyRoof$Rule;") (by decide +kernel)) (fun _ h9 => h9) rfl dX0_childHolds_38 ?_
    refine va_getN (D := g) (host := "BuddyRoof") (ci := 1) (v := .ref r3) (C := RX1) (T := TX1) (N := 4) hx hb hts hinX1 hown hK hP 1 rfl rfl 2 (by decide) (hk.2.f (h := "BuddyRoof") (by decide +kernel)) (fun _ h9 => h9) rfl dX0_childHolds_41 ?_
    refine lv_iload_n hx hb dX0_childHolds_44 rfl (lv_at hl 0 rfl) ?_
    refine n_ald (v := nI rd2) hx hb hK hP 4 0 rfl rfl (i := (kd i)) (by have := hkd i; omega) (by first | assumption | omega) (by exact hrc) dX0_childHolds_45 ?_
    refine n_ald (v := nI rsz) hx hb hK hP 2 0 rfl rfl (i := rd2) (by first | assumption | omega) (by first | assumption | omega) (by exact hrs) dX0_childHolds_46 ?_
    refine lv_iload_n hx hb dX0_childHolds_47 rfl (lv_at hl 3 rfl) ?_
    refine n_icmp_lt (tgt := 55) hx hb dX0_childHolds_48 (by decide) (by first | assumption | omega) (by first | assumption | omega) (fun c2 => ?_) (fun c2 => ?_)
    · skip
      refine lv_iconst (v := nI 0) hx hb dX0_childHolds_55 (by decide) ?_
      exact k_retRZ (v := nI 0) hx hb hr hlocks (by decide) (by unfold bI; split <;> first | rfl | (exfalso; omega)) dX0_childHolds_56
    · skip
      refine lv_iconst (v := nI 1) hx hb dX0_childHolds_51 (by decide) ?_
      refine lv_goto (tgt := 56) hx hb dX0_childHolds_52 (by decide) ?_
      exact k_retRZ (v := nI 1) hx hb hr hlocks (by decide) (by unfold bI; split <;> first | rfl | (exfalso; omega)) dX0_childHolds_56
/-- a split node bears no request -/
theorem wI_r0 {top : Nat} {S L R : Nat → Nat} {sp : Nat → Bool} {rq nu : Nat → Nat} {bad : List Nat} {mk n spare : Nat} {pa ch kd ad ra su un fo : Nat → Nat} {bl rd hd : Nat} (h : wI top S L R sp rq nu bad n mk spare pa ch kd ad ra su un fo bl rd hd) {x : Nat} (hs : sp x = true) : ra (nu x) = 0 := by
  have hT := h.1.1
  have h0 := hT.1 x hs
  have h1 := (h.1.2.1.2.1 x h0.2.1).2.2.2.2.2.2
  rw [h1]
  refine Classical.byContradiction (fun h2 => ?_)
  have h3 := (hT.2 x (by omega)).2.1
  rw [hs] at h3
  cases h3
set_option maxHeartbeats 4000000 in
set_option maxRecDepth 100000 in
theorem c_X0_unite (l : Launch) (g : va_G) (cI cJ cZ : ClassId) (mh kr kq fq bq gq : Nat) (rcv ncl bl rd hd jn sn : Nat) (fo : Nat → Nat) (h q1 q2 q3 q4 q5 q6 q7 n : Nat) (pa ch kd ad ra su un : Nat → Nat) (mk sv : Nat) (i : Nat) (hn : n < 2 ^ 31) (hi : i < n) (hkd : ∀ i, kd i ≤ 24) (hch : ∀ i, ch i + 1 < n) (hf1 : 1 ≤ fo (kd (ch i))) (hf2 : 1 ≤ (upN fo (kd (ch i)) (fo (kd (ch i)) - 1)) (kd (ch i + 1))) (hq0 : ra i = 0) : kV l g (kty cI cJ cZ) yX0_unite wsX0_unite ({ frames := 1, cells := 0, slots := 0, locals := 22 }) [.ref mh, .int (nI i)] [(mh, .inr (0, [.ref kr, .ref h, .ref kq, .ref fq, .ref bq, .ref gq, .int (nI rcv), .int (nI ncl), .int (nI bl), .int (nI rd), .int (nI hd), .int (nI jn), .int (nI sn)])), (fq, .inl (cI, 25, .inl (fun j => nI (fo j)))), (h, .inr (2, [.ref q1, .ref q2, .ref q3, .ref q4, .ref q5, .ref q6, .ref q7, .int (nI mk), .int (nI sv)])), (q1, .inl (cI, n, .inl (fun j => nI (pa j)))), (q2, .inl (cI, n, .inl (fun j => nI (ch j)))), (q3, .inl (cI, n, .inl (fun j => nI (kd j)))), (q4, .inl (cI, n, .inl (fun j => nI (ad j)))), (q5, .inl (cI, n, .inl (fun j => nI (ra j)))), (q6, .inl (cI, n, .inl (fun j => nI (su j)))), (q7, .inl (cI, n, .inl (fun j => nI (un j))))] (S := Unit) (fun _ => True) (fun u => [(mh, .inr (0, [.ref kr, .ref h, .ref kq, .ref fq, .ref bq, .ref gq, .int (nI rcv), .int (nI ncl), .int (nI bl), .int (nI rd), .int (nI hd), .int (nI (jn + 1)), .int (nI sn)])), (fq, .inl (cI, 25, .inl (fun j => nI ((upN (upN (upN fo (kd (ch i)) (fo (kd (ch i)) - 1)) (kd (ch i + 1)) ((upN fo (kd (ch i)) (fo (kd (ch i)) - 1)) (kd (ch i + 1)) - 1)) (kd i) ((upN (upN fo (kd (ch i)) (fo (kd (ch i)) - 1)) (kd (ch i + 1)) ((upN fo (kd (ch i)) (fo (kd (ch i)) - 1)) (kd (ch i + 1)) - 1)) (kd i) + 1)) j)))), (h, .inr (2, [.ref q1, .ref q2, .ref q3, .ref q4, .ref q5, .ref q6, .ref q7, .int (nI mk), .int (nI (ch i))])), (q1, .inl (cI, n, .inl (fun j => nI ((upN pa (ch i) sv) j)))), (q2, .inl (cI, n, .inl (fun j => nI ((upN ch i 0) j)))), (q3, .inl (cI, n, .inl (fun j => nI (kd j)))), (q4, .inl (cI, n, .inl (fun j => nI (ad j)))), (q5, .inl (cI, n, .inl (fun j => nI ((upN ra i 0) j)))), (q6, .inl (cI, n, .inl (fun j => nI ((upN su i (1 * 2 ^ kd i)) j)))), (q7, .inl (cI, n, .inl (fun j => nI ((upN un i 1) j))))]) 0 0 := by
  intro sz
  refine Met.ofW (cc := cX0_unite) (maxL := 3) (ret := none) (by decide) rfl ?_
  intro p e s m args below meth c s₁ B hml hv
  obtain ⟨rfl, hsz, hP, hk, hD0⟩ := hv
  subst hsz
  have hx := B.exec
  have hb := B.bytes
  have hr := B.returns
  have hts := atoms_spec (ws := wsX0_unite) B.pre
  have hown : s.vm.findClass RX0 = some m.cls := findClass_of_methodNamed B.named
  have hlocks := B.notSynchronized
  have hK := hk.1
  have hinX0 : ∀ w ∈ wsX00, w ∈ wsX0_unite := by decide +kernel
  obtain ⟨A, hAe⟩ : ∃ A, va_A [(mh, .inr (0, [.ref kr, .ref h, .ref kq, .ref fq, .ref bq, .ref gq, .int (nI rcv), .int (nI ncl), .int (nI bl), .int (nI rd), .int (nI hd), .int (nI jn), .int (nI sn)])), (fq, .inl (cI, 25, .inl (fun j => nI (fo j)))), (h, .inr (2, [.ref q1, .ref q2, .ref q3, .ref q4, .ref q5, .ref q6, .ref q7, .int (nI mk), .int (nI sv)])), (q1, .inl (cI, n, .inl (fun j => nI (pa j)))), (q2, .inl (cI, n, .inl (fun j => nI (ch j)))), (q3, .inl (cI, n, .inl (fun j => nI (kd j)))), (q4, .inl (cI, n, .inl (fun j => nI (ad j)))), (q5, .inl (cI, n, .inl (fun j => nI (ra j)))), (q6, .inl (cI, n, .inl (fun j => nI (su j)))), (q7, .inl (cI, n, .inl (fun j => nI (un j))))] s.heap.size = A := ⟨_, rfl⟩
  have hD := hD0.self (sz := s.heap.size)
  rw [hAe] at hD
  have hA : ∀ q : Nat, s.heap.size ≤ q → A q := fun q h => by rw [← hAe]; exact Or.inr h
  have hS : va_S A s.heap s.heap [] := va_S.rf
  have hl := lv_entry ([.ref mh, .int (nI i)]) (n := 3) (Nat.le_of_ble_eq_true rfl)
  rw [lg_entry_eq]
  generalize (lg_sl ([.ref mh, .int (nI i)]) ++ List.replicate (3 - (lg_sl ([.ref mh, .int (nI i)])).length) Slot.unset).toArray = ls at hl ⊢
  have hl : lv_has ls 3 [(0, .ref mh), (1, .int (nI i))] := hl
  have hc9 := hch i
  have hq9 : upN ra i 0 = ra := by have h9 := upN_id ra i; rw [hq0] at h9; exact h9
  refine lv_aload_n hx hb dX0_unite_0 rfl (lv_at hl 0 rfl) ?_
  refine va_get (D := g) (ci := 0) (v := .ref h) (C := RX0) (T := TX0) (N := 13) hx hb hts hinX0 hown hK hP 0 rfl rfl 1 (by decide) (hts (.fieldLink RX0 21 "BuddyRoof$Memory" "tree" "LBuddyRoof$Tree;") (by decide +kernel)) (fun _ h9 => h9) rfl dX0_unite_1 ?_
  refine lv_iload_n hx hb dX0_unite_4 rfl (lv_at hl 1 rfl) ?_
  refine k_goR (W.runV (As := [.int (nI i)]) (rest := []) ⟨hx, hb, hml, hown, hts⟩ (c_X2_childOf l g cI cJ cZ h q1 q2 q3 q4 q5 q6 q7 n pa ch kd ad ra su un mk sv i hn hi) (cwV 1 hts gX0_unite_X2_childOf rfl rfl rfl (by decide +kernel) ⟨Nat.le_of_ble_eq_true rfl, Nat.le_of_ble_eq_true rfl⟩) (k_preRV hk hP [2, 3, 4, 5, 6, 7, 8, 9] rfl (ci := 2) (q0 := 0) rfl rfl) rfl rfl hl.1 rfl (lv_room (Nat.le_of_ble_eq_true rfl)) dX0_unite_5 ⟨by first | exact Nat.zero_le _ | omega, by first | exact Nat.zero_le _ | omega⟩) ?_
  refine lv_istore_n (lv' := [(2, .int (nI (ch i))), (0, .ref mh), (1, .int (nI i))]) hx hb dX0_unite_8 rfl hl (by decide) rfl (fun ls hl => ?_)
  refine lv_aload_n hx hb dX0_unite_9 rfl (lv_at hl 1 rfl) ?_
  refine va_get (D := g) (ci := 0) (v := .ref fq) (C := RX0) (T := TX0) (N := 13) hx hb hts hinX0 hown hK hP 0 rfl rfl 3 (by decide) (hts (.fieldLink RX0 29 "BuddyRoof$Memory" "freeOf" "[I") (by decide +kernel)) (fun _ h9 => h9) rfl dX0_unite_10 ?_
  refine lv_aload_n hx hb dX0_unite_13 rfl (lv_at hl 1 rfl) ?_
  refine va_get (D := g) (ci := 0) (v := .ref h) (C := RX0) (T := TX0) (N := 13) hx hb hts hinX0 hown hK hP 0 rfl rfl 1 (by decide) (hts (.fieldLink RX0 21 "BuddyRoof$Memory" "tree" "LBuddyRoof$Tree;") (by decide +kernel)) (fun _ h9 => h9) rfl dX0_unite_14 ?_
  refine lv_iload_n hx hb dX0_unite_17 rfl (lv_at hl 0 rfl) ?_
  refine k_goR (W.runV (As := [.int (nI (ch i))]) (rest := [.ref fq]) ⟨hx, hb, hml, hown, hts⟩ (c_X2_kindOf l g cI cJ cZ h q1 q2 q3 q4 q5 q6 q7 n pa ch kd ad ra su un mk sv (ch i) hn (by omega)) (cwV 1 hts gX0_unite_X2_kindOf rfl rfl rfl (by decide +kernel) ⟨Nat.le_of_ble_eq_true rfl, Nat.le_of_ble_eq_true rfl⟩) (k_preRV hk hP [2, 3, 4, 5, 6, 7, 8, 9] rfl (ci := 2) (q0 := 0) rfl rfl) rfl rfl hl.1 rfl (lv_room (Nat.le_of_ble_eq_true rfl)) dX0_unite_18 ⟨by first | exact Nat.zero_le _ | omega, by first | exact Nat.zero_le _ | omega⟩) ?_
  refine lv_dup2_11 hx hb dX0_unite_21 rfl rfl ?_
  refine n_ald (v := nI (fo (kd (ch i)))) hx hb hK hP 1 0 rfl rfl (i := (kd (ch i))) (by exact Nat.lt_of_le_of_lt (hkd _) (by decide)) (by decide) rfl dX0_unite_22 ?_
  refine lv_iconst (v := nI 1) hx hb dX0_unite_23 (by decide) ?_
  refine n_isub hx hb dX0_unite_24 (by exact hf1) ?_
  refine n_ast hx hb hK hP hD hS 1 0 rfl rfl (i := (kd (ch i))) (v := ((fo (kd (ch i))) - 1)) (by exact Nat.lt_of_le_of_lt (hkd _) (by decide)) (by decide) dX0_unite_25 (fun H locs hP hD hS => ?_)
  have hP : va_P g vwCl [(mh, .inr (0, [.ref kr, .ref h, .ref kq, .ref fq, .ref bq, .ref gq, .int (nI rcv), .int (nI ncl), .int (nI bl), .int (nI rd), .int (nI hd), .int (nI jn), .int (nI sn)])), (fq, .inl (cI, 25, .inl (fun j => nI ((upN fo (kd (ch i)) ((fo (kd (ch i))) - 1)) j)))), (h, .inr (2, [.ref q1, .ref q2, .ref q3, .ref q4, .ref q5, .ref q6, .ref q7, .int (nI mk), .int (nI sv)])), (q1, .inl (cI, n, .inl (fun j => nI (pa j)))), (q2, .inl (cI, n, .inl (fun j => nI (ch j)))), (q3, .inl (cI, n, .inl (fun j => nI (kd j)))), (q4, .inl (cI, n, .inl (fun j => nI (ad j)))), (q5, .inl (cI, n, .inl (fun j => nI (ra j)))), (q6, .inl (cI, n, .inl (fun j => nI (su j)))), (q7, .inl (cI, n, .inl (fun j => nI (un j))))] H := hP
  have hD : va_D A [(mh, .inr (0, [.ref kr, .ref h, .ref kq, .ref fq, .ref bq, .ref gq, .int (nI rcv), .int (nI ncl), .int (nI bl), .int (nI rd), .int (nI hd), .int (nI jn), .int (nI sn)])), (fq, .inl (cI, 25, .inl (fun j => nI ((upN fo (kd (ch i)) ((fo (kd (ch i))) - 1)) j)))), (h, .inr (2, [.ref q1, .ref q2, .ref q3, .ref q4, .ref q5, .ref q6, .ref q7, .int (nI mk), .int (nI sv)])), (q1, .inl (cI, n, .inl (fun j => nI (pa j)))), (q2, .inl (cI, n, .inl (fun j => nI (ch j)))), (q3, .inl (cI, n, .inl (fun j => nI (kd j)))), (q4, .inl (cI, n, .inl (fun j => nI (ad j)))), (q5, .inl (cI, n, .inl (fun j => nI (ra j)))), (q6, .inl (cI, n, .inl (fun j => nI (su j)))), (q7, .inl (cI, n, .inl (fun j => nI (un j))))] := hD
  refine lv_aload_n hx hb dX0_unite_26 rfl (lv_at hl 1 rfl) ?_
  refine va_get (D := g) (ci := 0) (v := .ref fq) (C := RX0) (T := TX0) (N := 13) hx hb hts hinX0 hown hK hP 0 rfl rfl 3 (by decide) (hts (.fieldLink RX0 29 "BuddyRoof$Memory" "freeOf" "[I") (by decide +kernel)) (fun _ h9 => h9) rfl dX0_unite_27 ?_
  refine lv_aload_n hx hb dX0_unite_30 rfl (lv_at hl 1 rfl) ?_
  refine va_get (D := g) (ci := 0) (v := .ref h) (C := RX0) (T := TX0) (N := 13) hx hb hts hinX0 hown hK hP 0 rfl rfl 1 (by decide) (hts (.fieldLink RX0 21 "BuddyRoof$Memory" "tree" "LBuddyRoof$Tree;") (by decide +kernel)) (fun _ h9 => h9) rfl dX0_unite_31 ?_
  refine lv_iload_n hx hb dX0_unite_34 rfl (lv_at hl 0 rfl) ?_
  refine lv_iconst (v := nI 1) hx hb dX0_unite_35 (by decide) ?_
  refine n_iadd hx hb dX0_unite_36 ?_
  refine k_goR (W.runV (As := [.int (nI ((ch i) + 1))]) (rest := [.ref fq]) ⟨hx, hb, hml, hown, hts⟩ (c_X2_kindOf l g cI cJ cZ h q1 q2 q3 q4 q5 q6 q7 n pa ch kd ad ra su un mk sv (ch i + 1) hn (by omega)) (cwV 1 hts gX0_unite_X2_kindOf rfl rfl rfl (by decide +kernel) ⟨Nat.le_of_ble_eq_true rfl, Nat.le_of_ble_eq_true rfl⟩) (k_preRV hk hP [2, 3, 4, 5, 6, 7, 8, 9] rfl (ci := 2) (q0 := 0) rfl rfl) rfl rfl hl.1 rfl (lv_room (Nat.le_of_ble_eq_true rfl)) dX0_unite_37 ⟨by first | exact Nat.zero_le _ | omega, by first | exact Nat.zero_le _ | omega⟩) ?_
  refine lv_dup2_11 hx hb dX0_unite_40 rfl rfl ?_
  refine n_ald (v := nI ((upN fo (kd (ch i)) ((fo (kd (ch i))) - 1)) (kd (ch i + 1)))) hx hb hK hP 1 0 rfl rfl (i := (kd (ch i + 1))) (by exact Nat.lt_of_le_of_lt (hkd _) (by decide)) (by decide) rfl dX0_unite_41 ?_
  refine lv_iconst (v := nI 1) hx hb dX0_unite_42 (by decide) ?_
  refine n_isub hx hb dX0_unite_43 (by exact hf2) ?_
  refine n_ast hx hb hK hP hD hS 1 0 rfl rfl (i := (kd (ch i + 1))) (v := (((upN fo (kd (ch i)) ((fo (kd (ch i))) - 1)) (kd (ch i + 1))) - 1)) (by exact Nat.lt_of_le_of_lt (hkd _) (by decide)) (by decide) dX0_unite_44 (fun H locs hP hD hS => ?_)
  have hP : va_P g vwCl [(mh, .inr (0, [.ref kr, .ref h, .ref kq, .ref fq, .ref bq, .ref gq, .int (nI rcv), .int (nI ncl), .int (nI bl), .int (nI rd), .int (nI hd), .int (nI jn), .int (nI sn)])), (fq, .inl (cI, 25, .inl (fun j => nI ((upN (upN fo (kd (ch i)) ((fo (kd (ch i))) - 1)) (kd (ch i + 1)) (((upN fo (kd (ch i)) ((fo (kd (ch i))) - 1)) (kd (ch i + 1))) - 1)) j)))), (h, .inr (2, [.ref q1, .ref q2, .ref q3, .ref q4, .ref q5, .ref q6, .ref q7, .int (nI mk), .int (nI sv)])), (q1, .inl (cI, n, .inl (fun j => nI (pa j)))), (q2, .inl (cI, n, .inl (fun j => nI (ch j)))), (q3, .inl (cI, n, .inl (fun j => nI (kd j)))), (q4, .inl (cI, n, .inl (fun j => nI (ad j)))), (q5, .inl (cI, n, .inl (fun j => nI (ra j)))), (q6, .inl (cI, n, .inl (fun j => nI (su j)))), (q7, .inl (cI, n, .inl (fun j => nI (un j))))] H := hP
  have hD : va_D A [(mh, .inr (0, [.ref kr, .ref h, .ref kq, .ref fq, .ref bq, .ref gq, .int (nI rcv), .int (nI ncl), .int (nI bl), .int (nI rd), .int (nI hd), .int (nI jn), .int (nI sn)])), (fq, .inl (cI, 25, .inl (fun j => nI ((upN (upN fo (kd (ch i)) ((fo (kd (ch i))) - 1)) (kd (ch i + 1)) (((upN fo (kd (ch i)) ((fo (kd (ch i))) - 1)) (kd (ch i + 1))) - 1)) j)))), (h, .inr (2, [.ref q1, .ref q2, .ref q3, .ref q4, .ref q5, .ref q6, .ref q7, .int (nI mk), .int (nI sv)])), (q1, .inl (cI, n, .inl (fun j => nI (pa j)))), (q2, .inl (cI, n, .inl (fun j => nI (ch j)))), (q3, .inl (cI, n, .inl (fun j => nI (kd j)))), (q4, .inl (cI, n, .inl (fun j => nI (ad j)))), (q5, .inl (cI, n, .inl (fun j => nI (ra j)))), (q6, .inl (cI, n, .inl (fun j => nI (su j)))), (q7, .inl (cI, n, .inl (fun j => nI (un j))))] := hD
  refine lv_aload_n hx hb dX0_unite_45 rfl (lv_at hl 1 rfl) ?_
  refine va_get (D := g) (ci := 0) (v := .ref fq) (C := RX0) (T := TX0) (N := 13) hx hb hts hinX0 hown hK hP 0 rfl rfl 3 (by decide) (hts (.fieldLink RX0 29 "BuddyRoof$Memory" "freeOf" "[I") (by decide +kernel)) (fun _ h9 => h9) rfl dX0_unite_46 ?_
  refine lv_aload_n hx hb dX0_unite_49 rfl (lv_at hl 1 rfl) ?_
  refine va_get (D := g) (ci := 0) (v := .ref h) (C := RX0) (T := TX0) (N := 13) hx hb hts hinX0 hown hK hP 0 rfl rfl 1 (by decide) (hts (.fieldLink RX0 21 "BuddyRoof$Memory" "tree" "LBuddyRoof$Tree;") (by decide +kernel)) (fun _ h9 => h9) rfl dX0_unite_50 ?_
  refine lv_iload_n hx hb dX0_unite_53 rfl (lv_at hl 2 rfl) ?_
  refine k_goR (W.runV (As := [.int (nI i)]) (rest := [.ref fq]) ⟨hx, hb, hml, hown, hts⟩ (c_X2_kindOf l g cI cJ cZ h q1 q2 q3 q4 q5 q6 q7 n pa ch kd ad ra su un mk sv i hn hi) (cwV 1 hts gX0_unite_X2_kindOf rfl rfl rfl (by decide +kernel) ⟨Nat.le_of_ble_eq_true rfl, Nat.le_of_ble_eq_true rfl⟩) (k_preRV hk hP [2, 3, 4, 5, 6, 7, 8, 9] rfl (ci := 2) (q0 := 0) rfl rfl) rfl rfl hl.1 rfl (lv_room (Nat.le_of_ble_eq_true rfl)) dX0_unite_54 ⟨by first | exact Nat.zero_le _ | omega, by first | exact Nat.zero_le _ | omega⟩) ?_
  refine lv_dup2_11 hx hb dX0_unite_57 rfl rfl ?_
  refine n_ald (v := nI ((upN (upN fo (kd (ch i)) ((fo (kd (ch i))) - 1)) (kd (ch i + 1)) (((upN fo (kd (ch i)) ((fo (kd (ch i))) - 1)) (kd (ch i + 1))) - 1)) (kd i))) hx hb hK hP 1 0 rfl rfl (i := (kd i)) (by exact Nat.lt_of_le_of_lt (hkd _) (by decide)) (by decide) rfl dX0_unite_58 ?_
  refine lv_iconst (v := nI 1) hx hb dX0_unite_59 (by decide) ?_
  refine n_iadd hx hb dX0_unite_60 ?_
  refine n_ast hx hb hK hP hD hS 1 0 rfl rfl (i := (kd i)) (v := (((upN (upN fo (kd (ch i)) ((fo (kd (ch i))) - 1)) (kd (ch i + 1)) (((upN fo (kd (ch i)) ((fo (kd (ch i))) - 1)) (kd (ch i + 1))) - 1)) (kd i)) + 1)) (by exact Nat.lt_of_le_of_lt (hkd _) (by decide)) (by decide) dX0_unite_61 (fun H locs hP hD hS => ?_)
  have hP : va_P g vwCl [(mh, .inr (0, [.ref kr, .ref h, .ref kq, .ref fq, .ref bq, .ref gq, .int (nI rcv), .int (nI ncl), .int (nI bl), .int (nI rd), .int (nI hd), .int (nI jn), .int (nI sn)])), (fq, .inl (cI, 25, .inl (fun j => nI ((upN (upN (upN fo (kd (ch i)) ((fo (kd (ch i))) - 1)) (kd (ch i + 1)) (((upN fo (kd (ch i)) ((fo (kd (ch i))) - 1)) (kd (ch i + 1))) - 1)) (kd i) (((upN (upN fo (kd (ch i)) ((fo (kd (ch i))) - 1)) (kd (ch i + 1)) (((upN fo (kd (ch i)) ((fo (kd (ch i))) - 1)) (kd (ch i + 1))) - 1)) (kd i)) + 1)) j)))), (h, .inr (2, [.ref q1, .ref q2, .ref q3, .ref q4, .ref q5, .ref q6, .ref q7, .int (nI mk), .int (nI sv)])), (q1, .inl (cI, n, .inl (fun j => nI (pa j)))), (q2, .inl (cI, n, .inl (fun j => nI (ch j)))), (q3, .inl (cI, n, .inl (fun j => nI (kd j)))), (q4, .inl (cI, n, .inl (fun j => nI (ad j)))), (q5, .inl (cI, n, .inl (fun j => nI (ra j)))), (q6, .inl (cI, n, .inl (fun j => nI (su j)))), (q7, .inl (cI, n, .inl (fun j => nI (un j))))] H := hP
  have hD : va_D A [(mh, .inr (0, [.ref kr, .ref h, .ref kq, .ref fq, .ref bq, .ref gq, .int (nI rcv), .int (nI ncl), .int (nI bl), .int (nI rd), .int (nI hd), .int (nI jn), .int (nI sn)])), (fq, .inl (cI, 25, .inl (fun j => nI ((upN (upN (upN fo (kd (ch i)) ((fo (kd (ch i))) - 1)) (kd (ch i + 1)) (((upN fo (kd (ch i)) ((fo (kd (ch i))) - 1)) (kd (ch i + 1))) - 1)) (kd i) (((upN (upN fo (kd (ch i)) ((fo (kd (ch i))) - 1)) (kd (ch i + 1)) (((upN fo (kd (ch i)) ((fo (kd (ch i))) - 1)) (kd (ch i + 1))) - 1)) (kd i)) + 1)) j)))), (h, .inr (2, [.ref q1, .ref q2, .ref q3, .ref q4, .ref q5, .ref q6, .ref q7, .int (nI mk), .int (nI sv)])), (q1, .inl (cI, n, .inl (fun j => nI (pa j)))), (q2, .inl (cI, n, .inl (fun j => nI (ch j)))), (q3, .inl (cI, n, .inl (fun j => nI (kd j)))), (q4, .inl (cI, n, .inl (fun j => nI (ad j)))), (q5, .inl (cI, n, .inl (fun j => nI (ra j)))), (q6, .inl (cI, n, .inl (fun j => nI (su j)))), (q7, .inl (cI, n, .inl (fun j => nI (un j))))] := hD
  refine lv_aload_n hx hb dX0_unite_62 rfl (lv_at hl 1 rfl) ?_
  refine va_get (D := g) (ci := 0) (v := .ref h) (C := RX0) (T := TX0) (N := 13) hx hb hts hinX0 hown hK hP 0 rfl rfl 1 (by decide) (hts (.fieldLink RX0 21 "BuddyRoof$Memory" "tree" "LBuddyRoof$Tree;") (by decide +kernel)) (fun _ h9 => h9) rfl dX0_unite_63 ?_
  refine lv_iload_n hx hb dX0_unite_66 rfl (lv_at hl 2 rfl) ?_
  refine k_goV (wr := [(mh, .inr (0, [.ref kr, .ref h, .ref kq, .ref fq, .ref bq, .ref gq, .int (nI rcv), .int (nI ncl), .int (nI bl), .int (nI rd), .int (nI hd), .int (nI jn), .int (nI sn)])), (fq, .inl (cI, 25, .inl (fun j => nI ((upN (upN (upN fo (kd (ch i)) ((fo (kd (ch i))) - 1)) (kd (ch i + 1)) (((upN fo (kd (ch i)) ((fo (kd (ch i))) - 1)) (kd (ch i + 1))) - 1)) (kd i) (((upN (upN fo (kd (ch i)) ((fo (kd (ch i))) - 1)) (kd (ch i + 1)) (((upN fo (kd (ch i)) ((fo (kd (ch i))) - 1)) (kd (ch i + 1))) - 1)) (kd i)) + 1)) j))))]) (va_runV (As := [.int (nI i)]) (rest := []) ⟨hx, hb, hml, hown, hts⟩ (c_X2_unite l g cI cJ cZ h q1 q2 q3 q4 q5 q6 q7 n pa ch kd ad ra su un mk sv i hn hi hkd hch _) (cwV 1 hts gX0_unite_X2_unite rfl rfl rfl (by decide +kernel) ⟨Nat.le_of_ble_eq_true rfl, Nat.le_of_ble_eq_true rfl⟩) (k_preV hk hP hD [2, 3, 4, 5, 6, 7, 8, 9] rfl rfl (ci := 2) (q0 := 0) rfl rfl) rfl rfl hl.1 rfl (lv_room (Nat.le_of_ble_eq_true rfl)) dX0_unite_67 ⟨by first | exact Nat.zero_le _ | omega, by first | exact Nat.zero_le _ | omega⟩) hP hD hS hA [2, 3, 4, 5, 6, 7, 8, 9] [0, 1] rfl rfl rfl (by decide) (fun _ H locs hu hP hD hS => ?_)
  have hP : va_P g vwCl [(mh, .inr (0, [.ref kr, .ref h, .ref kq, .ref fq, .ref bq, .ref gq, .int (nI rcv), .int (nI ncl), .int (nI bl), .int (nI rd), .int (nI hd), .int (nI jn), .int (nI sn)])), (fq, .inl (cI, 25, .inl (fun j => nI ((upN (upN (upN fo (kd (ch i)) ((fo (kd (ch i))) - 1)) (kd (ch i + 1)) (((upN fo (kd (ch i)) ((fo (kd (ch i))) - 1)) (kd (ch i + 1))) - 1)) (kd i) (((upN (upN fo (kd (ch i)) ((fo (kd (ch i))) - 1)) (kd (ch i + 1)) (((upN fo (kd (ch i)) ((fo (kd (ch i))) - 1)) (kd (ch i + 1))) - 1)) (kd i)) + 1)) j)))), (h, .inr (2, [.ref q1, .ref q2, .ref q3, .ref q4, .ref q5, .ref q6, .ref q7, .int (nI mk), .int (nI (ch i))])), (q1, .inl (cI, n, .inl (fun j => nI ((upN pa (ch i) sv) j)))), (q2, .inl (cI, n, .inl (fun j => nI ((upN ch i 0) j)))), (q3, .inl (cI, n, .inl (fun j => nI (kd j)))), (q4, .inl (cI, n, .inl (fun j => nI (ad j)))), (q5, .inl (cI, n, .inl (fun j => nI (ra j)))), (q6, .inl (cI, n, .inl (fun j => nI ((upN su i (1 * 2 ^ kd i)) j)))), (q7, .inl (cI, n, .inl (fun j => nI ((upN un i 1) j))))] H := hP
  have hD : va_D A [(mh, .inr (0, [.ref kr, .ref h, .ref kq, .ref fq, .ref bq, .ref gq, .int (nI rcv), .int (nI ncl), .int (nI bl), .int (nI rd), .int (nI hd), .int (nI jn), .int (nI sn)])), (fq, .inl (cI, 25, .inl (fun j => nI ((upN (upN (upN fo (kd (ch i)) ((fo (kd (ch i))) - 1)) (kd (ch i + 1)) (((upN fo (kd (ch i)) ((fo (kd (ch i))) - 1)) (kd (ch i + 1))) - 1)) (kd i) (((upN (upN fo (kd (ch i)) ((fo (kd (ch i))) - 1)) (kd (ch i + 1)) (((upN fo (kd (ch i)) ((fo (kd (ch i))) - 1)) (kd (ch i + 1))) - 1)) (kd i)) + 1)) j)))), (h, .inr (2, [.ref q1, .ref q2, .ref q3, .ref q4, .ref q5, .ref q6, .ref q7, .int (nI mk), .int (nI (ch i))])), (q1, .inl (cI, n, .inl (fun j => nI ((upN pa (ch i) sv) j)))), (q2, .inl (cI, n, .inl (fun j => nI ((upN ch i 0) j)))), (q3, .inl (cI, n, .inl (fun j => nI (kd j)))), (q4, .inl (cI, n, .inl (fun j => nI (ad j)))), (q5, .inl (cI, n, .inl (fun j => nI (ra j)))), (q6, .inl (cI, n, .inl (fun j => nI ((upN su i (1 * 2 ^ kd i)) j)))), (q7, .inl (cI, n, .inl (fun j => nI ((upN un i 1) j))))] := hD
  refine lv_aload_n hx hb dX0_unite_70 rfl (lv_at hl 1 rfl) ?_
  refine lv_dup hx hb dX0_unite_71 rfl ?_
  refine va_get (D := g) (ci := 0) (v := .int (nI jn)) (C := RX0) (T := TX0) (N := 13) hx hb hts hinX0 hown hK hP 0 rfl rfl 11 (by decide) (hts (.fieldLink RX0 54 "BuddyRoof$Memory" "joins" "I") (by decide +kernel)) (fun _ h9 => h9) rfl dX0_unite_72 ?_
  refine lv_iconst (v := nI 1) hx hb dX0_unite_75 (by decide) ?_
  refine n_iadd hx hb dX0_unite_76 ?_
  refine va_put (D := g) (ci := 0) (v := .int (nI (jn + 1))) (ty := .int) (C := RX0) (T := TX0) (N := 13) hx hb hts hinX0 tyX0 tyX0_ok nmX0 hown hK hP hD hS 0 rfl rfl 11 (by decide) (hts (.fieldLink RX0 54 "BuddyRoof$Memory" "joins" "I") (by decide +kernel)) (fun _ h9 => h9) rfl (by decide +kernel) rfl rfl (Nat.le_of_ble_eq_true rfl) dX0_unite_77 (fun H locs hP hD hS => ?_)
  have hP : va_P g vwCl [(mh, .inr (0, [.ref kr, .ref h, .ref kq, .ref fq, .ref bq, .ref gq, .int (nI rcv), .int (nI ncl), .int (nI bl), .int (nI rd), .int (nI hd), .int (nI (jn + 1)), .int (nI sn)])), (fq, .inl (cI, 25, .inl (fun j => nI ((upN (upN (upN fo (kd (ch i)) ((fo (kd (ch i))) - 1)) (kd (ch i + 1)) (((upN fo (kd (ch i)) ((fo (kd (ch i))) - 1)) (kd (ch i + 1))) - 1)) (kd i) (((upN (upN fo (kd (ch i)) ((fo (kd (ch i))) - 1)) (kd (ch i + 1)) (((upN fo (kd (ch i)) ((fo (kd (ch i))) - 1)) (kd (ch i + 1))) - 1)) (kd i)) + 1)) j)))), (h, .inr (2, [.ref q1, .ref q2, .ref q3, .ref q4, .ref q5, .ref q6, .ref q7, .int (nI mk), .int (nI (ch i))])), (q1, .inl (cI, n, .inl (fun j => nI ((upN pa (ch i) sv) j)))), (q2, .inl (cI, n, .inl (fun j => nI ((upN ch i 0) j)))), (q3, .inl (cI, n, .inl (fun j => nI (kd j)))), (q4, .inl (cI, n, .inl (fun j => nI (ad j)))), (q5, .inl (cI, n, .inl (fun j => nI (ra j)))), (q6, .inl (cI, n, .inl (fun j => nI ((upN su i (1 * 2 ^ kd i)) j)))), (q7, .inl (cI, n, .inl (fun j => nI ((upN un i 1) j))))] H := hP
  have hD : va_D A [(mh, .inr (0, [.ref kr, .ref h, .ref kq, .ref fq, .ref bq, .ref gq, .int (nI rcv), .int (nI ncl), .int (nI bl), .int (nI rd), .int (nI hd), .int (nI (jn + 1)), .int (nI sn)])), (fq, .inl (cI, 25, .inl (fun j => nI ((upN (upN (upN fo (kd (ch i)) ((fo (kd (ch i))) - 1)) (kd (ch i + 1)) (((upN fo (kd (ch i)) ((fo (kd (ch i))) - 1)) (kd (ch i + 1))) - 1)) (kd i) (((upN (upN fo (kd (ch i)) ((fo (kd (ch i))) - 1)) (kd (ch i + 1)) (((upN fo (kd (ch i)) ((fo (kd (ch i))) - 1)) (kd (ch i + 1))) - 1)) (kd i)) + 1)) j)))), (h, .inr (2, [.ref q1, .ref q2, .ref q3, .ref q4, .ref q5, .ref q6, .ref q7, .int (nI mk), .int (nI (ch i))])), (q1, .inl (cI, n, .inl (fun j => nI ((upN pa (ch i) sv) j)))), (q2, .inl (cI, n, .inl (fun j => nI ((upN ch i 0) j)))), (q3, .inl (cI, n, .inl (fun j => nI (kd j)))), (q4, .inl (cI, n, .inl (fun j => nI (ad j)))), (q5, .inl (cI, n, .inl (fun j => nI (ra j)))), (q6, .inl (cI, n, .inl (fun j => nI ((upN su i (1 * 2 ^ kd i)) j)))), (q7, .inl (cI, n, .inl (fun j => nI ((upN un i 1) j))))] := hD
  have hP := hP.sub (ws' := [(mh, .inr (0, [.ref kr, .ref h, .ref kq, .ref fq, .ref bq, .ref gq, .int (nI rcv), .int (nI ncl), .int (nI bl), .int (nI rd), .int (nI hd), .int (nI (jn + 1)), .int (nI sn)])), (fq, .inl (cI, 25, .inl (fun j => nI ((upN (upN (upN fo (kd (ch i)) ((fo (kd (ch i))) - 1)) (kd (ch i + 1)) (((upN fo (kd (ch i)) ((fo (kd (ch i))) - 1)) (kd (ch i + 1))) - 1)) (kd i) (((upN (upN fo (kd (ch i)) ((fo (kd (ch i))) - 1)) (kd (ch i + 1)) (((upN fo (kd (ch i)) ((fo (kd (ch i))) - 1)) (kd (ch i + 1))) - 1)) (kd i)) + 1)) j)))), (h, .inr (2, [.ref q1, .ref q2, .ref q3, .ref q4, .ref q5, .ref q6, .ref q7, .int (nI mk), .int (nI (ch i))])), (q1, .inl (cI, n, .inl (fun j => nI ((upN pa (ch i) sv) j)))), (q2, .inl (cI, n, .inl (fun j => nI ((upN ch i 0) j)))), (q3, .inl (cI, n, .inl (fun j => nI (kd j)))), (q4, .inl (cI, n, .inl (fun j => nI (ad j)))), (q5, .inl (cI, n, .inl (fun j => nI (ra j)))), (q6, .inl (cI, n, .inl (fun j => nI ((upN su i (1 * 2 ^ kd i)) j)))), (q7, .inl (cI, n, .inl (fun j => nI ((upN un i 1) j))))]) [0, 1, 2, 3, 4, 5, 6, 7, 8, 9] rfl
  have hD := hD.sub (ws' := [(mh, .inr (0, [.ref kr, .ref h, .ref kq, .ref fq, .ref bq, .ref gq, .int (nI rcv), .int (nI ncl), .int (nI bl), .int (nI rd), .int (nI hd), .int (nI (jn + 1)), .int (nI sn)])), (fq, .inl (cI, 25, .inl (fun j => nI ((upN (upN (upN fo (kd (ch i)) ((fo (kd (ch i))) - 1)) (kd (ch i + 1)) (((upN fo (kd (ch i)) ((fo (kd (ch i))) - 1)) (kd (ch i + 1))) - 1)) (kd i) (((upN (upN fo (kd (ch i)) ((fo (kd (ch i))) - 1)) (kd (ch i + 1)) (((upN fo (kd (ch i)) ((fo (kd (ch i))) - 1)) (kd (ch i + 1))) - 1)) (kd i)) + 1)) j)))), (h, .inr (2, [.ref q1, .ref q2, .ref q3, .ref q4, .ref q5, .ref q6, .ref q7, .int (nI mk), .int (nI (ch i))])), (q1, .inl (cI, n, .inl (fun j => nI ((upN pa (ch i) sv) j)))), (q2, .inl (cI, n, .inl (fun j => nI ((upN ch i 0) j)))), (q3, .inl (cI, n, .inl (fun j => nI (kd j)))), (q4, .inl (cI, n, .inl (fun j => nI (ad j)))), (q5, .inl (cI, n, .inl (fun j => nI (ra j)))), (q6, .inl (cI, n, .inl (fun j => nI ((upN su i (1 * 2 ^ kd i)) j)))), (q7, .inl (cI, n, .inl (fun j => nI ((upN un i 1) j))))]) [0, 1, 2, 3, 4, 5, 6, 7, 8, 9] rfl rfl
  refine W.widen (k := 0) (n := 0) (by first | exact Nat.le_refl _ | omega) (by first | exact Nat.le_refl _ | omega) ?_
  exact k_retV (sz := 0) hx hb hr hlocks hAe hS hP hD () (by rw [hq9]) (trivial) dX0_unite_80
