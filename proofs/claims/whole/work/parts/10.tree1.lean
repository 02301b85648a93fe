set_option maxHeartbeats 4000000 in
set_option maxRecDepth 100000 in
theorem c_X2_kindOf (l : Launch) (g : va_G) (cI cJ cZ : ClassId) (h q1 q2 q3 q4 q5 q6 q7 n : Nat) (pa ch kd ad rq su un : Nat → Nat) (mk sp : Nat) (i : Nat) (hn : n < 2 ^ 31) (hi : i < n) : kR l g (kty cI cJ cZ) yX2_kindOf wsX2_kindOf ({ frames := 0, cells := 0, slots := 0, locals := 0 }) [.ref h, .int (nI i)] [(h, .inr (2, [.ref q1, .ref q2, .ref q3, .ref q4, .ref q5, .ref q6, .ref q7, .int (nI mk), .int (nI sp)])), (q1, .inl (cI, n, .inl (fun j => nI (pa j)))), (q2, .inl (cI, n, .inl (fun j => nI (ch j)))), (q3, .inl (cI, n, .inl (fun j => nI (kd j)))), (q4, .inl (cI, n, .inl (fun j => nI (ad j)))), (q5, .inl (cI, n, .inl (fun j => nI (rq j)))), (q6, .inl (cI, n, .inl (fun j => nI (su j)))), (q7, .inl (cI, n, .inl (fun j => nI (un j))))] (nI (kd i)) := by
  refine Met.ofW (cc := cX2_kindOf) (maxL := 2) (ret := (some .int)) (by decide) rfl ?_
  intro p e s m args below meth c s₁ B hml hv
  obtain ⟨rfl, hP, hk⟩ := hv
  have hx := B.exec
  have hb := B.bytes
  have hr := B.returns
  have hts := atoms_spec (ws := wsX2_kindOf) B.pre
  have hown : s.vm.findClass RX2 = some m.cls := findClass_of_methodNamed B.named
  have hlocks := B.notSynchronized
  have hK := hk.1
  have hinX2 : ∀ w ∈ wsX20, w ∈ wsX2_kindOf := by decide +kernel
  have hl := lv_entry ([.ref h, .int (nI i)]) (n := 2) (Nat.le_of_ble_eq_true rfl)
  rw [lg_entry_eq]
  generalize (lg_sl ([.ref h, .int (nI i)]) ++ List.replicate (2 - (lg_sl ([.ref h, .int (nI i)])).length) Slot.unset).toArray = ls at hl ⊢
  have hl : lv_has ls 2 [(0, .ref h), (1, .int (nI i))] := hl
  refine lv_aload_n hx hb dX2_kindOf_0 rfl (lv_at hl 0 rfl) ?_
  refine va_get (D := g) (ci := 2) (v := .ref q3) (C := RX2) (T := TX2) (N := 9) hx hb hts hinX2 hown hK hP 0 rfl rfl 2 (by decide) (hts (.fieldLink RX2 18 "BuddyRoof$Tree" "kind" "[I") (by decide +kernel)) (fun _ h9 => h9) rfl dX2_kindOf_1 ?_
  refine lv_iload_n hx hb dX2_kindOf_4 rfl (lv_at hl 1 rfl) ?_
  refine n_ald (v := nI (kd i)) hx hb hK hP 3 0 rfl rfl (i := i) (by first | assumption | omega) (by first | assumption | omega) rfl dX2_kindOf_5 ?_
  exact k_retR (v := nI (kd i)) hx hb hr hlocks (rfl) dX2_kindOf_6
set_option maxHeartbeats 4000000 in
set_option maxRecDepth 100000 in
theorem c_X2_addressOf (l : Launch) (g : va_G) (cI cJ cZ : ClassId) (h q1 q2 q3 q4 q5 q6 q7 n : Nat) (pa ch kd ad rq su un : Nat → Nat) (mk sp : Nat) (i : Nat) (hn : n < 2 ^ 31) (hi : i < n) : kR l g (kty cI cJ cZ) yX2_addressOf wsX2_addressOf ({ frames := 0, cells := 0, slots := 0, locals := 0 }) [.ref h, .int (nI i)] [(h, .inr (2, [.ref q1, .ref q2, .ref q3, .ref q4, .ref q5, .ref q6, .ref q7, .int (nI mk), .int (nI sp)])), (q1, .inl (cI, n, .inl (fun j => nI (pa j)))), (q2, .inl (cI, n, .inl (fun j => nI (ch j)))), (q3, .inl (cI, n, .inl (fun j => nI (kd j)))), (q4, .inl (cI, n, .inl (fun j => nI (ad j)))), (q5, .inl (cI, n, .inl (fun j => nI (rq j)))), (q6, .inl (cI, n, .inl (fun j => nI (su j)))), (q7, .inl (cI, n, .inl (fun j => nI (un j))))] (nI (ad i)) := by
  refine Met.ofW (cc := cX2_addressOf) (maxL := 2) (ret := (some .int)) (by decide) rfl ?_
  intro p e s m args below meth c s₁ B hml hv
  obtain ⟨rfl, hP, hk⟩ := hv
  have hx := B.exec
  have hb := B.bytes
  have hr := B.returns
  have hts := atoms_spec (ws := wsX2_addressOf) B.pre
  have hown : s.vm.findClass RX2 = some m.cls := findClass_of_methodNamed B.named
  have hlocks := B.notSynchronized
  have hK := hk.1
  have hinX2 : ∀ w ∈ wsX20, w ∈ wsX2_addressOf := by decide +kernel
  have hl := lv_entry ([.ref h, .int (nI i)]) (n := 2) (Nat.le_of_ble_eq_true rfl)
  rw [lg_entry_eq]
  generalize (lg_sl ([.ref h, .int (nI i)]) ++ List.replicate (2 - (lg_sl ([.ref h, .int (nI i)])).length) Slot.unset).toArray = ls at hl ⊢
  have hl : lv_has ls 2 [(0, .ref h), (1, .int (nI i))] := hl
  refine lv_aload_n hx hb dX2_addressOf_0 rfl (lv_at hl 0 rfl) ?_
  refine va_get (D := g) (ci := 2) (v := .ref q4) (C := RX2) (T := TX2) (N := 9) hx hb hts hinX2 hown hK hP 0 rfl rfl 3 (by decide) (hts (.fieldLink RX2 21 "BuddyRoof$Tree" "address" "[I") (by decide +kernel)) (fun _ h9 => h9) rfl dX2_addressOf_1 ?_
  refine lv_iload_n hx hb dX2_addressOf_4 rfl (lv_at hl 1 rfl) ?_
  refine n_ald (v := nI (ad i)) hx hb hK hP 4 0 rfl rfl (i := i) (by first | assumption | omega) (by first | assumption | omega) rfl dX2_addressOf_5 ?_
  exact k_retR (v := nI (ad i)) hx hb hr hlocks (rfl) dX2_addressOf_6
set_option maxHeartbeats 4000000 in
set_option maxRecDepth 100000 in
theorem c_X2_requestOf (l : Launch) (g : va_G) (cI cJ cZ : ClassId) (h q1 q2 q3 q4 q5 q6 q7 n : Nat) (pa ch kd ad rq su un : Nat → Nat) (mk sp : Nat) (i : Nat) (hn : n < 2 ^ 31) (hi : i < n) : kR l g (kty cI cJ cZ) yX2_requestOf wsX2_requestOf ({ frames := 0, cells := 0, slots := 0, locals := 0 }) [.ref h, .int (nI i)] [(h, .inr (2, [.ref q1, .ref q2, .ref q3, .ref q4, .ref q5, .ref q6, .ref q7, .int (nI mk), .int (nI sp)])), (q1, .inl (cI, n, .inl (fun j => nI (pa j)))), (q2, .inl (cI, n, .inl (fun j => nI (ch j)))), (q3, .inl (cI, n, .inl (fun j => nI (kd j)))), (q4, .inl (cI, n, .inl (fun j => nI (ad j)))), (q5, .inl (cI, n, .inl (fun j => nI (rq j)))), (q6, .inl (cI, n, .inl (fun j => nI (su j)))), (q7, .inl (cI, n, .inl (fun j => nI (un j))))] (nI (rq i)) := by
  refine Met.ofW (cc := cX2_requestOf) (maxL := 2) (ret := (some .int)) (by decide) rfl ?_
  intro p e s m args below meth c s₁ B hml hv
  obtain ⟨rfl, hP, hk⟩ := hv
  have hx := B.exec
  have hb := B.bytes
  have hr := B.returns
  have hts := atoms_spec (ws := wsX2_requestOf) B.pre
  have hown : s.vm.findClass RX2 = some m.cls := findClass_of_methodNamed B.named
  have hlocks := B.notSynchronized
  have hK := hk.1
  have hinX2 : ∀ w ∈ wsX20, w ∈ wsX2_requestOf := by decide +kernel
  have hl := lv_entry ([.ref h, .int (nI i)]) (n := 2) (Nat.le_of_ble_eq_true rfl)
  rw [lg_entry_eq]
  generalize (lg_sl ([.ref h, .int (nI i)]) ++ List.replicate (2 - (lg_sl ([.ref h, .int (nI i)])).length) Slot.unset).toArray = ls at hl ⊢
  have hl : lv_has ls 2 [(0, .ref h), (1, .int (nI i))] := hl
  refine lv_aload_n hx hb dX2_requestOf_0 rfl (lv_at hl 0 rfl) ?_
  refine va_get (D := g) (ci := 2) (v := .ref q5) (C := RX2) (T := TX2) (N := 9) hx hb hts hinX2 hown hK hP 0 rfl rfl 4 (by decide) (hts (.fieldLink RX2 24 "BuddyRoof$Tree" "request" "[I") (by decide +kernel)) (fun _ h9 => h9) rfl dX2_requestOf_1 ?_
  refine lv_iload_n hx hb dX2_requestOf_4 rfl (lv_at hl 1 rfl) ?_
  refine n_ald (v := nI (rq i)) hx hb hK hP 5 0 rfl rfl (i := i) (by first | assumption | omega) (by first | assumption | omega) rfl dX2_requestOf_5 ?_
  exact k_retR (v := nI (rq i)) hx hb hr hlocks (rfl) dX2_requestOf_6
set_option maxHeartbeats 4000000 in
set_option maxRecDepth 100000 in
theorem c_X2_parentOf (l : Launch) (g : va_G) (cI cJ cZ : ClassId) (h q1 q2 q3 q4 q5 q6 q7 n : Nat) (pa ch kd ad rq su un : Nat → Nat) (mk sp : Nat) (i : Nat) (hn : n < 2 ^ 31) (hi : i < n) : kR l g (kty cI cJ cZ) yX2_parentOf wsX2_parentOf ({ frames := 0, cells := 0, slots := 0, locals := 0 }) [.ref h, .int (nI i)] [(h, .inr (2, [.ref q1, .ref q2, .ref q3, .ref q4, .ref q5, .ref q6, .ref q7, .int (nI mk), .int (nI sp)])), (q1, .inl (cI, n, .inl (fun j => nI (pa j)))), (q2, .inl (cI, n, .inl (fun j => nI (ch j)))), (q3, .inl (cI, n, .inl (fun j => nI (kd j)))), (q4, .inl (cI, n, .inl (fun j => nI (ad j)))), (q5, .inl (cI, n, .inl (fun j => nI (rq j)))), (q6, .inl (cI, n, .inl (fun j => nI (su j)))), (q7, .inl (cI, n, .inl (fun j => nI (un j))))] (nI (pa i)) := by
  refine Met.ofW (cc := cX2_parentOf) (maxL := 2) (ret := (some .int)) (by decide) rfl ?_
  intro p e s m args below meth c s₁ B hml hv
  obtain ⟨rfl, hP, hk⟩ := hv
  have hx := B.exec
  have hb := B.bytes
  have hr := B.returns
  have hts := atoms_spec (ws := wsX2_parentOf) B.pre
  have hown : s.vm.findClass RX2 = some m.cls := findClass_of_methodNamed B.named
  have hlocks := B.notSynchronized
  have hK := hk.1
  have hinX2 : ∀ w ∈ wsX20, w ∈ wsX2_parentOf := by decide +kernel
  have hl := lv_entry ([.ref h, .int (nI i)]) (n := 2) (Nat.le_of_ble_eq_true rfl)
  rw [lg_entry_eq]
  generalize (lg_sl ([.ref h, .int (nI i)]) ++ List.replicate (2 - (lg_sl ([.ref h, .int (nI i)])).length) Slot.unset).toArray = ls at hl ⊢
  have hl : lv_has ls 2 [(0, .ref h), (1, .int (nI i))] := hl
  refine lv_aload_n hx hb dX2_parentOf_0 rfl (lv_at hl 0 rfl) ?_
  refine va_get (D := g) (ci := 2) (v := .ref q1) (C := RX2) (T := TX2) (N := 9) hx hb hts hinX2 hown hK hP 0 rfl rfl 0 (by decide) (hts (.fieldLink RX2 11 "BuddyRoof$Tree" "parent" "[I") (by decide +kernel)) (fun _ h9 => h9) rfl dX2_parentOf_1 ?_
  refine lv_iload_n hx hb dX2_parentOf_4 rfl (lv_at hl 1 rfl) ?_
  refine n_ald (v := nI (pa i)) hx hb hK hP 1 0 rfl rfl (i := i) (by first | assumption | omega) (by first | assumption | omega) rfl dX2_parentOf_5 ?_
  exact k_retR (v := nI (pa i)) hx hb hr hlocks (rfl) dX2_parentOf_6
set_option maxHeartbeats 4000000 in
set_option maxRecDepth 100000 in
theorem c_X2_childOf (l : Launch) (g : va_G) (cI cJ cZ : ClassId) (h q1 q2 q3 q4 q5 q6 q7 n : Nat) (pa ch kd ad rq su un : Nat → Nat) (mk sp : Nat) (i : Nat) (hn : n < 2 ^ 31) (hi : i < n) : kR l g (kty cI cJ cZ) yX2_childOf wsX2_childOf ({ frames := 0, cells := 0, slots := 0, locals := 0 }) [.ref h, .int (nI i)] [(h, .inr (2, [.ref q1, .ref q2, .ref q3, .ref q4, .ref q5, .ref q6, .ref q7, .int (nI mk), .int (nI sp)])), (q1, .inl (cI, n, .inl (fun j => nI (pa j)))), (q2, .inl (cI, n, .inl (fun j => nI (ch j)))), (q3, .inl (cI, n, .inl (fun j => nI (kd j)))), (q4, .inl (cI, n, .inl (fun j => nI (ad j)))), (q5, .inl (cI, n, .inl (fun j => nI (rq j)))), (q6, .inl (cI, n, .inl (fun j => nI (su j)))), (q7, .inl (cI, n, .inl (fun j => nI (un j))))] (nI (ch i)) := by
  refine Met.ofW (cc := cX2_childOf) (maxL := 2) (ret := (some .int)) (by decide) rfl ?_
  intro p e s m args below meth c s₁ B hml hv
  obtain ⟨rfl, hP, hk⟩ := hv
  have hx := B.exec
  have hb := B.bytes
  have hr := B.returns
  have hts := atoms_spec (ws := wsX2_childOf) B.pre
  have hown : s.vm.findClass RX2 = some m.cls := findClass_of_methodNamed B.named
  have hlocks := B.notSynchronized
  have hK := hk.1
  have hinX2 : ∀ w ∈ wsX20, w ∈ wsX2_childOf := by decide +kernel
  have hl := lv_entry ([.ref h, .int (nI i)]) (n := 2) (Nat.le_of_ble_eq_true rfl)
  rw [lg_entry_eq]
  generalize (lg_sl ([.ref h, .int (nI i)]) ++ List.replicate (2 - (lg_sl ([.ref h, .int (nI i)])).length) Slot.unset).toArray = ls at hl ⊢
  have hl : lv_has ls 2 [(0, .ref h), (1, .int (nI i))] := hl
  refine lv_aload_n hx hb dX2_childOf_0 rfl (lv_at hl 0 rfl) ?_
  refine va_get (D := g) (ci := 2) (v := .ref q2) (C := RX2) (T := TX2) (N := 9) hx hb hts hinX2 hown hK hP 0 rfl rfl 1 (by decide) (hts (.fieldLink RX2 15 "BuddyRoof$Tree" "child" "[I") (by decide +kernel)) (fun _ h9 => h9) rfl dX2_childOf_1 ?_
  refine lv_iload_n hx hb dX2_childOf_4 rfl (lv_at hl 1 rfl) ?_
  refine n_ald (v := nI (ch i)) hx hb hK hP 2 0 rfl rfl (i := i) (by first | assumption | omega) (by first | assumption | omega) rfl dX2_childOf_5 ?_
  exact k_retR (v := nI (ch i)) hx hb hr hlocks (rfl) dX2_childOf_6
set_option maxHeartbeats 4000000 in
set_option maxRecDepth 100000 in
theorem c_X2_made (l : Launch) (g : va_G) (cI cJ cZ : ClassId) (h q1 q2 q3 q4 q5 q6 q7 n : Nat) (pa ch kd ad rq su un : Nat → Nat) (mk sp : Nat)  : kR l g (kty cI cJ cZ) yX2_made wsX2_made ({ frames := 0, cells := 0, slots := 0, locals := 0 }) [.ref h] [(h, .inr (2, [.ref q1, .ref q2, .ref q3, .ref q4, .ref q5, .ref q6, .ref q7, .int (nI mk), .int (nI sp)])), (q1, .inl (cI, n, .inl (fun j => nI (pa j)))), (q2, .inl (cI, n, .inl (fun j => nI (ch j)))), (q3, .inl (cI, n, .inl (fun j => nI (kd j)))), (q4, .inl (cI, n, .inl (fun j => nI (ad j)))), (q5, .inl (cI, n, .inl (fun j => nI (rq j)))), (q6, .inl (cI, n, .inl (fun j => nI (su j)))), (q7, .inl (cI, n, .inl (fun j => nI (un j))))] (nI mk) := by
  refine Met.ofW (cc := cX2_made) (maxL := 1) (ret := (some .int)) (by decide) rfl ?_
  intro p e s m args below meth c s₁ B hml hv
  obtain ⟨rfl, hP, hk⟩ := hv
  have hx := B.exec
  have hb := B.bytes
  have hr := B.returns
  have hts := atoms_spec (ws := wsX2_made) B.pre
  have hown : s.vm.findClass RX2 = some m.cls := findClass_of_methodNamed B.named
  have hlocks := B.notSynchronized
  have hK := hk.1
  have hinX2 : ∀ w ∈ wsX20, w ∈ wsX2_made := by decide +kernel
  have hl := lv_entry ([.ref h]) (n := 1) (Nat.le_of_ble_eq_true rfl)
  rw [lg_entry_eq]
  generalize (lg_sl ([.ref h]) ++ List.replicate (1 - (lg_sl ([.ref h])).length) Slot.unset).toArray = ls at hl ⊢
  have hl : lv_has ls 1 [(0, .ref h)] := hl
  refine lv_aload_n hx hb dX2_made_0 rfl (lv_at hl 0 rfl) ?_
  refine va_get (D := g) (ci := 2) (v := .int (nI mk)) (C := RX2) (T := TX2) (N := 9) hx hb hts hinX2 hown hK hP 0 rfl rfl 7 (by decide) (hts (.fieldLink RX2 33 "BuddyRoof$Tree" "made" "I") (by decide +kernel)) (fun _ h9 => h9) rfl dX2_made_1 ?_
  exact k_retR (v := nI mk) hx hb hr hlocks (rfl) dX2_made_4
set_option maxHeartbeats 4000000 in
set_option maxRecDepth 100000 in
theorem c_X2_buddyOf (l : Launch) (g : va_G) (cI cJ cZ : ClassId) (h q1 q2 q3 q4 q5 q6 q7 n : Nat) (pa ch kd ad rq su un : Nat → Nat) (mk sp : Nat) (i : Nat)  : kR l g (kty cI cJ cZ) yX2_buddyOf wsX2_buddyOf ({ frames := 0, cells := 0, slots := 0, locals := 0 }) [.ref h, .int (nI i)] [(h, .inr (2, [.ref q1, .ref q2, .ref q3, .ref q4, .ref q5, .ref q6, .ref q7, .int (nI mk), .int (nI sp)])), (q1, .inl (cI, n, .inl (fun j => nI (pa j)))), (q2, .inl (cI, n, .inl (fun j => nI (ch j)))), (q3, .inl (cI, n, .inl (fun j => nI (kd j)))), (q4, .inl (cI, n, .inl (fun j => nI (ad j)))), (q5, .inl (cI, n, .inl (fun j => nI (rq j)))), (q6, .inl (cI, n, .inl (fun j => nI (su j)))), (q7, .inl (cI, n, .inl (fun j => nI (un j))))] (nI (i ^^^ 1)) := by
  refine Met.ofW (cc := cX2_buddyOf) (maxL := 2) (ret := (some .int)) (by decide) rfl ?_
  intro p e s m args below meth c s₁ B hml hv
  obtain ⟨rfl, hP, hk⟩ := hv
  have hx := B.exec
  have hb := B.bytes
  have hr := B.returns
  have hts := atoms_spec (ws := wsX2_buddyOf) B.pre
  have hown : s.vm.findClass RX2 = some m.cls := findClass_of_methodNamed B.named
  have hlocks := B.notSynchronized
  have hK := hk.1
  have hl := lv_entry ([.ref h, .int (nI i)]) (n := 2) (Nat.le_of_ble_eq_true rfl)
  rw [lg_entry_eq]
  generalize (lg_sl ([.ref h, .int (nI i)]) ++ List.replicate (2 - (lg_sl ([.ref h, .int (nI i)])).length) Slot.unset).toArray = ls at hl ⊢
  have hl : lv_has ls 2 [(0, .ref h), (1, .int (nI i))] := hl
  refine lv_iload_n hx hb dX2_buddyOf_0 rfl (lv_at hl 1 rfl) ?_
  refine lv_iconst (v := nI 1) hx hb dX2_buddyOf_1 (by decide) ?_
  refine n_ixor hx hb dX2_buddyOf_2 ?_
  exact k_retR (v := nI (i ^^^ 1)) hx hb hr hlocks (rfl) dX2_buddyOf_3
set_option maxHeartbeats 4000000 in
set_option maxRecDepth 100000 in
theorem c_X2_unsplitNodes (l : Launch) (g : va_G) (cI cJ cZ : ClassId) (h q1 q2 q3 q4 q5 q6 q7 n : Nat) (pa ch kd ad rq su un : Nat → Nat) (mk sp : Nat) (hn : n < 2 ^ 31) (h1 : 1 < n) : kR l g (kty cI cJ cZ) yX2_unsplitNodes wsX2_unsplitNodes ({ frames := 0, cells := 0, slots := 0, locals := 0 }) [.ref h] [(h, .inr (2, [.ref q1, .ref q2, .ref q3, .ref q4, .ref q5, .ref q6, .ref q7, .int (nI mk), .int (nI sp)])), (q1, .inl (cI, n, .inl (fun j => nI (pa j)))), (q2, .inl (cI, n, .inl (fun j => nI (ch j)))), (q3, .inl (cI, n, .inl (fun j => nI (kd j)))), (q4, .inl (cI, n, .inl (fun j => nI (ad j)))), (q5, .inl (cI, n, .inl (fun j => nI (rq j)))), (q6, .inl (cI, n, .inl (fun j => nI (su j)))), (q7, .inl (cI, n, .inl (fun j => nI (un j))))] (nI (un 1)) := by
  refine Met.ofW (cc := cX2_unsplitNodes) (maxL := 1) (ret := (some .int)) (by decide) rfl ?_
  intro p e s m args below meth c s₁ B hml hv
  obtain ⟨rfl, hP, hk⟩ := hv
  have hx := B.exec
  have hb := B.bytes
  have hr := B.returns
  have hts := atoms_spec (ws := wsX2_unsplitNodes) B.pre
  have hown : s.vm.findClass RX2 = some m.cls := findClass_of_methodNamed B.named
  have hlocks := B.notSynchronized
  have hK := hk.1
  have hinX2 : ∀ w ∈ wsX20, w ∈ wsX2_unsplitNodes := by decide +kernel
  have hl := lv_entry ([.ref h]) (n := 1) (Nat.le_of_ble_eq_true rfl)
  rw [lg_entry_eq]
  generalize (lg_sl ([.ref h]) ++ List.replicate (1 - (lg_sl ([.ref h])).length) Slot.unset).toArray = ls at hl ⊢
  have hl : lv_has ls 1 [(0, .ref h)] := hl
  refine lv_aload_n hx hb dX2_unsplitNodes_0 rfl (lv_at hl 0 rfl) ?_
  refine va_get (D := g) (ci := 2) (v := .ref q7) (C := RX2) (T := TX2) (N := 9) hx hb hts hinX2 hown hK hP 0 rfl rfl 6 (by decide) (hts (.fieldLink RX2 30 "BuddyRoof$Tree" "unsplit" "[I") (by decide +kernel)) (fun _ h9 => h9) rfl dX2_unsplitNodes_1 ?_
  refine lv_iconst (v := nI 1) hx hb dX2_unsplitNodes_4 (by decide) ?_
  refine n_ald (v := nI (un 1)) hx hb hK hP 7 0 rfl rfl (i := 1) (by first | assumption | omega) (by first | assumption | omega) rfl dX2_unsplitNodes_5 ?_
  exact k_retR (v := nI (un 1)) hx hb hr hlocks (rfl) dX2_unsplitNodes_6
set_option maxHeartbeats 4000000 in
set_option maxRecDepth 100000 in
theorem c_X2_isFree (l : Launch) (g : va_G) (cI cJ cZ : ClassId) (h q1 q2 q3 q4 q5 q6 q7 n : Nat) (pa ch kd ad rq su un : Nat → Nat) (mk sp : Nat) (i : Nat) (hn : n < 2 ^ 31) (hi : i < n) (hch : ∀ i, ch i < 2 ^ 31) (hrq : ∀ i, rq i < 2 ^ 31) : kR l g (kty cI cJ cZ) yX2_isFree wsX2_isFree ({ frames := 0, cells := 0, slots := 0, locals := 0 }) [.ref h, .int (nI i)] [(h, .inr (2, [.ref q1, .ref q2, .ref q3, .ref q4, .ref q5, .ref q6, .ref q7, .int (nI mk), .int (nI sp)])), (q1, .inl (cI, n, .inl (fun j => nI (pa j)))), (q2, .inl (cI, n, .inl (fun j => nI (ch j)))), (q3, .inl (cI, n, .inl (fun j => nI (kd j)))), (q4, .inl (cI, n, .inl (fun j => nI (ad j)))), (q5, .inl (cI, n, .inl (fun j => nI (rq j)))), (q6, .inl (cI, n, .inl (fun j => nI (su j)))), (q7, .inl (cI, n, .inl (fun j => nI (un j))))] (bI (¬ i = 0 ∧ ch i = 0 ∧ rq i = 0)) := by
  refine Met.ofW (cc := cX2_isFree) (maxL := 2) (ret := (some .boolean)) (by decide) rfl ?_
  intro p e s m args below meth c s₁ B hml hv
  obtain ⟨rfl, hP, hk⟩ := hv
  have hx := B.exec
  have hb := B.bytes
  have hr := B.returns
  have hts := atoms_spec (ws := wsX2_isFree) B.pre
  have hown : s.vm.findClass RX2 = some m.cls := findClass_of_methodNamed B.named
  have hlocks := B.notSynchronized
  have hK := hk.1
  have hinX2 : ∀ w ∈ wsX20, w ∈ wsX2_isFree := by decide +kernel
  have hl := lv_entry ([.ref h, .int (nI i)]) (n := 2) (Nat.le_of_ble_eq_true rfl)
  rw [lg_entry_eq]
  generalize (lg_sl ([.ref h, .int (nI i)]) ++ List.replicate (2 - (lg_sl ([.ref h, .int (nI i)])).length) Slot.unset).toArray = ls at hl ⊢
  have hl : lv_has ls 2 [(0, .ref h), (1, .int (nI i))] := hl
  refine lv_iload_n hx hb dX2_isFree_0 rfl (lv_at hl 1 rfl) ?_
  refine n_if_eq (tgt := 26) hx hb dX2_isFree_1 (by decide) (by first | assumption | omega) (fun c1 => ?_) (fun c1 => ?_)
  · skip
    refine lv_iconst (v := nI 0) hx hb dX2_isFree_26 (by decide) ?_
    exact k_retRZ (v := nI 0) hx hb hr hlocks (by decide) (by unfold bI; split <;> first | rfl | (exfalso; omega)) dX2_isFree_27
  · skip
    refine lv_aload_n hx hb dX2_isFree_4 rfl (lv_at hl 0 rfl) ?_
    refine va_get (D := g) (ci := 2) (v := .ref q2) (C := RX2) (T := TX2) (N := 9) hx hb hts hinX2 hown hK hP 0 rfl rfl 1 (by decide) (hts (.fieldLink RX2 15 "BuddyRoof$Tree" "child" "[I") (by decide +kernel)) (fun _ h9 => h9) rfl dX2_isFree_5 ?_
    refine lv_iload_n hx hb dX2_isFree_8 rfl (lv_at hl 1 rfl) ?_
    refine n_ald (v := nI (ch i)) hx hb hK hP 2 0 rfl rfl (i := i) (by first | assumption | omega) (by first | assumption | omega) rfl dX2_isFree_9 ?_
    have f2 := hch i
    refine n_if_ne (tgt := 26) hx hb dX2_isFree_10 (by decide) (by first | assumption | omega) (fun c3 => ?_) (fun c3 => ?_)
    · skip
      refine lv_iconst (v := nI 0) hx hb dX2_isFree_26 (by decide) ?_
      exact k_retRZ (v := nI 0) hx hb hr hlocks (by decide) (by unfold bI; split <;> first | rfl | (exfalso; omega)) dX2_isFree_27
    · skip
      refine lv_aload_n hx hb dX2_isFree_13 rfl (lv_at hl 0 rfl) ?_
      refine va_get (D := g) (ci := 2) (v := .ref q5) (C := RX2) (T := TX2) (N := 9) hx hb hts hinX2 hown hK hP 0 rfl rfl 4 (by decide) (hts (.fieldLink RX2 24 "BuddyRoof$Tree" "request" "[I") (by decide +kernel)) (fun _ h9 => h9) rfl dX2_isFree_14 ?_
      refine lv_iload_n hx hb dX2_isFree_17 rfl (lv_at hl 1 rfl) ?_
      refine n_ald (v := nI (rq i)) hx hb hK hP 5 0 rfl rfl (i := i) (by first | assumption | omega) (by first | assumption | omega) rfl dX2_isFree_18 ?_
      have f4 := hrq i
      refine n_if_ne (tgt := 26) hx hb dX2_isFree_19 (by decide) (by first | assumption | omega) (fun c5 => ?_) (fun c5 => ?_)
      · skip
        refine lv_iconst (v := nI 0) hx hb dX2_isFree_26 (by decide) ?_
        exact k_retRZ (v := nI 0) hx hb hr hlocks (by decide) (by unfold bI; split <;> first | rfl | (exfalso; omega)) dX2_isFree_27
      · skip
        refine lv_iconst (v := nI 1) hx hb dX2_isFree_22 (by decide) ?_
        refine lv_goto (tgt := 27) hx hb dX2_isFree_23 (by decide) ?_
        exact k_retRZ (v := nI 1) hx hb hr hlocks (by decide) (by unfold bI; split <;> first | rfl | (exfalso; omega)) dX2_isFree_27
