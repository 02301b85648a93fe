set_option maxRecDepth 20000 in
theorem ggL_row_X3_row : GoodIn wsL_row wsX3_row := goodIn_ca (goodIn_r _ [6, 7, 8, 9, 5, 10, 11, 12, 13, 14, 15, 16, 17, 18, 19, 20, 21, 22, 23, 24, 25, 26, 27, 28, 29, 30, 31, 32] (by decide +kernel) (by decide +kernel)) (goodIn_sub (fun _ h => List.mem_cons_of_mem _ (List.mem_append_right _ h)) (by decide +kernel))
set_option maxRecDepth 20000 in
theorem gL_row_X3_row : GoodIn wsL_row (wsV RL 7 RX3 yX3_row wsX3_row) := goodIn_app (goodIn_of _ (by decide +kernel)) ggL_row_X3_row
set_option maxHeartbeats 4000000 in
set_option maxRecDepth 100000 in
theorem c_L_row (l : Launch) (g : va_G) (cI cJ cZ : ClassId) (x mm sc ga : Nat) (bu : Int32) (k r1 r2 r3 r4 : Nat) (sz lf rt tr : Nat → Int32) (i : Nat) (a b d : Int32) (hi : 1 ≤ i ∧ i ≤ 24) : kI l g (kty cI cJ cZ) yL_row wsL_row ({ frames := 3, cells := 0, slots := 0, locals := 64 }) [.ref x, .int (nI i), .int a, .int b, .int d] [(x, .inr (3, [.ref k, .ref mm, .ref sc, .ref ga, .int bu])), (k, .inr (1, [.ref r1, .ref r2, .ref r3, .ref r4])), (r1, .inl (cI, 25, .inl sz)), (r2, .inl (cI, 25, .inl lf)), (r3, .inl (cI, 25, .inl rt)), (r4, .inl (cI, 25, .inl tr))] (S := Unit) (fun r _ => r = nI 0) (fun u => [(x, .inr (3, [.ref k, .ref mm, .ref sc, .ref ga, .int bu])), (k, .inr (1, [.ref r1, .ref r2, .ref r3, .ref r4])), (r1, .inl (cI, 25, .inl (upd sz i a))), (r2, .inl (cI, 25, .inl (upd lf i b))), (r3, .inl (cI, 25, .inl (upd rt i d))), (r4, .inl (cI, 25, .inl tr))]) 0 0 := by
  intro sz
  refine va_MetW (cc := cL_row) (maxL := 6) (ret := (some .int)) (by decide) rfl ?_
  intro p e s m args below meth c s₁ B hml hv
  obtain ⟨rfl, hsz, hP, hk, hD0⟩ := hv
  subst hsz
  have hx := B.exec
  have hb := B.bytes
  have hr := B.returns
  have hts := atoms_spec (ws := wsL_row) B.pre
  have hown : s.vm.findClass RL = some m.cls := findClass_of_methodNamed B.named
  have hlocks := B.notSynchronized
  have hK := hk.1
  obtain ⟨A, hAe⟩ : ∃ A, va_A [(x, .inr (3, [.ref k, .ref mm, .ref sc, .ref ga, .int bu])), (k, .inr (1, [.ref r1, .ref r2, .ref r3, .ref r4])), (r1, .inl (cI, 25, .inl sz)), (r2, .inl (cI, 25, .inl lf)), (r3, .inl (cI, 25, .inl rt)), (r4, .inl (cI, 25, .inl tr))] s.heap.size = A := ⟨_, rfl⟩
  have hD := hD0.self (sz := s.heap.size)
  rw [hAe] at hD
  have hA : ∀ q : Nat, s.heap.size ≤ q → A q := fun q h => by rw [← hAe]; exact Or.inr h
  have hS : va_S A s.heap s.heap [] := va_S.rf
  have hl := lv_entry ([.ref x, .int (nI i), .int a, .int b, .int d]) (n := 6) (Nat.le_of_ble_eq_true rfl)
  rw [lg_entry_eq]
  generalize (lg_sl ([.ref x, .int (nI i), .int a, .int b, .int d]) ++ List.replicate (6 - (lg_sl ([.ref x, .int (nI i), .int a, .int b, .int d])).length) Slot.unset).toArray = ls at hl ⊢
  have hl : lv_has ls 6 [(0, .ref x), (1, .int (nI i)), (2, .int a), (3, .int b), (4, .int d)] := hl
  have htb : c.exceptionTable.toList = _ := vx_table (x := yL_row) B (hts _ List.mem_cons_self)
  refine lv_aload_n hx hb dL_row_0 rfl (lv_at hl 0 rfl) ?_
  refine lv_iload_n hx hb dL_row_1 rfl (lv_at hl 1 rfl) ?_
  refine lv_iload_n hx hb dL_row_2 rfl (lv_at hl 2 rfl) ?_
  refine lv_iload_n hx hb dL_row_3 rfl (lv_at hl 3 rfl) ?_
  refine lv_iload hx hb dL_row_4 (lv_at hl 4 rfl) ?_
  refine k_goV (wr := []) (va_runV (As := [.int (nI i), .int a, .int b, .int d]) (rest := []) ⟨hx, hb, hml, hown, hts⟩ (c_X3_row l g cI cJ cZ x mm sc ga bu k r1 r2 r3 r4 sz lf rt tr i a b d hi _) (cwV 4 hts gL_row_X3_row rfl rfl rfl (by decide +kernel) ⟨Nat.le_of_ble_eq_true rfl, Nat.le_of_ble_eq_true rfl⟩) (k_preV hk hP hD [0, 1, 2, 3, 4, 5] rfl rfl (ci := 3) (q0 := 0) rfl rfl) rfl rfl hl.1 rfl (lv_room (Nat.le_of_ble_eq_true rfl)) dL_row_6 ⟨by first | exact Nat.zero_le _ | omega, by first | exact Nat.zero_le _ | omega⟩) hP hD hS hA [0, 1, 2, 3, 4, 5] [] rfl rfl rfl (by decide) (fun _ H locs hu hP hD hS => ?_)
  have hP : va_P g vwCl [(x, .inr (3, [.ref k, .ref mm, .ref sc, .ref ga, .int bu])), (k, .inr (1, [.ref r1, .ref r2, .ref r3, .ref r4])), (r1, .inl (cI, 25, .inl (upd sz i a))), (r2, .inl (cI, 25, .inl (upd lf i b))), (r3, .inl (cI, 25, .inl (upd rt i d))), (r4, .inl (cI, 25, .inl tr))] H := hP
  have hD : va_D A [(x, .inr (3, [.ref k, .ref mm, .ref sc, .ref ga, .int bu])), (k, .inr (1, [.ref r1, .ref r2, .ref r3, .ref r4])), (r1, .inl (cI, 25, .inl (upd sz i a))), (r2, .inl (cI, 25, .inl (upd lf i b))), (r3, .inl (cI, 25, .inl (upd rt i d))), (r4, .inl (cI, 25, .inl tr))] := hD
  refine lv_goto (tgt := 16) hx hb dL_row_9 (by decide) ?_
  refine lv_iconst (v := nI 0) hx hb dL_row_16 (by decide) ?_
  refine W.widen (k := 0) (n := 0) (by first | exact Nat.le_refl _ | omega) (by first | exact Nat.le_refl _ | omega) ?_
  exact k_retI (sz := 0) (v := nI 0) hx hb hr hlocks hAe hS hP hD () (rfl) (rfl) dL_row_17
set_option maxHeartbeats 4000000 in
set_option maxRecDepth 100000 in
theorem c_L_row_t (l : Launch) (g : va_G) (cI cJ cZ : ClassId) (hst : l.stackTraces = false) (x mm sc ga : Nat) (bu : Int32) (k r1 r2 r3 r4 : Nat) (sz lf rt tr : Nat → Int32) (v a b d : Int32) (hv : ¬ (nI 1 ≤ v ∧ v ≤ nI 24)) : kIx l g (kty cI cJ cZ) yL_row wsL_row ({ frames := 8, cells := 1, slots := 6, locals := 134 }) [.ref x, .int v, .int a, .int b, .int d] [(x, .inr (3, [.ref k, .ref mm, .ref sc, .ref ga, .int bu])), (k, .inr (1, [.ref r1, .ref r2, .ref r3, .ref r4])), (r1, .inl (cI, 25, .inl sz)), (r2, .inl (cI, 25, .inl lf)), (r3, .inl (cI, 25, .inl rt)), (r4, .inl (cI, 25, .inl tr))] (S := Unit) (fun r _ => r = nI 1) (fun u => [(x, .inr (3, [.ref k, .ref mm, .ref sc, .ref ga, .int bu])), (k, .inr (1, [.ref r1, .ref r2, .ref r3, .ref r4])), (r1, .inl (cI, 25, .inl sz)), (r2, .inl (cI, 25, .inl lf)), (r3, .inl (cI, 25, .inl rt)), (r4, .inl (cI, 25, .inl tr))]) 1 6 := by
  intro sz
  refine va_MetW (cc := cL_row) (maxL := 6) (ret := (some .int)) (by decide) rfl ?_
  intro p e s m args below meth c s₁ B hml hv
  obtain ⟨rfl, ⟨hsz, hP, hk, hD0⟩, hxT, hxZ⟩ := hv
  subst hsz
  have hx := B.exec
  have hb := B.bytes
  have hr := B.returns
  have hts := atoms_spec (ws := wsL_row) B.pre
  have hown : s.vm.findClass RL = some m.cls := findClass_of_methodNamed B.named
  have hlocks := B.notSynchronized
  have hK := hk.1
  obtain ⟨A, hAe⟩ : ∃ A, va_A [(x, .inr (3, [.ref k, .ref mm, .ref sc, .ref ga, .int bu])), (k, .inr (1, [.ref r1, .ref r2, .ref r3, .ref r4])), (r1, .inl (cI, 25, .inl sz)), (r2, .inl (cI, 25, .inl lf)), (r3, .inl (cI, 25, .inl rt)), (r4, .inl (cI, 25, .inl tr))] s.heap.size = A := ⟨_, rfl⟩
  have hD := hD0.self (sz := s.heap.size)
  rw [hAe] at hD hxZ
  have hA : ∀ q : Nat, s.heap.size ≤ q → A q := fun q h => by rw [← hAe]; exact Or.inr h
  have hS : va_S A s.heap s.heap [] := va_S.rf
  have hl := lv_entry ([.ref x, .int v, .int a, .int b, .int d]) (n := 6) (Nat.le_of_ble_eq_true rfl)
  rw [lg_entry_eq]
  generalize (lg_sl ([.ref x, .int v, .int a, .int b, .int d]) ++ List.replicate (6 - (lg_sl ([.ref x, .int v, .int a, .int b, .int d])).length) Slot.unset).toArray = ls at hl ⊢
  have hl : lv_has ls 6 [(0, .ref x), (1, .int v), (2, .int a), (3, .int b), (4, .int d)] := hl
  have htb : c.exceptionTable.toList = _ := vx_table (x := yL_row) B (hts _ List.mem_cons_self)
  refine lv_aload_n hx hb dL_row_0 rfl (lv_at hl 0 rfl) ?_
  refine lv_iload_n hx hb dL_row_1 rfl (lv_at hl 1 rfl) ?_
  refine lv_iload_n hx hb dL_row_2 rfl (lv_at hl 2 rfl) ?_
  refine lv_iload_n hx hb dL_row_3 rfl (lv_at hl 3 rfl) ?_
  refine lv_iload hx hb dL_row_4 (lv_at hl 4 rfl) ?_
  refine k_goT (wr := []) (vx_runV (As := [.int v, .int a, .int b, .int d]) (rest := []) ⟨hx, hb, hml, hown, hts⟩ (c_X3_row_t l g cI cJ cZ hst x mm sc ga bu k r1 r2 r3 r4 sz lf rt tr v a b d hv _) (cwV 4 hts gL_row_X3_row rfl rfl rfl (by decide +kernel) ⟨Nat.le_of_ble_eq_true rfl, Nat.le_of_ble_eq_true rfl⟩) (k_preVx hk hxT (hxZ.kept (fun a h1 h2 => hS.2.1 a h1 h2)) hP hD hS hA [0, 1, 2, 3, 4, 5] rfl rfl (ci := 3) (q0 := 0) rfl rfl) rfl rfl hl.1 rfl (lv_room (Nat.le_of_ble_eq_true rfl)) dL_row_6 ⟨Nat.le_of_ble_eq_true rfl, Nat.le_of_ble_eq_true rfl⟩) hP hD hS hA [0, 1, 2, 3, 4, 5] [] rfl rfl rfl (by decide) (fun ce q9 H locs hP hD hS hkp hce hcv hcl => ?_)
  have hP : va_P g vwCl [(x, .inr (3, [.ref k, .ref mm, .ref sc, .ref ga, .int bu])), (k, .inr (1, [.ref r1, .ref r2, .ref r3, .ref r4])), (r1, .inl (cI, 25, .inl sz)), (r2, .inl (cI, 25, .inl lf)), (r3, .inl (cI, 25, .inl rt)), (r4, .inl (cI, 25, .inl tr))] H := hP
  have hD : va_D A [(x, .inr (3, [.ref k, .ref mm, .ref sc, .ref ga, .int bu])), (k, .inr (1, [.ref r1, .ref r2, .ref r3, .ref r4])), (r1, .inl (cI, 25, .inl sz)), (r2, .inl (cI, 25, .inl lf)), (r3, .inl (cI, 25, .inl rt)), (r4, .inl (cI, 25, .inl tr))] := hD
  refine vx_catch (E := xA) (own := RL) (name := "java/lang/IllegalArgumentException") hown [] ⟨0, 9, 12, 13⟩ [] htb (fun z hz => by cases hz) (by decide) (by decide) (hts (.classLink RL 13 "java/lang/IllegalArgumentException") (by decide +kernel)) (va_Nw.use rfl (hxT.2 _ (by decide +kernel))) hce hcv hcl ?_
  refine lv_astore (lv' := [(5, .ref q9), (0, .ref x), (1, .int v), (2, .int a), (3, .int b), (4, .int d)]) hx hb dL_row_12 hl (by decide) rfl (fun ls hl => ?_)
  refine lv_iconst (v := nI 1) hx hb dL_row_14 (by decide) ?_
  refine W.widen (k := 1) (n := 6) (by first | exact Nat.le_refl _ | omega) (by first | exact Nat.le_refl _ | omega) ?_
  exact k_retI (sz := 0) (v := nI 1) hx hb hr hlocks hAe hS hP hD () (rfl) (rfl) dL_row_15
