set_option maxHeartbeats 4000000 in
set_option maxRecDepth 100000 in
theorem c_X3_family (l : Launch) (g : va_G) (cI cJ cZ : ClassId) (x sc ga mh : Nat) (bu : Nat) (tk t1 t2 t3 t4 : Nat) (tz tl ty tt : Nat → Int32) (kd n a bn : Nat) (b : Int32) (hkd : kd ≤ 2) (hn : 1 ≤ n ∧ n ≤ 24) (ha : 4 ≤ a ∧ a ≤ 4194304) (hbn : kd = 1 → b = nI bn ∧ 4 ≤ bn ∧ bn ≤ 4194304) (hok : fOK kd a bn n = true) : kV l g (kty cI cJ cZ) yX3_family wsX3_family ({ frames := 2, cells := 0, slots := 0, locals := 49 }) [.ref x, .int (nI kd), .int (nI n), .int (nI a), .int b] [(x, .inr (3, [.ref tk, .ref mh, .ref sc, .ref ga, .int (nI bu)])), (tk, .inr (1, [.ref t1, .ref t2, .ref t3, .ref t4])), (t1, .inl (cI, 25, .inl tz)), (t2, .inl (cI, 25, .inl tl)), (t3, .inl (cI, 25, .inl ty)), (t4, .inl (cI, 25, .inl tt))] (S := Nat → Int32) (fun _ => True) (fun u => [(x, .inr (3, [.ref tk, .ref mh, .ref sc, .ref ga, .int (nI bu)])), (tk, .inr (1, [.ref t1, .ref t2, .ref t3, .ref t4])), (t1, .inl (cI, 25, .inl (fmS kd a bn n tz))), (t2, .inl (cI, 25, .inl (fmL kd n tl))), (t3, .inl (cI, 25, .inl (fmR kd n ty))), (t4, .inl (cI, 25, .inl u))]) 0 0 := by
  intro sz
  refine Met.ofW (cc := cX3_family) (maxL := 5) (ret := none) (by decide) rfl ?_
  intro p e s m args below meth c s₁ B hml hv
  obtain ⟨rfl, hsz, hP, hk, hD0⟩ := hv
  subst hsz
  have hx := B.exec
  have hb := B.bytes
  have hr := B.returns
  have hts := atoms_spec (ws := wsX3_family) B.pre
  have hown : s.vm.findClass RX3 = some m.cls := findClass_of_methodNamed B.named
  have hlocks := B.notSynchronized
  have hK := hk.1
  have hinX3 : ∀ w ∈ wsX30, w ∈ wsX3_family := by decide +kernel
  obtain ⟨A, hAe⟩ : ∃ A, va_A [(x, .inr (3, [.ref tk, .ref mh, .ref sc, .ref ga, .int (nI bu)])), (tk, .inr (1, [.ref t1, .ref t2, .ref t3, .ref t4])), (t1, .inl (cI, 25, .inl tz)), (t2, .inl (cI, 25, .inl tl)), (t3, .inl (cI, 25, .inl ty)), (t4, .inl (cI, 25, .inl tt))] s.heap.size = A := ⟨_, rfl⟩
  have hD := hD0.self (sz := s.heap.size)
  rw [hAe] at hD
  have hA : ∀ q : Nat, s.heap.size ≤ q → A q := fun q h => by rw [← hAe]; exact Or.inr h
  have hS : va_S A s.heap s.heap [] := va_S.rf
  have hl := lv_entry ([.ref x, .int (nI kd), .int (nI n), .int (nI a), .int b]) (n := 5) (Nat.le_of_ble_eq_true rfl)
  rw [lg_entry_eq]
  generalize (lg_sl ([.ref x, .int (nI kd), .int (nI n), .int (nI a), .int b]) ++ List.replicate (5 - (lg_sl ([.ref x, .int (nI kd), .int (nI n), .int (nI a), .int b])).length) Slot.unset).toArray = ls at hl ⊢
  have hl : lv_has ls 5 [(0, .ref x), (1, .int (nI kd)), (2, .int (nI n)), (3, .int (nI a)), (4, .int b)] := hl
  refine lv_iload_n hx hb dX3_family_0 rfl (lv_at hl 1 rfl) ?_
  refine n_if_lt (tgt := 9) hx hb dX3_family_1 (by decide) (by first | assumption | omega) ?_
  refine lv_iload_n hx hb dX3_family_4 rfl (lv_at hl 1 rfl) ?_
  refine lv_iconst (v := nI 2) hx hb dX3_family_5 (by decide) ?_
  refine n_icmp_le (tgt := 19) hx hb dX3_family_6 (by decide) (by first | assumption | omega) (by first | assumption | omega) (fun c2 => ?_) (fun c2 => ?_)
  · skip
    refine lv_iload_n hx hb dX3_family_19 rfl (lv_at hl 2 rfl) ?_
    refine k_goV (wr := [(x, .inr (3, [.ref tk, .ref mh, .ref sc, .ref ga, .int (nI bu)])), (tk, .inr (1, [.ref t1, .ref t2, .ref t3, .ref t4])), (t1, .inl (cI, 25, .inl tz)), (t2, .inl (cI, 25, .inl tl)), (t3, .inl (cI, 25, .inl ty)), (t4, .inl (cI, 25, .inl tt))]) (va_runS (As := [.int (nI n)]) (rest := []) ⟨hx, hb, hml, hown, hts⟩ (c_X3_requireClass l g cI cJ cZ  (nI n) ⟨nI_le hn.1 (by omega), nI_le hn.2 (by decide)⟩ _) (va_cwS 1 hts gX3_family_X3_requireClass rfl rfl rfl (by decide +kernel) ⟨Nat.le_of_ble_eq_true rfl, Nat.le_of_ble_eq_true rfl⟩) (k_preS hk hP hD [] rfl rfl) rfl rfl hl.1 rfl (lv_room (Nat.le_of_ble_eq_true rfl)) dX3_family_20 ⟨by first | exact Nat.zero_le _ | omega, by first | exact Nat.zero_le _ | omega⟩) hP hD hS hA [] [0, 1, 2, 3, 4, 5] rfl rfl rfl (by decide) (fun _ H locs hu hP hD hS => ?_)
    have hP : va_P g vwCl [(x, .inr (3, [.ref tk, .ref mh, .ref sc, .ref ga, .int (nI bu)])), (tk, .inr (1, [.ref t1, .ref t2, .ref t3, .ref t4])), (t1, .inl (cI, 25, .inl tz)), (t2, .inl (cI, 25, .inl tl)), (t3, .inl (cI, 25, .inl ty)), (t4, .inl (cI, 25, .inl tt))] H := hP
    have hD : va_D A [(x, .inr (3, [.ref tk, .ref mh, .ref sc, .ref ga, .int (nI bu)])), (tk, .inr (1, [.ref t1, .ref t2, .ref t3, .ref t4])), (t1, .inl (cI, 25, .inl tz)), (t2, .inl (cI, 25, .inl tl)), (t3, .inl (cI, 25, .inl ty)), (t4, .inl (cI, 25, .inl tt))] := hD
    refine lv_iload_n hx hb dX3_family_23 rfl (lv_at hl 3 rfl) ?_
    refine k_goR (W.runS (As := [.int (nI a)]) (rest := []) ⟨hx, hb, hml, hown, hts⟩ (c_X3_isSize l g cI cJ cZ  (nI a) ) (va_cwS 1 hts gX3_family_X3_isSize rfl rfl rfl (by decide +kernel) ⟨Nat.le_of_ble_eq_true rfl, Nat.le_of_ble_eq_true rfl⟩) (k_preRS hk hP [] rfl) rfl rfl hl.1 rfl (lv_room (Nat.le_of_ble_eq_true rfl)) dX3_family_24 ⟨by first | exact Nat.zero_le _ | omega, by first | exact Nat.zero_le _ | omega⟩) ?_
    refine k_ifeq (tgt := 43) hx hb dX3_family_27 (by decide) (fun c3 => ?_) (fun c3 => ?_)
    · exact (by exact absurd ⟨nI_le ha.1 (by omega), nI_le ha.2 (by decide)⟩ c3)
    · skip
      refine lv_iload_n hx hb dX3_family_30 rfl (lv_at hl 1 rfl) ?_
      refine lv_iconst (v := nI 1) hx hb dX3_family_31 (by decide) ?_
      refine n_icmp_ne (tgt := 53) hx hb dX3_family_32 (by decide) (by first | assumption | omega) (by first | assumption | omega) (fun c4 => ?_) (fun c4 => ?_)
      · skip
        refine lv_aload_n hx hb dX3_family_53 rfl (lv_at hl 0 rfl) ?_
        refine va_get (D := g) (ci := 3) (v := .ref tk) (C := RX3) (T := TX3) (N := 5) hx hb hts hinX3 hown hK hP 0 rfl rfl 0 (by decide) (hts (.fieldLink RX3 12 "BuddyRoof" "told" "LBuddyRoof$Rule;") (by decide +kernel)) (fun _ h9 => h9) rfl dX3_family_54 ?_
        refine lv_iload_n hx hb dX3_family_57 rfl (lv_at hl 1 rfl) ?_
        refine lv_iload_n hx hb dX3_family_58 rfl (lv_at hl 2 rfl) ?_
        refine lv_iload_n hx hb dX3_family_59 rfl (lv_at hl 3 rfl) ?_
        refine lv_iload hx hb dX3_family_60 (lv_at hl 4 rfl) ?_
        refine k_goI (wr := [(x, .inr (3, [.ref tk, .ref mh, .ref sc, .ref ga, .int (nI bu)]))]) (va_runV (As := [.int (nI kd), .int (nI n), .int (nI a), .int b]) (rest := []) ⟨hx, hb, hml, hown, hts⟩ (c_X1_tellFamily l g cI cJ cZ tk t1 t2 t3 t4 tz tl ty tt kd n a bn b hkd hn ha.2 (fun q => ⟨(hbn q).1, (hbn q).2.2⟩) _) (cwV 4 hts gX3_family_X1_tellFamily rfl rfl rfl (by decide +kernel) ⟨Nat.le_of_ble_eq_true rfl, Nat.le_of_ble_eq_true rfl⟩) (k_preV hk hP hD [1, 2, 3, 4, 5] rfl rfl (ci := 1) (q0 := 0) rfl rfl) rfl rfl hl.1 rfl (lv_room (Nat.le_of_ble_eq_true rfl)) dX3_family_62 ⟨by first | exact Nat.zero_le _ | omega, by first | exact Nat.zero_le _ | omega⟩) hP hD hS hA [1, 2, 3, 4, 5] [0] rfl rfl rfl (by decide) (fun rv u H locs hu hP hD hS => ?_)
        obtain ⟨hF1, hrv, e1, e2, e3⟩ := hu.resolve_right (fun q => by rw [hok] at q; exact absurd q.1 (by decide))
        obtain ⟨u1, u2, u3, u4⟩ := u
        have e1 : u1 = _ := e1
        have e2 : u2 = _ := e2
        have e3 : u3 = _ := e3
        subst hrv e1 e2 e3
        have hP : va_P g vwCl [(x, .inr (3, [.ref tk, .ref mh, .ref sc, .ref ga, .int (nI bu)])), (tk, .inr (1, [.ref t1, .ref t2, .ref t3, .ref t4])), (t1, .inl (cI, 25, .inl (fmS kd a bn n tz))), (t2, .inl (cI, 25, .inl (fmL kd n tl))), (t3, .inl (cI, 25, .inl (fmR kd n ty))), (t4, .inl (cI, 25, .inl u4))] H := hP
        have hD : va_D A [(x, .inr (3, [.ref tk, .ref mh, .ref sc, .ref ga, .int (nI bu)])), (tk, .inr (1, [.ref t1, .ref t2, .ref t3, .ref t4])), (t1, .inl (cI, 25, .inl (fmS kd a bn n tz))), (t2, .inl (cI, 25, .inl (fmL kd n tl))), (t3, .inl (cI, 25, .inl (fmR kd n ty))), (t4, .inl (cI, 25, .inl u4))] := hD
        refine n_if_ne (tgt := 78) hx hb dX3_family_65 (by decide) (by first | assumption | omega) (fun c5 => ?_) (fun c5 => ?_)
        · skip
          refine W.widen (k := 0) (n := 0) (by first | exact Nat.le_refl _ | omega) (by first | exact Nat.le_refl _ | omega) ?_
          exact k_retV (sz := 0) hx hb hr hlocks hAe hS hP hD u4 (rfl) (trivial) dX3_family_78
        · exact (by exact absurd c5 (by decide))
      · skip
        refine lv_iload hx hb dX3_family_35 (lv_at hl 4 rfl) ?_
        refine k_goR (W.runS (As := [.int b]) (rest := []) ⟨hx, hb, hml, hown, hts⟩ (c_X3_isSize l g cI cJ cZ  b ) (va_cwS 1 hts gX3_family_X3_isSize rfl rfl rfl (by decide +kernel) ⟨Nat.le_of_ble_eq_true rfl, Nat.le_of_ble_eq_true rfl⟩) (k_preRS hk hP [] rfl) rfl rfl hl.1 rfl (lv_room (Nat.le_of_ble_eq_true rfl)) dX3_family_37 ⟨by first | exact Nat.zero_le _ | omega, by first | exact Nat.zero_le _ | omega⟩) ?_
        refine k_ifne (tgt := 53) hx hb dX3_family_40 (by decide) (fun c6 => ?_) (fun c6 => ?_)
        · skip
          refine lv_aload_n hx hb dX3_family_53 rfl (lv_at hl 0 rfl) ?_
          refine va_get (D := g) (ci := 3) (v := .ref tk) (C := RX3) (T := TX3) (N := 5) hx hb hts hinX3 hown hK hP 0 rfl rfl 0 (by decide) (hts (.fieldLink RX3 12 "BuddyRoof" "told" "LBuddyRoof$Rule;") (by decide +kernel)) (fun _ h9 => h9) rfl dX3_family_54 ?_
          refine lv_iload_n hx hb dX3_family_57 rfl (lv_at hl 1 rfl) ?_
          refine lv_iload_n hx hb dX3_family_58 rfl (lv_at hl 2 rfl) ?_
          refine lv_iload_n hx hb dX3_family_59 rfl (lv_at hl 3 rfl) ?_
          refine lv_iload hx hb dX3_family_60 (lv_at hl 4 rfl) ?_
          refine k_goI (wr := [(x, .inr (3, [.ref tk, .ref mh, .ref sc, .ref ga, .int (nI bu)]))]) (va_runV (As := [.int (nI kd), .int (nI n), .int (nI a), .int b]) (rest := []) ⟨hx, hb, hml, hown, hts⟩ (c_X1_tellFamily l g cI cJ cZ tk t1 t2 t3 t4 tz tl ty tt kd n a bn b hkd hn ha.2 (fun q => ⟨(hbn q).1, (hbn q).2.2⟩) _) (cwV 4 hts gX3_family_X1_tellFamily rfl rfl rfl (by decide +kernel) ⟨Nat.le_of_ble_eq_true rfl, Nat.le_of_ble_eq_true rfl⟩) (k_preV hk hP hD [1, 2, 3, 4, 5] rfl rfl (ci := 1) (q0 := 0) rfl rfl) rfl rfl hl.1 rfl (lv_room (Nat.le_of_ble_eq_true rfl)) dX3_family_62 ⟨by first | exact Nat.zero_le _ | omega, by first | exact Nat.zero_le _ | omega⟩) hP hD hS hA [1, 2, 3, 4, 5] [0] rfl rfl rfl (by decide) (fun rv u H locs hu hP hD hS => ?_)
          obtain ⟨hF1, hrv, e1, e2, e3⟩ := hu.resolve_right (fun q => by rw [hok] at q; exact absurd q.1 (by decide))
          obtain ⟨u1, u2, u3, u4⟩ := u
          have e1 : u1 = _ := e1
          have e2 : u2 = _ := e2
          have e3 : u3 = _ := e3
          subst hrv e1 e2 e3
          have hP : va_P g vwCl [(x, .inr (3, [.ref tk, .ref mh, .ref sc, .ref ga, .int (nI bu)])), (tk, .inr (1, [.ref t1, .ref t2, .ref t3, .ref t4])), (t1, .inl (cI, 25, .inl (fmS kd a bn n tz))), (t2, .inl (cI, 25, .inl (fmL kd n tl))), (t3, .inl (cI, 25, .inl (fmR kd n ty))), (t4, .inl (cI, 25, .inl u4))] H := hP
          have hD : va_D A [(x, .inr (3, [.ref tk, .ref mh, .ref sc, .ref ga, .int (nI bu)])), (tk, .inr (1, [.ref t1, .ref t2, .ref t3, .ref t4])), (t1, .inl (cI, 25, .inl (fmS kd a bn n tz))), (t2, .inl (cI, 25, .inl (fmL kd n tl))), (t3, .inl (cI, 25, .inl (fmR kd n ty))), (t4, .inl (cI, 25, .inl u4))] := hD
          refine n_if_ne (tgt := 78) hx hb dX3_family_65 (by decide) (by first | assumption | omega) (fun c7 => ?_) (fun c7 => ?_)
          · skip
            refine W.widen (k := 0) (n := 0) (by first | exact Nat.le_refl _ | omega) (by first | exact Nat.le_refl _ | omega) ?_
            exact k_retV (sz := 0) hx hb hr hlocks hAe hS hP hD u4 (rfl) (trivial) dX3_family_78
          · exact (by exact absurd c7 (by decide))
        · exact (by refine absurd ?_ c6; rw [(hbn (by omega)).1]; exact ⟨nI_le (hbn (by omega)).2.1 (by have := (hbn (by omega)).2.2; omega), nI_le (hbn (by omega)).2.2 (by decide)⟩)
  · exact (by exfalso; omega)
set_option maxHeartbeats 4000000 in
set_option maxRecDepth 100000 in
theorem c_X3_family_tB (l : Launch) (g : va_G) (cI cJ cZ : ClassId) (hst : l.stackTraces = false) (x sc ga mh : Nat) (bu : Nat) (tk t1 t2 t3 t4 : Nat) (tz tl ty tt : Nat → Int32) (kd n a bn : Nat) (b : Int32) (hkd : kd ≤ 2) (hn : 1 ≤ n ∧ n ≤ 24) (ha : 4 ≤ a ∧ a ≤ 4194304) (hbn : kd = 1 → b = nI bn ∧ 4 ≤ bn ∧ bn ≤ 4194304) (hok : fOK kd a bn n = false) : kT l g (kty cI cJ cZ) yX3_family wsX3_family ({ frames := 6, cells := 1, slots := 6, locals := 90 }) [.ref x, .int (nI kd), .int (nI n), .int (nI a), .int b] [(x, .inr (3, [.ref tk, .ref mh, .ref sc, .ref ga, .int (nI bu)])), (tk, .inr (1, [.ref t1, .ref t2, .ref t3, .ref t4])), (t1, .inl (cI, 25, .inl tz)), (t2, .inl (cI, 25, .inl tl)), (t3, .inl (cI, 25, .inl ty)), (t4, .inl (cI, 25, .inl tt))] [(x, .inr (3, [.ref tk, .ref mh, .ref sc, .ref ga, .int (nI bu)])), (tk, .inr (1, [.ref t1, .ref t2, .ref t3, .ref t4])), (t1, .inl (cI, 25, .inl tz)), (t2, .inl (cI, 25, .inl tl)), (t3, .inl (cI, 25, .inl ty)), (t4, .inl (cI, 25, .inl (fmi tt (fun i => nI (fz kd a bn i)) (lwF (fun i => decide (4194304 < fz kd a bn i)) n 1 + 1))))] xA := by
  intro sz
  refine vx_ofW (cc := cX3_family) (maxL := 5) (ret := none) (by decide) rfl ?_
  intro p e s m args below meth c s₁ B hml htab hv
  obtain ⟨rfl, ⟨hsz, hP, hk, hD0⟩, hxT, hxZ⟩ := hv
  subst hsz
  have hx := B.exec
  have hb := B.bytes
  have hr := B.returns
  have hts := atoms_spec (ws := wsX3_family) B.pre
  have hown : s.vm.findClass RX3 = some m.cls := findClass_of_methodNamed B.named
  have hlocks := B.notSynchronized
  have hK := hk.1
  have hinX3 : ∀ w ∈ wsX30, w ∈ wsX3_family := by decide +kernel
  obtain ⟨A, hAe⟩ : ∃ A, va_A [(x, .inr (3, [.ref tk, .ref mh, .ref sc, .ref ga, .int (nI bu)])), (tk, .inr (1, [.ref t1, .ref t2, .ref t3, .ref t4])), (t1, .inl (cI, 25, .inl tz)), (t2, .inl (cI, 25, .inl tl)), (t3, .inl (cI, 25, .inl ty)), (t4, .inl (cI, 25, .inl tt))] s.heap.size = A := ⟨_, rfl⟩
  have hD := hD0.self (sz := s.heap.size)
  rw [hAe] at hD hxZ
  have hA : ∀ q : Nat, s.heap.size ≤ q → A q := fun q h => by rw [← hAe]; exact Or.inr h
  have hS : va_S A s.heap s.heap [] := va_S.rf
  have hl := lv_entry ([.ref x, .int (nI kd), .int (nI n), .int (nI a), .int b]) (n := 5) (Nat.le_of_ble_eq_true rfl)
  rw [lg_entry_eq]
  generalize (lg_sl ([.ref x, .int (nI kd), .int (nI n), .int (nI a), .int b]) ++ List.replicate (5 - (lg_sl ([.ref x, .int (nI kd), .int (nI n), .int (nI a), .int b])).length) Slot.unset).toArray = ls at hl ⊢
  have hl : lv_has ls 5 [(0, .ref x), (1, .int (nI kd)), (2, .int (nI n)), (3, .int (nI a)), (4, .int b)] := hl
  refine lv_iload_n hx hb dX3_family_0 rfl (lv_at hl 1 rfl) ?_
  refine n_if_lt (tgt := 9) hx hb dX3_family_1 (by decide) (by first | assumption | omega) ?_
  refine lv_iload_n hx hb dX3_family_4 rfl (lv_at hl 1 rfl) ?_
  refine lv_iconst (v := nI 2) hx hb dX3_family_5 (by decide) ?_
  refine n_icmp_le (tgt := 19) hx hb dX3_family_6 (by decide) (by first | assumption | omega) (by first | assumption | omega) (fun c2 => ?_) (fun c2 => ?_)
  · skip
    refine lv_iload_n hx hb dX3_family_19 rfl (lv_at hl 2 rfl) ?_
    refine k_goV (wr := [(x, .inr (3, [.ref tk, .ref mh, .ref sc, .ref ga, .int (nI bu)])), (tk, .inr (1, [.ref t1, .ref t2, .ref t3, .ref t4])), (t1, .inl (cI, 25, .inl tz)), (t2, .inl (cI, 25, .inl tl)), (t3, .inl (cI, 25, .inl ty)), (t4, .inl (cI, 25, .inl tt))]) (va_runS (As := [.int (nI n)]) (rest := []) ⟨hx, hb, hml, hown, hts⟩ (c_X3_requireClass l g cI cJ cZ  (nI n) ⟨nI_le hn.1 (by omega), nI_le hn.2 (by decide)⟩ _) (va_cwS 1 hts gX3_family_X3_requireClass rfl rfl rfl (by decide +kernel) ⟨Nat.le_of_ble_eq_true rfl, Nat.le_of_ble_eq_true rfl⟩) (k_preS hk hP hD [] rfl rfl) rfl rfl hl.1 rfl (lv_room (Nat.le_of_ble_eq_true rfl)) dX3_family_20 ⟨by first | exact Nat.zero_le _ | omega, by first | exact Nat.zero_le _ | omega⟩) hP hD hS hA [] [0, 1, 2, 3, 4, 5] rfl rfl rfl (by decide) (fun _ H locs hu hP hD hS => ?_)
    have hP : va_P g vwCl [(x, .inr (3, [.ref tk, .ref mh, .ref sc, .ref ga, .int (nI bu)])), (tk, .inr (1, [.ref t1, .ref t2, .ref t3, .ref t4])), (t1, .inl (cI, 25, .inl tz)), (t2, .inl (cI, 25, .inl tl)), (t3, .inl (cI, 25, .inl ty)), (t4, .inl (cI, 25, .inl tt))] H := hP
    have hD : va_D A [(x, .inr (3, [.ref tk, .ref mh, .ref sc, .ref ga, .int (nI bu)])), (tk, .inr (1, [.ref t1, .ref t2, .ref t3, .ref t4])), (t1, .inl (cI, 25, .inl tz)), (t2, .inl (cI, 25, .inl tl)), (t3, .inl (cI, 25, .inl ty)), (t4, .inl (cI, 25, .inl tt))] := hD
    refine lv_iload_n hx hb dX3_family_23 rfl (lv_at hl 3 rfl) ?_
    refine k_goR (W.runS (As := [.int (nI a)]) (rest := []) ⟨hx, hb, hml, hown, hts⟩ (c_X3_isSize l g cI cJ cZ  (nI a) ) (va_cwS 1 hts gX3_family_X3_isSize rfl rfl rfl (by decide +kernel) ⟨Nat.le_of_ble_eq_true rfl, Nat.le_of_ble_eq_true rfl⟩) (k_preRS hk hP [] rfl) rfl rfl hl.1 rfl (lv_room (Nat.le_of_ble_eq_true rfl)) dX3_family_24 ⟨by first | exact Nat.zero_le _ | omega, by first | exact Nat.zero_le _ | omega⟩) ?_
    refine k_ifeq (tgt := 43) hx hb dX3_family_27 (by decide) (fun c3 => ?_) (fun c3 => ?_)
    · exact (by exact absurd ⟨nI_le ha.1 (by omega), nI_le ha.2 (by decide)⟩ c3)
    · skip
      refine lv_iload_n hx hb dX3_family_30 rfl (lv_at hl 1 rfl) ?_
      refine lv_iconst (v := nI 1) hx hb dX3_family_31 (by decide) ?_
      refine n_icmp_ne (tgt := 53) hx hb dX3_family_32 (by decide) (by first | assumption | omega) (by first | assumption | omega) (fun c4 => ?_) (fun c4 => ?_)
      · skip
        refine lv_aload_n hx hb dX3_family_53 rfl (lv_at hl 0 rfl) ?_
        refine va_get (D := g) (ci := 3) (v := .ref tk) (C := RX3) (T := TX3) (N := 5) hx hb hts hinX3 hown hK hP 0 rfl rfl 0 (by decide) (hts (.fieldLink RX3 12 "BuddyRoof" "told" "LBuddyRoof$Rule;") (by decide +kernel)) (fun _ h9 => h9) rfl dX3_family_54 ?_
        refine lv_iload_n hx hb dX3_family_57 rfl (lv_at hl 1 rfl) ?_
        refine lv_iload_n hx hb dX3_family_58 rfl (lv_at hl 2 rfl) ?_
        refine lv_iload_n hx hb dX3_family_59 rfl (lv_at hl 3 rfl) ?_
        refine lv_iload hx hb dX3_family_60 (lv_at hl 4 rfl) ?_
        refine k_goI (wr := [(x, .inr (3, [.ref tk, .ref mh, .ref sc, .ref ga, .int (nI bu)]))]) (va_runV (As := [.int (nI kd), .int (nI n), .int (nI a), .int b]) (rest := []) ⟨hx, hb, hml, hown, hts⟩ (c_X1_tellFamily l g cI cJ cZ tk t1 t2 t3 t4 tz tl ty tt kd n a bn b hkd hn ha.2 (fun q => ⟨(hbn q).1, (hbn q).2.2⟩) _) (cwV 4 hts gX3_family_X1_tellFamily rfl rfl rfl (by decide +kernel) ⟨Nat.le_of_ble_eq_true rfl, Nat.le_of_ble_eq_true rfl⟩) (k_preV hk hP hD [1, 2, 3, 4, 5] rfl rfl (ci := 1) (q0 := 0) rfl rfl) rfl rfl hl.1 rfl (lv_room (Nat.le_of_ble_eq_true rfl)) dX3_family_62 ⟨by first | exact Nat.zero_le _ | omega, by first | exact Nat.zero_le _ | omega⟩) hP hD hS hA [1, 2, 3, 4, 5] [0] rfl rfl rfl (by decide) (fun rv u H locs hu hP hD hS => ?_)
        obtain ⟨hF1, hrv, e1, e2, e3, e4⟩ := hu.resolve_left (fun q => by rw [hok] at q; exact absurd q.1 (by decide))
        rw [e1, e2, e3, e4] at hP hD
        subst hrv
        have hP : va_P g vwCl [(x, .inr (3, [.ref tk, .ref mh, .ref sc, .ref ga, .int (nI bu)])), (tk, .inr (1, [.ref t1, .ref t2, .ref t3, .ref t4])), (t1, .inl (cI, 25, .inl tz)), (t2, .inl (cI, 25, .inl tl)), (t3, .inl (cI, 25, .inl ty)), (t4, .inl (cI, 25, .inl (fmi tt (fun i => nI (fz kd a bn i)) (lwF (fun i => decide (4194304 < fz kd a bn i)) n 1 + 1))))] H := hP
        have hD : va_D A [(x, .inr (3, [.ref tk, .ref mh, .ref sc, .ref ga, .int (nI bu)])), (tk, .inr (1, [.ref t1, .ref t2, .ref t3, .ref t4])), (t1, .inl (cI, 25, .inl tz)), (t2, .inl (cI, 25, .inl tl)), (t3, .inl (cI, 25, .inl ty)), (t4, .inl (cI, 25, .inl (fmi tt (fun i => nI (fz kd a bn i)) (lwF (fun i => decide (4194304 < fz kd a bn i)) n 1 + 1))))] := hD
        refine n_if_ne (tgt := 78) hx hb dX3_family_65 (by decide) (by first | assumption | omega) (fun c5 => ?_) (fun c5 => ?_)
        · exact (by exact absurd c5 (by decide))
        · skip
          exact k_throw (E := xA) (text := "a size of the family is too great") hx hb hst hown (by decide +kernel) (hts (.classLink RX3 42 "java/lang/IllegalArgumentException") (by decide +kernel)) (hts (.initialized "java/lang/IllegalArgumentException") (by decide +kernel)) hxT (by decide +kernel) (fun w hw => hts w (List.mem_cons_of_mem _ (List.mem_append_right _ hw))) (by decide +kernel) (by decide +kernel) hxZ hAe hS (hl.1.trans hml.symm) dX3_family_68 dX3_family_71 dX3_family_72 dX3_family_74 dX3_family_77 htab (Nat.le_of_ble_eq_true rfl) (Nat.le_of_ble_eq_true rfl) (Nat.le_of_ble_eq_true rfl) (Nat.le_of_ble_eq_true rfl) hlocks (hP.sub [0, 1, 2, 3, 4, 5] rfl) (hD.sub [0, 1, 2, 3, 4, 5] rfl rfl) (Nat.le_refl _) (Nat.le_refl _)
      · skip
        refine lv_iload hx hb dX3_family_35 (lv_at hl 4 rfl) ?_
        refine k_goR (W.runS (As := [.int b]) (rest := []) ⟨hx, hb, hml, hown, hts⟩ (c_X3_isSize l g cI cJ cZ  b ) (va_cwS 1 hts gX3_family_X3_isSize rfl rfl rfl (by decide +kernel) ⟨Nat.le_of_ble_eq_true rfl, Nat.le_of_ble_eq_true rfl⟩) (k_preRS hk hP [] rfl) rfl rfl hl.1 rfl (lv_room (Nat.le_of_ble_eq_true rfl)) dX3_family_37 ⟨by first | exact Nat.zero_le _ | omega, by first | exact Nat.zero_le _ | omega⟩) ?_
        refine k_ifne (tgt := 53) hx hb dX3_family_40 (by decide) (fun c6 => ?_) (fun c6 => ?_)
        · skip
          refine lv_aload_n hx hb dX3_family_53 rfl (lv_at hl 0 rfl) ?_
          refine va_get (D := g) (ci := 3) (v := .ref tk) (C := RX3) (T := TX3) (N := 5) hx hb hts hinX3 hown hK hP 0 rfl rfl 0 (by decide) (hts (.fieldLink RX3 12 "BuddyRoof" "told" "LBuddyRoof$Rule;") (by decide +kernel)) (fun _ h9 => h9) rfl dX3_family_54 ?_
          refine lv_iload_n hx hb dX3_family_57 rfl (lv_at hl 1 rfl) ?_
          refine lv_iload_n hx hb dX3_family_58 rfl (lv_at hl 2 rfl) ?_
          refine lv_iload_n hx hb dX3_family_59 rfl (lv_at hl 3 rfl) ?_
          refine lv_iload hx hb dX3_family_60 (lv_at hl 4 rfl) ?_
          refine k_goI (wr := [(x, .inr (3, [.ref tk, .ref mh, .ref sc, .ref ga, .int (nI bu)]))]) (va_runV (As := [.int (nI kd), .int (nI n), .int (nI a), .int b]) (rest := []) ⟨hx, hb, hml, hown, hts⟩ (c_X1_tellFamily l g cI cJ cZ tk t1 t2 t3 t4 tz tl ty tt kd n a bn b hkd hn ha.2 (fun q => ⟨(hbn q).1, (hbn q).2.2⟩) _) (cwV 4 hts gX3_family_X1_tellFamily rfl rfl rfl (by decide +kernel) ⟨Nat.le_of_ble_eq_true rfl, Nat.le_of_ble_eq_true rfl⟩) (k_preV hk hP hD [1, 2, 3, 4, 5] rfl rfl (ci := 1) (q0 := 0) rfl rfl) rfl rfl hl.1 rfl (lv_room (Nat.le_of_ble_eq_true rfl)) dX3_family_62 ⟨by first | exact Nat.zero_le _ | omega, by first | exact Nat.zero_le _ | omega⟩) hP hD hS hA [1, 2, 3, 4, 5] [0] rfl rfl rfl (by decide) (fun rv u H locs hu hP hD hS => ?_)
          obtain ⟨hF1, hrv, e1, e2, e3, e4⟩ := hu.resolve_left (fun q => by rw [hok] at q; exact absurd q.1 (by decide))
          rw [e1, e2, e3, e4] at hP hD
          subst hrv
          have hP : va_P g vwCl [(x, .inr (3, [.ref tk, .ref mh, .ref sc, .ref ga, .int (nI bu)])), (tk, .inr (1, [.ref t1, .ref t2, .ref t3, .ref t4])), (t1, .inl (cI, 25, .inl tz)), (t2, .inl (cI, 25, .inl tl)), (t3, .inl (cI, 25, .inl ty)), (t4, .inl (cI, 25, .inl (fmi tt (fun i => nI (fz kd a bn i)) (lwF (fun i => decide (4194304 < fz kd a bn i)) n 1 + 1))))] H := hP
          have hD : va_D A [(x, .inr (3, [.ref tk, .ref mh, .ref sc, .ref ga, .int (nI bu)])), (tk, .inr (1, [.ref t1, .ref t2, .ref t3, .ref t4])), (t1, .inl (cI, 25, .inl tz)), (t2, .inl (cI, 25, .inl tl)), (t3, .inl (cI, 25, .inl ty)), (t4, .inl (cI, 25, .inl (fmi tt (fun i => nI (fz kd a bn i)) (lwF (fun i => decide (4194304 < fz kd a bn i)) n 1 + 1))))] := hD
          refine n_if_ne (tgt := 78) hx hb dX3_family_65 (by decide) (by first | assumption | omega) (fun c7 => ?_) (fun c7 => ?_)
          · exact (by exact absurd c7 (by decide))
          · skip
            exact k_throw (E := xA) (text := "a size of the family is too great") hx hb hst hown (by decide +kernel) (hts (.classLink RX3 42 "java/lang/IllegalArgumentException") (by decide +kernel)) (hts (.initialized "java/lang/IllegalArgumentException") (by decide +kernel)) hxT (by decide +kernel) (fun w hw => hts w (List.mem_cons_of_mem _ (List.mem_append_right _ hw))) (by decide +kernel) (by decide +kernel) hxZ hAe hS (hl.1.trans hml.symm) dX3_family_68 dX3_family_71 dX3_family_72 dX3_family_74 dX3_family_77 htab (Nat.le_of_ble_eq_true rfl) (Nat.le_of_ble_eq_true rfl) (Nat.le_of_ble_eq_true rfl) (Nat.le_of_ble_eq_true rfl) hlocks (hP.sub [0, 1, 2, 3, 4, 5] rfl) (hD.sub [0, 1, 2, 3, 4, 5] rfl rfl) (Nat.le_refl _) (Nat.le_refl _)
        · exact (by refine absurd ?_ c6; rw [(hbn (by omega)).1]; exact ⟨nI_le (hbn (by omega)).2.1 (by have := (hbn (by omega)).2.2; omega), nI_le (hbn (by omega)).2.2 (by decide)⟩)
  · exact (by exfalso; omega)
set_option maxHeartbeats 4000000 in
set_option maxRecDepth 100000 in
theorem c_X3_family_tA (l : Launch) (g : va_G) (cI cJ cZ : ClassId) (hst : l.stackTraces = false) (x sc ga mh : Nat) (bu : Nat) (tk : Nat) (kv nv av bv : Int32) (hv : ¬ ((¬ kv < 0 ∧ kv ≤ nI 2) ∧ (nI 1 ≤ nv ∧ nv ≤ nI 24) ∧ (nI 4 ≤ av ∧ av ≤ nI 4194304) ∧ (kv = nI 1 → nI 4 ≤ bv ∧ bv ≤ nI 4194304))) : kT l g (kty cI cJ cZ) yX3_family wsX3_family ({ frames := 7, cells := 1, slots := 6, locals := 110 }) [.ref x, .int kv, .int nv, .int av, .int bv] [(x, .inr (3, [.ref tk, .ref mh, .ref sc, .ref ga, .int (nI bu)]))] [(x, .inr (3, [.ref tk, .ref mh, .ref sc, .ref ga, .int (nI bu)]))] xA := by
  intro sz
  refine vx_ofW (cc := cX3_family) (maxL := 5) (ret := none) (by decide) rfl ?_
  intro p e s m args below meth c s₁ B hml htab hv
  obtain ⟨rfl, ⟨hsz, hP, hk, hD0⟩, hxT, hxZ⟩ := hv
  subst hsz
  have hx := B.exec
  have hb := B.bytes
  have hr := B.returns
  have hts := atoms_spec (ws := wsX3_family) B.pre
  have hown : s.vm.findClass RX3 = some m.cls := findClass_of_methodNamed B.named
  have hlocks := B.notSynchronized
  have hK := hk.1
  obtain ⟨A, hAe⟩ : ∃ A, va_A [(x, .inr (3, [.ref tk, .ref mh, .ref sc, .ref ga, .int (nI bu)]))] s.heap.size = A := ⟨_, rfl⟩
  have hD := hD0.self (sz := s.heap.size)
  rw [hAe] at hD hxZ
  have hA : ∀ q : Nat, s.heap.size ≤ q → A q := fun q h => by rw [← hAe]; exact Or.inr h
  have hS : va_S A s.heap s.heap [] := va_S.rf
  have hl := lv_entry ([.ref x, .int kv, .int nv, .int av, .int bv]) (n := 5) (Nat.le_of_ble_eq_true rfl)
  rw [lg_entry_eq]
  generalize (lg_sl ([.ref x, .int kv, .int nv, .int av, .int bv]) ++ List.replicate (5 - (lg_sl ([.ref x, .int kv, .int nv, .int av, .int bv])).length) Slot.unset).toArray = ls at hl ⊢
  have hl : lv_has ls 5 [(0, .ref x), (1, .int kv), (2, .int nv), (3, .int av), (4, .int bv)] := hl
  refine lv_iload_n hx hb dX3_family_0 rfl (lv_at hl 1 rfl) ?_
  refine lv_if_lt (tgt := 9) hx hb dX3_family_1 (by decide) (fun c1 => ?_) (fun c1 => ?_)
  · skip
    exact k_throw (E := xA) (text := "no such kind of family") hx hb hst hown (by decide +kernel) (hts (.classLink RX3 42 "java/lang/IllegalArgumentException") (by decide +kernel)) (hts (.initialized "java/lang/IllegalArgumentException") (by decide +kernel)) hxT (by decide +kernel) (fun w hw => hts w (List.mem_cons_of_mem _ (List.mem_append_right _ hw))) (by decide +kernel) (by decide +kernel) hxZ hAe hS (hl.1.trans hml.symm) dX3_family_9 dX3_family_12 dX3_family_13 dX3_family_15 dX3_family_18 htab (Nat.le_of_ble_eq_true rfl) (Nat.le_of_ble_eq_true rfl) (Nat.le_of_ble_eq_true rfl) (Nat.le_of_ble_eq_true rfl) hlocks (hP.sub [0] rfl) (hD.sub [0] rfl rfl) (Nat.le_refl _) (Nat.le_refl _)
  · skip
    refine lv_iload_n hx hb dX3_family_4 rfl (lv_at hl 1 rfl) ?_
    refine lv_iconst (v := nI 2) hx hb dX3_family_5 (by decide) ?_
    refine lv_icmp_le (tgt := 19) hx hb dX3_family_6 (by decide) (fun c2 => ?_) (fun c2 => ?_)
    · skip
      refine lv_iload_n hx hb dX3_family_19 rfl (lv_at hl 2 rfl) ?_
      by_cases hc : nI 1 ≤ nv ∧ nv ≤ nI 24
      · skip
        refine k_goV (wr := [(x, .inr (3, [.ref tk, .ref mh, .ref sc, .ref ga, .int (nI bu)]))]) (va_runS (As := [.int nv]) (rest := []) ⟨hx, hb, hml, hown, hts⟩ (c_X3_requireClass l g cI cJ cZ  nv hc _) (va_cwS 1 hts gX3_family_X3_requireClass rfl rfl rfl (by decide +kernel) ⟨Nat.le_of_ble_eq_true rfl, Nat.le_of_ble_eq_true rfl⟩) (k_preS hk hP hD [] rfl rfl) rfl rfl hl.1 rfl (lv_room (Nat.le_of_ble_eq_true rfl)) dX3_family_20 ⟨by first | exact Nat.zero_le _ | omega, by first | exact Nat.zero_le _ | omega⟩) hP hD hS hA [] [0] rfl rfl rfl (by decide) (fun _ H locs hu hP hD hS => ?_)
        have hP : va_P g vwCl [(x, .inr (3, [.ref tk, .ref mh, .ref sc, .ref ga, .int (nI bu)]))] H := hP
        have hD : va_D A [(x, .inr (3, [.ref tk, .ref mh, .ref sc, .ref ga, .int (nI bu)]))] := hD
        refine lv_iload_n hx hb dX3_family_23 rfl (lv_at hl 3 rfl) ?_
        refine k_goR (W.runS (As := [.int av]) (rest := []) ⟨hx, hb, hml, hown, hts⟩ (c_X3_isSize l g cI cJ cZ  av ) (va_cwS 1 hts gX3_family_X3_isSize rfl rfl rfl (by decide +kernel) ⟨Nat.le_of_ble_eq_true rfl, Nat.le_of_ble_eq_true rfl⟩) (k_preRS hk hP [] rfl) rfl rfl hl.1 rfl (lv_room (Nat.le_of_ble_eq_true rfl)) dX3_family_24 ⟨by first | exact Nat.zero_le _ | omega, by first | exact Nat.zero_le _ | omega⟩) ?_
        refine k_ifeq (tgt := 43) hx hb dX3_family_27 (by decide) (fun c3 => ?_) (fun c3 => ?_)
        · skip
          exact k_throw (E := xA) (text := "a leaf\'s size is out of bounds") hx hb hst hown (by decide +kernel) (hts (.classLink RX3 42 "java/lang/IllegalArgumentException") (by decide +kernel)) (hts (.initialized "java/lang/IllegalArgumentException") (by decide +kernel)) hxT (by decide +kernel) (fun w hw => hts w (List.mem_cons_of_mem _ (List.mem_append_right _ hw))) (by decide +kernel) (by decide +kernel) hxZ hAe hS (hl.1.trans hml.symm) dX3_family_43 dX3_family_46 dX3_family_47 dX3_family_49 dX3_family_52 htab (Nat.le_of_ble_eq_true rfl) (Nat.le_of_ble_eq_true rfl) (Nat.le_of_ble_eq_true rfl) (Nat.le_of_ble_eq_true rfl) hlocks (hP.sub [0] rfl) (hD.sub [0] rfl rfl) (Nat.le_refl _) (Nat.le_refl _)
        · skip
          refine lv_iload_n hx hb dX3_family_30 rfl (lv_at hl 1 rfl) ?_
          refine lv_iconst (v := nI 1) hx hb dX3_family_31 (by decide) ?_
          refine lv_icmp_ne (tgt := 53) hx hb dX3_family_32 (by decide) (fun c4 => ?_) (fun c4 => ?_)
          · exact (by exact absurd ⟨⟨c1, c2⟩, hc, c3, fun e9 => absurd e9 c4⟩ hv)
          · skip
            refine lv_iload hx hb dX3_family_35 (lv_at hl 4 rfl) ?_
            refine k_goR (W.runS (As := [.int bv]) (rest := []) ⟨hx, hb, hml, hown, hts⟩ (c_X3_isSize l g cI cJ cZ  bv ) (va_cwS 1 hts gX3_family_X3_isSize rfl rfl rfl (by decide +kernel) ⟨Nat.le_of_ble_eq_true rfl, Nat.le_of_ble_eq_true rfl⟩) (k_preRS hk hP [] rfl) rfl rfl hl.1 rfl (lv_room (Nat.le_of_ble_eq_true rfl)) dX3_family_37 ⟨by first | exact Nat.zero_le _ | omega, by first | exact Nat.zero_le _ | omega⟩) ?_
            refine k_ifne (tgt := 53) hx hb dX3_family_40 (by decide) (fun c5 => ?_) (fun c5 => ?_)
            · exact (by exact absurd ⟨⟨c1, c2⟩, hc, c3, fun _ => c5⟩ hv)
            · skip
              exact k_throw (E := xA) (text := "a leaf\'s size is out of bounds") hx hb hst hown (by decide +kernel) (hts (.classLink RX3 42 "java/lang/IllegalArgumentException") (by decide +kernel)) (hts (.initialized "java/lang/IllegalArgumentException") (by decide +kernel)) hxT (by decide +kernel) (fun w hw => hts w (List.mem_cons_of_mem _ (List.mem_append_right _ hw))) (by decide +kernel) (by decide +kernel) hxZ hAe hS (hl.1.trans hml.symm) dX3_family_43 dX3_family_46 dX3_family_47 dX3_family_49 dX3_family_52 htab (Nat.le_of_ble_eq_true rfl) (Nat.le_of_ble_eq_true rfl) (Nat.le_of_ble_eq_true rfl) (Nat.le_of_ble_eq_true rfl) hlocks (hP.sub [0] rfl) (hD.sub [0] rfl rfl) (Nat.le_refl _) (Nat.le_refl _)
      · skip
        refine k_goT (wr := [(x, .inr (3, [.ref tk, .ref mh, .ref sc, .ref ga, .int (nI bu)]))]) (vx_runS (As := [.int nv]) (rest := []) ⟨hx, hb, hml, hown, hts⟩ (c_X3_requireClass_t l g cI cJ cZ hst  nv hc _) (va_cwS 1 hts gX3_family_X3_requireClass rfl rfl rfl (by decide +kernel) ⟨Nat.le_of_ble_eq_true rfl, Nat.le_of_ble_eq_true rfl⟩) (k_preSx hk hxT (hxZ.kept (fun a h1 h2 => hS.2.1 a h1 h2)) hP hD hS hA [] rfl rfl) rfl rfl hl.1 rfl (lv_room (Nat.le_of_ble_eq_true rfl)) dX3_family_20 ⟨Nat.le_of_ble_eq_true rfl, Nat.le_of_ble_eq_true rfl⟩) hP hD hS hA [] [0] rfl rfl rfl (by decide) (fun ce q9 H locs hP hD hS hkp hce hcv hcl => ?_)
        have hP : va_P g vwCl [(x, .inr (3, [.ref tk, .ref mh, .ref sc, .ref ga, .int (nI bu)]))] H := hP
        have hD : va_D A [(x, .inr (3, [.ref tk, .ref mh, .ref sc, .ref ga, .int (nI bu)]))] := hD
        exact k_out htab hlocks hce hcv hcl (hP.sub [0] rfl) (hD.sub [0] rfl rfl) hAe hS (Nat.le_refl _) (Nat.le_refl _)
    · skip
      exact k_throw (E := xA) (text := "no such kind of family") hx hb hst hown (by decide +kernel) (hts (.classLink RX3 42 "java/lang/IllegalArgumentException") (by decide +kernel)) (hts (.initialized "java/lang/IllegalArgumentException") (by decide +kernel)) hxT (by decide +kernel) (fun w hw => hts w (List.mem_cons_of_mem _ (List.mem_append_right _ hw))) (by decide +kernel) (by decide +kernel) hxZ hAe hS (hl.1.trans hml.symm) dX3_family_9 dX3_family_12 dX3_family_13 dX3_family_15 dX3_family_18 htab (Nat.le_of_ble_eq_true rfl) (Nat.le_of_ble_eq_true rfl) (Nat.le_of_ble_eq_true rfl) (Nat.le_of_ble_eq_true rfl) hlocks (hP.sub [0] rfl) (hD.sub [0] rfl rfl) (Nat.le_refl _) (Nat.le_refl _)
set_option maxHeartbeats 4000000 in
set_option maxRecDepth 100000 in
theorem c_X3_give (l : Launch) (g : va_G) (cI cJ cZ : ClassId) (x tk sc ga : Nat) (mh kr kq fq bq gq : Nat) (rcv ncl bl rd hd jn sn : Nat) (fo : Nat → Nat) (bs : Nat → Nat) (r1 r2 r3 r4 : Nat) (sz lf rt tr : Nat → Int32) (h q1 q2 q3 q4 q5 q6 q7 n : Nat) (pa ch kd ad ra su un : Nat → Nat) (mk sv : Nat) (top : Nat) (S L R : Nat → Nat) (rc : Nat → Bool) (sp : Nat → Bool) (rq nu : Nat → Nat) (w : Nat) (hn : n < 2 ^ 24) (hR : RuleOK S L R rc top) (hrl : rOK S L R rc sz lf rt) (hbo : bOK S rc ncl bs) (hI : wI top S L R sp rq nu ([]) n mk sv pa ch kd ad ra su un fo bl rd hd) (hb9 : bl < 256) (hw1 : 1 ≤ w) (hw : w < 2 ^ 31) : kI l g (kty cI cJ cZ) yX3_give wsX3_give ({ frames := 6, cells := (7 * ((dbl n (max mk (2 * (lvs (gC S L R (cls top L R) rq w sp).1 1).length))) - n)), slots := (14 * ((dbl n (max mk (2 * (lvs (gC S L R (cls top L R) rq w sp).1 1).length))) - n)), locals := 184 }) [.ref x, .int (nI w)] [(x, .inr (3, [.ref tk, .ref mh, .ref sc, .ref ga, .int (nI 1)])), (mh, .inr (0, [.ref kr, .ref h, .ref kq, .ref fq, .ref bq, .ref gq, .int (nI rcv), .int (nI ncl), .int (nI bl), .int (nI rd), .int (nI hd), .int (nI jn), .int (nI sn)])), (fq, .inl (cI, 25, .inl (fun j => nI (fo j)))), (bq, .inl (cI, 24, .inl (fun j => nI (bs j)))), (kr, .inr (1, [.ref r1, .ref r2, .ref r3, .ref r4])), (r1, .inl (cI, 25, .inl sz)), (r2, .inl (cI, 25, .inl lf)), (r3, .inl (cI, 25, .inl rt)), (r4, .inl (cI, 25, .inl tr)), (h, .inr (2, [.ref q1, .ref q2, .ref q3, .ref q4, .ref q5, .ref q6, .ref q7, .int (nI mk), .int (nI sv)])), (q1, .inl (cI, n, .inl (fun j => nI (pa j)))), (q2, .inl (cI, n, .inl (fun j => nI (ch j)))), (q3, .inl (cI, n, .inl (fun j => nI (kd j)))), (q4, .inl (cI, n, .inl (fun j => nI (ad j)))), (q5, .inl (cI, n, .inl (fun j => nI (ra j)))), (q6, .inl (cI, n, .inl (fun j => nI (su j)))), (q7, .inl (cI, n, .inl (fun j => nI (un j))))] (S := (Nat → Nat) × (Nat → Nat) × (Nat → Nat) × (Nat → Nat) × (Nat → Nat) × (Nat → Nat) × (Nat → Nat) × (Nat → Nat) × (Nat → Nat) × (Nat → Nat) × Nat × Nat × Nat × Nat × Nat × Nat) (fun r u => r = (if (gC S L R (cls top L R) rq w sp).2.1 = 0 then -1 else nI (adr top S L R (gC S L R (cls top L R) rq w sp).2.1)) ∧ (∀ p, ex (gS1 S (cls top L R) rq w sp) p → u.2.2.2.2.2.2.2.2.2.1 p = nu p) ∧ u.2.2.2.2.2.2.2.2.2.2.2.2.2.2.1 = jn + ((lvs sp 1).length - (lvs (gS1 S (cls top L R) rq w sp) 1).length) ∧ u.2.2.2.2.2.2.2.2.2.2.2.2.2.2.2 = sn + (gC S L R (cls top L R) rq w sp).2.2 ∧ wI top S L R ((gC S L R (cls top L R) rq w sp).1) (gQ S L R (cls top L R) rq w sp) (u.2.2.2.2.2.2.2.2.2.1) ([]) (dbl n (max mk (2 * (lvs (gC S L R (cls top L R) rq w sp).1 1).length))) (max mk (2 * (lvs (gC S L R (cls top L R) rq w sp).1 1).length)) (u.2.2.2.2.2.2.2.2.2.2.1) (u.2.1) (u.2.2.1) (u.2.2.2.1) (u.2.2.2.2.1) (u.2.2.2.2.2.1) (u.2.2.2.2.2.2.1) (u.2.2.2.2.2.2.2.1) (u.2.2.2.2.2.2.2.2.1) (u.2.2.2.2.2.2.2.2.2.2.2.1) (u.2.2.2.2.2.2.2.2.2.2.2.2.1) (u.2.2.2.2.2.2.2.2.2.2.2.2.2.1)) (fun u => [(x, .inr (3, [.ref tk, .ref mh, .ref sc, .ref ga, .int (nI 1)])), (mh, .inr (0, [.ref kr, .ref h, .ref kq, .ref fq, .ref bq, .ref gq, .int (nI rcv), .int (nI ncl), .int (nI (u.2.2.2.2.2.2.2.2.2.2.2.1)), .int (nI (u.2.2.2.2.2.2.2.2.2.2.2.2.1)), .int (nI (u.2.2.2.2.2.2.2.2.2.2.2.2.2.1)), .int (nI (u.2.2.2.2.2.2.2.2.2.2.2.2.2.2.1)), .int (nI (u.2.2.2.2.2.2.2.2.2.2.2.2.2.2.2))])), (fq, .inl (cI, 25, .inl (fun j => nI (u.2.2.2.2.2.2.2.2.1 j)))), (bq, .inl (cI, 24, .inl (fun j => nI (bs j)))), (kr, .inr (1, [.ref r1, .ref r2, .ref r3, .ref r4])), (r1, .inl (cI, 25, .inl sz)), (r2, .inl (cI, 25, .inl lf)), (r3, .inl (cI, 25, .inl rt)), (r4, .inl (cI, 25, .inl tr)), (h, .inr (2, [.ref (u.1 1), .ref (u.1 2), .ref (u.1 3), .ref (u.1 4), .ref (u.1 5), .ref (u.1 6), .ref (u.1 7), .int (nI ((max mk (2 * (lvs (gC S L R (cls top L R) rq w sp).1 1).length)))), .int (nI (u.2.2.2.2.2.2.2.2.2.2.1))])), ((u.1 1), .inl (cI, (dbl n (max mk (2 * (lvs (gC S L R (cls top L R) rq w sp).1 1).length))), .inl (fun j => nI (u.2.1 j)))), ((u.1 2), .inl (cI, (dbl n (max mk (2 * (lvs (gC S L R (cls top L R) rq w sp).1 1).length))), .inl (fun j => nI (u.2.2.1 j)))), ((u.1 3), .inl (cI, (dbl n (max mk (2 * (lvs (gC S L R (cls top L R) rq w sp).1 1).length))), .inl (fun j => nI (u.2.2.2.1 j)))), ((u.1 4), .inl (cI, (dbl n (max mk (2 * (lvs (gC S L R (cls top L R) rq w sp).1 1).length))), .inl (fun j => nI (u.2.2.2.2.1 j)))), ((u.1 5), .inl (cI, (dbl n (max mk (2 * (lvs (gC S L R (cls top L R) rq w sp).1 1).length))), .inl (fun j => nI (u.2.2.2.2.2.1 j)))), ((u.1 6), .inl (cI, (dbl n (max mk (2 * (lvs (gC S L R (cls top L R) rq w sp).1 1).length))), .inl (fun j => nI (u.2.2.2.2.2.2.1 j)))), ((u.1 7), .inl (cI, (dbl n (max mk (2 * (lvs (gC S L R (cls top L R) rq w sp).1 1).length))), .inl (fun j => nI (u.2.2.2.2.2.2.2.1 j))))]) (7 * ((dbl n (max mk (2 * (lvs (gC S L R (cls top L R) rq w sp).1 1).length))) - n)) (14 * ((dbl n (max mk (2 * (lvs (gC S L R (cls top L R) rq w sp).1 1).length))) - n)) := by
  intro sz
  refine Met.ofW (cc := cX3_give) (maxL := 2) (ret := (some .int)) (by decide) rfl ?_
  intro p e s m args below meth c s₁ B hml hv
  obtain ⟨rfl, hsz, hP, hk, hD0⟩ := hv
  subst hsz
  have hx := B.exec
  have hb := B.bytes
  have hr := B.returns
  have hts := atoms_spec (ws := wsX3_give) B.pre
  have hown : s.vm.findClass RX3 = some m.cls := findClass_of_methodNamed B.named
  have hlocks := B.notSynchronized
  have hK := hk.1
  have hinX3 : ∀ w ∈ wsX30, w ∈ wsX3_give := by decide +kernel
  obtain ⟨A, hAe⟩ : ∃ A, va_A [(x, .inr (3, [.ref tk, .ref mh, .ref sc, .ref ga, .int (nI 1)])), (mh, .inr (0, [.ref kr, .ref h, .ref kq, .ref fq, .ref bq, .ref gq, .int (nI rcv), .int (nI ncl), .int (nI bl), .int (nI rd), .int (nI hd), .int (nI jn), .int (nI sn)])), (fq, .inl (cI, 25, .inl (fun j => nI (fo j)))), (bq, .inl (cI, 24, .inl (fun j => nI (bs j)))), (kr, .inr (1, [.ref r1, .ref r2, .ref r3, .ref r4])), (r1, .inl (cI, 25, .inl sz)), (r2, .inl (cI, 25, .inl lf)), (r3, .inl (cI, 25, .inl rt)), (r4, .inl (cI, 25, .inl tr)), (h, .inr (2, [.ref q1, .ref q2, .ref q3, .ref q4, .ref q5, .ref q6, .ref q7, .int (nI mk), .int (nI sv)])), (q1, .inl (cI, n, .inl (fun j => nI (pa j)))), (q2, .inl (cI, n, .inl (fun j => nI (ch j)))), (q3, .inl (cI, n, .inl (fun j => nI (kd j)))), (q4, .inl (cI, n, .inl (fun j => nI (ad j)))), (q5, .inl (cI, n, .inl (fun j => nI (ra j)))), (q6, .inl (cI, n, .inl (fun j => nI (su j)))), (q7, .inl (cI, n, .inl (fun j => nI (un j))))] s.heap.size = A := ⟨_, rfl⟩
  have hD := hD0.self (sz := s.heap.size)
  rw [hAe] at hD
  have hA : ∀ q : Nat, s.heap.size ≤ q → A q := fun q h => by rw [← hAe]; exact Or.inr h
  have hS : va_S A s.heap s.heap [] := va_S.rf
  have hl := lv_entry ([.ref x, .int (nI w)]) (n := 2) (Nat.le_of_ble_eq_true rfl)
  rw [lg_entry_eq]
  generalize (lg_sl ([.ref x, .int (nI w)]) ++ List.replicate (2 - (lg_sl ([.ref x, .int (nI w)])).length) Slot.unset).toArray = ls at hl ⊢
  have hl : lv_has ls 2 [(0, .ref x), (1, .int (nI w))] := hl
  refine lv_aload_n hx hb dX3_give_0 rfl (lv_at hl 0 rfl) ?_
  refine k_goV (wr := [(mh, .inr (0, [.ref kr, .ref h, .ref kq, .ref fq, .ref bq, .ref gq, .int (nI rcv), .int (nI ncl), .int (nI bl), .int (nI rd), .int (nI hd), .int (nI jn), .int (nI sn)])), (fq, .inl (cI, 25, .inl (fun j => nI (fo j)))), (bq, .inl (cI, 24, .inl (fun j => nI (bs j)))), (kr, .inr (1, [.ref r1, .ref r2, .ref r3, .ref r4])), (r1, .inl (cI, 25, .inl sz)), (r2, .inl (cI, 25, .inl lf)), (r3, .inl (cI, 25, .inl rt)), (r4, .inl (cI, 25, .inl tr)), (h, .inr (2, [.ref q1, .ref q2, .ref q3, .ref q4, .ref q5, .ref q6, .ref q7, .int (nI mk), .int (nI sv)])), (q1, .inl (cI, n, .inl (fun j => nI (pa j)))), (q2, .inl (cI, n, .inl (fun j => nI (ch j)))), (q3, .inl (cI, n, .inl (fun j => nI (kd j)))), (q4, .inl (cI, n, .inl (fun j => nI (ad j)))), (q5, .inl (cI, n, .inl (fun j => nI (ra j)))), (q6, .inl (cI, n, .inl (fun j => nI (su j)))), (q7, .inl (cI, n, .inl (fun j => nI (un j))))]) (va_runV (As := []) (rest := []) ⟨hx, hb, hml, hown, hts⟩ (c_X3_requireMemory l g cI cJ cZ x tk sc ga mh   _) (cwV 0 hts gX3_give_X3_requireMemory rfl rfl rfl (by decide +kernel) ⟨Nat.le_of_ble_eq_true rfl, Nat.le_of_ble_eq_true rfl⟩) (k_preV hk hP hD [0] rfl rfl (ci := 3) (q0 := 0) rfl rfl) rfl rfl hl.1 rfl (lv_room (Nat.le_of_ble_eq_true rfl)) dX3_give_1 ⟨by first | exact Nat.zero_le _ | omega, by first | exact Nat.zero_le _ | omega⟩) hP hD hS hA [0] [1, 2, 3, 4, 5, 6, 7, 8, 9, 10, 11, 12, 13, 14, 15, 16] rfl rfl rfl (by decide) (fun _ H locs hu hP hD hS => ?_)
  have hP : va_P g vwCl [(mh, .inr (0, [.ref kr, .ref h, .ref kq, .ref fq, .ref bq, .ref gq, .int (nI rcv), .int (nI ncl), .int (nI bl), .int (nI rd), .int (nI hd), .int (nI jn), .int (nI sn)])), (fq, .inl (cI, 25, .inl (fun j => nI (fo j)))), (bq, .inl (cI, 24, .inl (fun j => nI (bs j)))), (kr, .inr (1, [.ref r1, .ref r2, .ref r3, .ref r4])), (r1, .inl (cI, 25, .inl sz)), (r2, .inl (cI, 25, .inl lf)), (r3, .inl (cI, 25, .inl rt)), (r4, .inl (cI, 25, .inl tr)), (h, .inr (2, [.ref q1, .ref q2, .ref q3, .ref q4, .ref q5, .ref q6, .ref q7, .int (nI mk), .int (nI sv)])), (q1, .inl (cI, n, .inl (fun j => nI (pa j)))), (q2, .inl (cI, n, .inl (fun j => nI (ch j)))), (q3, .inl (cI, n, .inl (fun j => nI (kd j)))), (q4, .inl (cI, n, .inl (fun j => nI (ad j)))), (q5, .inl (cI, n, .inl (fun j => nI (ra j)))), (q6, .inl (cI, n, .inl (fun j => nI (su j)))), (q7, .inl (cI, n, .inl (fun j => nI (un j)))), (x, .inr (3, [.ref tk, .ref mh, .ref sc, .ref ga, .int (nI 1)]))] H := hP
  have hD : va_D A [(mh, .inr (0, [.ref kr, .ref h, .ref kq, .ref fq, .ref bq, .ref gq, .int (nI rcv), .int (nI ncl), .int (nI bl), .int (nI rd), .int (nI hd), .int (nI jn), .int (nI sn)])), (fq, .inl (cI, 25, .inl (fun j => nI (fo j)))), (bq, .inl (cI, 24, .inl (fun j => nI (bs j)))), (kr, .inr (1, [.ref r1, .ref r2, .ref r3, .ref r4])), (r1, .inl (cI, 25, .inl sz)), (r2, .inl (cI, 25, .inl lf)), (r3, .inl (cI, 25, .inl rt)), (r4, .inl (cI, 25, .inl tr)), (h, .inr (2, [.ref q1, .ref q2, .ref q3, .ref q4, .ref q5, .ref q6, .ref q7, .int (nI mk), .int (nI sv)])), (q1, .inl (cI, n, .inl (fun j => nI (pa j)))), (q2, .inl (cI, n, .inl (fun j => nI (ch j)))), (q3, .inl (cI, n, .inl (fun j => nI (kd j)))), (q4, .inl (cI, n, .inl (fun j => nI (ad j)))), (q5, .inl (cI, n, .inl (fun j => nI (ra j)))), (q6, .inl (cI, n, .inl (fun j => nI (su j)))), (q7, .inl (cI, n, .inl (fun j => nI (un j)))), (x, .inr (3, [.ref tk, .ref mh, .ref sc, .ref ga, .int (nI 1)]))] := hD
  refine lv_aload_n hx hb dX3_give_4 rfl (lv_at hl 0 rfl) ?_
  refine va_get (D := g) (ci := 3) (v := .ref mh) (C := RX3) (T := TX3) (N := 5) hx hb hts hinX3 hown hK hP 16 rfl rfl 1 (by decide) (hts (.fieldLink RX3 19 "BuddyRoof" "memory" "LBuddyRoof$Memory;") (by decide +kernel)) (fun _ h9 => h9) rfl dX3_give_5 ?_
  refine k_goR (W.runV (As := []) (rest := []) ⟨hx, hb, hml, hown, hts⟩ (c_X0_isFull l g cI cJ cZ mh kr kq fq bq gq rcv ncl bl rd hd jn sn (fun _ => 0) h  (by omega)) (cwV 0 hts gX3_give_X0_isFull rfl rfl rfl (by decide +kernel) ⟨Nat.le_of_ble_eq_true rfl, Nat.le_of_ble_eq_true rfl⟩) (k_preRV hk hP [0] rfl (ci := 0) (q0 := 0) rfl rfl) rfl rfl hl.1 rfl (lv_room (Nat.le_of_ble_eq_true rfl)) dX3_give_8 ⟨by first | exact Nat.zero_le _ | omega, by first | exact Nat.zero_le _ | omega⟩) ?_
  refine k_ifeq (tgt := 24) hx hb dX3_give_11 (by decide) (fun c1 => ?_) (fun c1 => ?_)
  · skip
    refine lv_iload_n hx hb dX3_give_24 rfl (lv_at hl 1 rfl) ?_
    refine k_goV (wr := [(mh, .inr (0, [.ref kr, .ref h, .ref kq, .ref fq, .ref bq, .ref gq, .int (nI rcv), .int (nI ncl), .int (nI bl), .int (nI rd), .int (nI hd), .int (nI jn), .int (nI sn)])), (fq, .inl (cI, 25, .inl (fun j => nI (fo j)))), (bq, .inl (cI, 24, .inl (fun j => nI (bs j)))), (kr, .inr (1, [.ref r1, .ref r2, .ref r3, .ref r4])), (r1, .inl (cI, 25, .inl sz)), (r2, .inl (cI, 25, .inl lf)), (r3, .inl (cI, 25, .inl rt)), (r4, .inl (cI, 25, .inl tr)), (h, .inr (2, [.ref q1, .ref q2, .ref q3, .ref q4, .ref q5, .ref q6, .ref q7, .int (nI mk), .int (nI sv)])), (q1, .inl (cI, n, .inl (fun j => nI (pa j)))), (q2, .inl (cI, n, .inl (fun j => nI (ch j)))), (q3, .inl (cI, n, .inl (fun j => nI (kd j)))), (q4, .inl (cI, n, .inl (fun j => nI (ad j)))), (q5, .inl (cI, n, .inl (fun j => nI (ra j)))), (q6, .inl (cI, n, .inl (fun j => nI (su j)))), (q7, .inl (cI, n, .inl (fun j => nI (un j)))), (x, .inr (3, [.ref tk, .ref mh, .ref sc, .ref ga, .int (nI 1)]))]) (va_runS (As := [.int (nI w)]) (rest := []) ⟨hx, hb, hml, hown, hts⟩ (c_X3_requireWords l g cI cJ cZ  (nI w) (nI_le hw1 hw) _) (va_cwS 1 hts gX3_give_X3_requireWords rfl rfl rfl (by decide +kernel) ⟨Nat.le_of_ble_eq_true rfl, Nat.le_of_ble_eq_true rfl⟩) (k_preS hk hP hD [] rfl rfl) rfl rfl hl.1 rfl (lv_room (Nat.le_of_ble_eq_true rfl)) dX3_give_25 ⟨by first | exact Nat.zero_le _ | omega, by first | exact Nat.zero_le _ | omega⟩) hP hD hS hA [] [0, 1, 2, 3, 4, 5, 6, 7, 8, 9, 10, 11, 12, 13, 14, 15, 16] rfl rfl rfl (by decide) (fun _ H locs hu hP hD hS => ?_)
    have hP : va_P g vwCl [(mh, .inr (0, [.ref kr, .ref h, .ref kq, .ref fq, .ref bq, .ref gq, .int (nI rcv), .int (nI ncl), .int (nI bl), .int (nI rd), .int (nI hd), .int (nI jn), .int (nI sn)])), (fq, .inl (cI, 25, .inl (fun j => nI (fo j)))), (bq, .inl (cI, 24, .inl (fun j => nI (bs j)))), (kr, .inr (1, [.ref r1, .ref r2, .ref r3, .ref r4])), (r1, .inl (cI, 25, .inl sz)), (r2, .inl (cI, 25, .inl lf)), (r3, .inl (cI, 25, .inl rt)), (r4, .inl (cI, 25, .inl tr)), (h, .inr (2, [.ref q1, .ref q2, .ref q3, .ref q4, .ref q5, .ref q6, .ref q7, .int (nI mk), .int (nI sv)])), (q1, .inl (cI, n, .inl (fun j => nI (pa j)))), (q2, .inl (cI, n, .inl (fun j => nI (ch j)))), (q3, .inl (cI, n, .inl (fun j => nI (kd j)))), (q4, .inl (cI, n, .inl (fun j => nI (ad j)))), (q5, .inl (cI, n, .inl (fun j => nI (ra j)))), (q6, .inl (cI, n, .inl (fun j => nI (su j)))), (q7, .inl (cI, n, .inl (fun j => nI (un j)))), (x, .inr (3, [.ref tk, .ref mh, .ref sc, .ref ga, .int (nI 1)]))] H := hP
    have hD : va_D A [(mh, .inr (0, [.ref kr, .ref h, .ref kq, .ref fq, .ref bq, .ref gq, .int (nI rcv), .int (nI ncl), .int (nI bl), .int (nI rd), .int (nI hd), .int (nI jn), .int (nI sn)])), (fq, .inl (cI, 25, .inl (fun j => nI (fo j)))), (bq, .inl (cI, 24, .inl (fun j => nI (bs j)))), (kr, .inr (1, [.ref r1, .ref r2, .ref r3, .ref r4])), (r1, .inl (cI, 25, .inl sz)), (r2, .inl (cI, 25, .inl lf)), (r3, .inl (cI, 25, .inl rt)), (r4, .inl (cI, 25, .inl tr)), (h, .inr (2, [.ref q1, .ref q2, .ref q3, .ref q4, .ref q5, .ref q6, .ref q7, .int (nI mk), .int (nI sv)])), (q1, .inl (cI, n, .inl (fun j => nI (pa j)))), (q2, .inl (cI, n, .inl (fun j => nI (ch j)))), (q3, .inl (cI, n, .inl (fun j => nI (kd j)))), (q4, .inl (cI, n, .inl (fun j => nI (ad j)))), (q5, .inl (cI, n, .inl (fun j => nI (ra j)))), (q6, .inl (cI, n, .inl (fun j => nI (su j)))), (q7, .inl (cI, n, .inl (fun j => nI (un j)))), (x, .inr (3, [.ref tk, .ref mh, .ref sc, .ref ga, .int (nI 1)]))] := hD
    refine lv_aload_n hx hb dX3_give_28 rfl (lv_at hl 0 rfl) ?_
    refine lv_aload_n hx hb dX3_give_29 rfl (lv_at hl 0 rfl) ?_
    refine va_get (D := g) (ci := 3) (v := .ref mh) (C := RX3) (T := TX3) (N := 5) hx hb hts hinX3 hown hK hP 16 rfl rfl 1 (by decide) (hts (.fieldLink RX3 19 "BuddyRoof" "memory" "LBuddyRoof$Memory;") (by decide +kernel)) (fun _ h9 => h9) rfl dX3_give_30 ?_
    refine lv_iload_n hx hb dX3_give_33 rfl (lv_at hl 1 rfl) ?_
    refine k_goI (wr := [(x, .inr (3, [.ref tk, .ref mh, .ref sc, .ref ga, .int (nI 1)]))]) (va_runV (As := [.int (nI w)]) (rest := [.ref x]) ⟨hx, hb, hml, hown, hts⟩ (c_X0_grant l g cI cJ cZ mh kr kq fq bq gq rcv ncl bl rd hd jn sn fo bs r1 r2 r3 r4 sz lf rt tr h q1 q2 q3 q4 q5 q6 q7 n pa ch kd ad ra su un mk sv top S L R rc sp rq nu w  hn hR hrl hbo hI hw1 hw _) (cwV 1 hts gX3_give_X0_grant rfl rfl rfl (by decide +kernel) ⟨Nat.le_of_ble_eq_true rfl, Nat.le_of_ble_eq_true rfl⟩) (k_preV hk hP hD [0, 1, 2, 3, 4, 5, 6, 7, 8, 9, 10, 11, 12, 13, 14, 15] rfl rfl (ci := 0) (q0 := 0) rfl rfl) rfl rfl hl.1 rfl (lv_room (Nat.le_of_ble_eq_true rfl)) dX3_give_34 ⟨by show 0 + 7 * (_ - n) ≤ 7 * (_ - n); omega, by show 0 + 14 * (_ - n) ≤ 14 * (_ - n); omega⟩) hP hD hS hA [0, 1, 2, 3, 4, 5, 6, 7, 8, 9, 10, 11, 12, 13, 14, 15] [16] rfl rfl rfl (by decide) (fun rv u H locs hu hP hD hS => ?_)
    obtain ⟨qf, pa2, ch2, kd2, ad2, ra2, su2, un2, fo2, nu2, sv2, bl2, rd2, hd2, jn2, sn2⟩ := u
    obtain ⟨hrv, hnu2, hjn2, hsn2, hI2⟩ := hu
    have hrv : rv = nI (nz nu2 (gC S L R (cls top L R) rq w sp).2.1) := hrv
    have hnu2 : ∀ p, ex (gS1 S (cls top L R) rq w sp) p → nu2 p = nu p := hnu2
    have hjn2 : jn2 = jn + ((lvs sp 1).length - (lvs (gS1 S (cls top L R) rq w sp) 1).length) := hjn2
    have hsn2 : sn2 = sn + (gC S L R (cls top L R) rq w sp).2.2 := hsn2
    have hI2 : wI top S L R ((gC S L R (cls top L R) rq w sp).1) (gQ S L R (cls top L R) rq w sp) nu2 ([]) (dbl n (max mk (2 * (lvs (gC S L R (cls top L R) rq w sp).1 1).length))) (max mk (2 * (lvs (gC S L R (cls top L R) rq w sp).1 1).length)) sv2 pa2 ch2 kd2 ad2 ra2 su2 un2 fo2 bl2 rd2 hd2 := hI2
    subst hrv
    have hP : va_P g vwCl [(x, .inr (3, [.ref tk, .ref mh, .ref sc, .ref ga, .int (nI 1)])), (mh, .inr (0, [.ref kr, .ref h, .ref kq, .ref fq, .ref bq, .ref gq, .int (nI rcv), .int (nI ncl), .int (nI bl2), .int (nI rd2), .int (nI hd2), .int (nI jn2), .int (nI sn2)])), (fq, .inl (cI, 25, .inl (fun j => nI (fo2 j)))), (bq, .inl (cI, 24, .inl (fun j => nI (bs j)))), (kr, .inr (1, [.ref r1, .ref r2, .ref r3, .ref r4])), (r1, .inl (cI, 25, .inl sz)), (r2, .inl (cI, 25, .inl lf)), (r3, .inl (cI, 25, .inl rt)), (r4, .inl (cI, 25, .inl tr)), (h, .inr (2, [.ref (qf 1), .ref (qf 2), .ref (qf 3), .ref (qf 4), .ref (qf 5), .ref (qf 6), .ref (qf 7), .int (nI ((max mk (2 * (lvs (gC S L R (cls top L R) rq w sp).1 1).length)))), .int (nI sv2)])), ((qf 1), .inl (cI, (dbl n (max mk (2 * (lvs (gC S L R (cls top L R) rq w sp).1 1).length))), .inl (fun j => nI (pa2 j)))), ((qf 2), .inl (cI, (dbl n (max mk (2 * (lvs (gC S L R (cls top L R) rq w sp).1 1).length))), .inl (fun j => nI (ch2 j)))), ((qf 3), .inl (cI, (dbl n (max mk (2 * (lvs (gC S L R (cls top L R) rq w sp).1 1).length))), .inl (fun j => nI (kd2 j)))), ((qf 4), .inl (cI, (dbl n (max mk (2 * (lvs (gC S L R (cls top L R) rq w sp).1 1).length))), .inl (fun j => nI (ad2 j)))), ((qf 5), .inl (cI, (dbl n (max mk (2 * (lvs (gC S L R (cls top L R) rq w sp).1 1).length))), .inl (fun j => nI (ra2 j)))), ((qf 6), .inl (cI, (dbl n (max mk (2 * (lvs (gC S L R (cls top L R) rq w sp).1 1).length))), .inl (fun j => nI (su2 j)))), ((qf 7), .inl (cI, (dbl n (max mk (2 * (lvs (gC S L R (cls top L R) rq w sp).1 1).length))), .inl (fun j => nI (un2 j))))] H := hP
    have hD : va_D A [(x, .inr (3, [.ref tk, .ref mh, .ref sc, .ref ga, .int (nI 1)])), (mh, .inr (0, [.ref kr, .ref h, .ref kq, .ref fq, .ref bq, .ref gq, .int (nI rcv), .int (nI ncl), .int (nI bl2), .int (nI rd2), .int (nI hd2), .int (nI jn2), .int (nI sn2)])), (fq, .inl (cI, 25, .inl (fun j => nI (fo2 j)))), (bq, .inl (cI, 24, .inl (fun j => nI (bs j)))), (kr, .inr (1, [.ref r1, .ref r2, .ref r3, .ref r4])), (r1, .inl (cI, 25, .inl sz)), (r2, .inl (cI, 25, .inl lf)), (r3, .inl (cI, 25, .inl rt)), (r4, .inl (cI, 25, .inl tr)), (h, .inr (2, [.ref (qf 1), .ref (qf 2), .ref (qf 3), .ref (qf 4), .ref (qf 5), .ref (qf 6), .ref (qf 7), .int (nI ((max mk (2 * (lvs (gC S L R (cls top L R) rq w sp).1 1).length)))), .int (nI sv2)])), ((qf 1), .inl (cI, (dbl n (max mk (2 * (lvs (gC S L R (cls top L R) rq w sp).1 1).length))), .inl (fun j => nI (pa2 j)))), ((qf 2), .inl (cI, (dbl n (max mk (2 * (lvs (gC S L R (cls top L R) rq w sp).1 1).length))), .inl (fun j => nI (ch2 j)))), ((qf 3), .inl (cI, (dbl n (max mk (2 * (lvs (gC S L R (cls top L R) rq w sp).1 1).length))), .inl (fun j => nI (kd2 j)))), ((qf 4), .inl (cI, (dbl n (max mk (2 * (lvs (gC S L R (cls top L R) rq w sp).1 1).length))), .inl (fun j => nI (ad2 j)))), ((qf 5), .inl (cI, (dbl n (max mk (2 * (lvs (gC S L R (cls top L R) rq w sp).1 1).length))), .inl (fun j => nI (ra2 j)))), ((qf 6), .inl (cI, (dbl n (max mk (2 * (lvs (gC S L R (cls top L R) rq w sp).1 1).length))), .inl (fun j => nI (su2 j)))), ((qf 7), .inl (cI, (dbl n (max mk (2 * (lvs (gC S L R (cls top L R) rq w sp).1 1).length))), .inl (fun j => nI (un2 j))))] := hD
    have hN25 : (dbl n (max mk (2 * (lvs (gC S L R (cls top L R) rq w sp).1 1).length))) < 2 ^ 25 := dbl_lt _ hn
    refine k_goR (W.runV (As := [.int (nI (nz nu2 (gC S L R (cls top L R) rq w sp).2.1))]) (rest := []) ⟨hx, hb, hml, hown, hts⟩ (c_X3_addressOrNone l g cI cJ cZ x tk sc ga mh kr kq fq bq gq rcv ncl bl2 rd2 hd2 jn2 sn2 fo2 h (qf 1) (qf 2) (qf 3) (qf 4) (qf 5) (qf 6) (qf 7) (dbl n (max mk (2 * (lvs (gC S L R (cls top L R) rq w sp).1 1).length))) pa2 ch2 kd2 ad2 ra2 su2 un2 (max mk (2 * (lvs (gC S L R (cls top L R) rq w sp).1 1).length)) sv2 top S L R rc (gC S L R (cls top L R) rq w sp).1 (gQ S L R (cls top L R) rq w sp) nu2 (gC S L R (cls top L R) rq w sp).2.1 hN25 hI2 (fun e9 => gC_ex hR hI.1.1 hw1 e9)) (cwV 1 hts gX3_give_X3_addressOrNone rfl rfl rfl (by decide +kernel) ⟨Nat.le_of_ble_eq_true rfl, Nat.le_of_ble_eq_true rfl⟩) (k_preRV hk hP [0, 1, 9, 10, 11, 12, 13, 14, 15, 16] rfl (ci := 3) (q0 := 0) rfl rfl) rfl rfl hl.1 rfl (lv_room (Nat.le_of_ble_eq_true rfl)) dX3_give_37 ⟨by show _ ≤ 7 * ((dbl n (max mk (2 * (lvs (gC S L R (cls top L R) rq w sp).1 1).length))) - n); omega, by show _ ≤ 14 * ((dbl n (max mk (2 * (lvs (gC S L R (cls top L R) rq w sp).1 1).length))) - n); omega⟩) ?_
    have hP := hP.sub (ws' := [(x, .inr (3, [.ref tk, .ref mh, .ref sc, .ref ga, .int (nI 1)])), (mh, .inr (0, [.ref kr, .ref h, .ref kq, .ref fq, .ref bq, .ref gq, .int (nI rcv), .int (nI ncl), .int (nI bl2), .int (nI rd2), .int (nI hd2), .int (nI jn2), .int (nI sn2)])), (fq, .inl (cI, 25, .inl (fun j => nI (fo2 j)))), (bq, .inl (cI, 24, .inl (fun j => nI (bs j)))), (kr, .inr (1, [.ref r1, .ref r2, .ref r3, .ref r4])), (r1, .inl (cI, 25, .inl sz)), (r2, .inl (cI, 25, .inl lf)), (r3, .inl (cI, 25, .inl rt)), (r4, .inl (cI, 25, .inl tr)), (h, .inr (2, [.ref (qf 1), .ref (qf 2), .ref (qf 3), .ref (qf 4), .ref (qf 5), .ref (qf 6), .ref (qf 7), .int (nI ((max mk (2 * (lvs (gC S L R (cls top L R) rq w sp).1 1).length)))), .int (nI sv2)])), ((qf 1), .inl (cI, (dbl n (max mk (2 * (lvs (gC S L R (cls top L R) rq w sp).1 1).length))), .inl (fun j => nI (pa2 j)))), ((qf 2), .inl (cI, (dbl n (max mk (2 * (lvs (gC S L R (cls top L R) rq w sp).1 1).length))), .inl (fun j => nI (ch2 j)))), ((qf 3), .inl (cI, (dbl n (max mk (2 * (lvs (gC S L R (cls top L R) rq w sp).1 1).length))), .inl (fun j => nI (kd2 j)))), ((qf 4), .inl (cI, (dbl n (max mk (2 * (lvs (gC S L R (cls top L R) rq w sp).1 1).length))), .inl (fun j => nI (ad2 j)))), ((qf 5), .inl (cI, (dbl n (max mk (2 * (lvs (gC S L R (cls top L R) rq w sp).1 1).length))), .inl (fun j => nI (ra2 j)))), ((qf 6), .inl (cI, (dbl n (max mk (2 * (lvs (gC S L R (cls top L R) rq w sp).1 1).length))), .inl (fun j => nI (su2 j)))), ((qf 7), .inl (cI, (dbl n (max mk (2 * (lvs (gC S L R (cls top L R) rq w sp).1 1).length))), .inl (fun j => nI (un2 j))))]) [0, 1, 2, 3, 4, 5, 6, 7, 8, 9, 10, 11, 12, 13, 14, 15, 16] rfl
    have hD := hD.sub (ws' := [(x, .inr (3, [.ref tk, .ref mh, .ref sc, .ref ga, .int (nI 1)])), (mh, .inr (0, [.ref kr, .ref h, .ref kq, .ref fq, .ref bq, .ref gq, .int (nI rcv), .int (nI ncl), .int (nI bl2), .int (nI rd2), .int (nI hd2), .int (nI jn2), .int (nI sn2)])), (fq, .inl (cI, 25, .inl (fun j => nI (fo2 j)))), (bq, .inl (cI, 24, .inl (fun j => nI (bs j)))), (kr, .inr (1, [.ref r1, .ref r2, .ref r3, .ref r4])), (r1, .inl (cI, 25, .inl sz)), (r2, .inl (cI, 25, .inl lf)), (r3, .inl (cI, 25, .inl rt)), (r4, .inl (cI, 25, .inl tr)), (h, .inr (2, [.ref (qf 1), .ref (qf 2), .ref (qf 3), .ref (qf 4), .ref (qf 5), .ref (qf 6), .ref (qf 7), .int (nI ((max mk (2 * (lvs (gC S L R (cls top L R) rq w sp).1 1).length)))), .int (nI sv2)])), ((qf 1), .inl (cI, (dbl n (max mk (2 * (lvs (gC S L R (cls top L R) rq w sp).1 1).length))), .inl (fun j => nI (pa2 j)))), ((qf 2), .inl (cI, (dbl n (max mk (2 * (lvs (gC S L R (cls top L R) rq w sp).1 1).length))), .inl (fun j => nI (ch2 j)))), ((qf 3), .inl (cI, (dbl n (max mk (2 * (lvs (gC S L R (cls top L R) rq w sp).1 1).length))), .inl (fun j => nI (kd2 j)))), ((qf 4), .inl (cI, (dbl n (max mk (2 * (lvs (gC S L R (cls top L R) rq w sp).1 1).length))), .inl (fun j => nI (ad2 j)))), ((qf 5), .inl (cI, (dbl n (max mk (2 * (lvs (gC S L R (cls top L R) rq w sp).1 1).length))), .inl (fun j => nI (ra2 j)))), ((qf 6), .inl (cI, (dbl n (max mk (2 * (lvs (gC S L R (cls top L R) rq w sp).1 1).length))), .inl (fun j => nI (su2 j)))), ((qf 7), .inl (cI, (dbl n (max mk (2 * (lvs (gC S L R (cls top L R) rq w sp).1 1).length))), .inl (fun j => nI (un2 j))))]) [0, 1, 2, 3, 4, 5, 6, 7, 8, 9, 10, 11, 12, 13, 14, 15, 16] rfl rfl
    refine W.widen (k := (7 * ((dbl n (max mk (2 * (lvs (gC S L R (cls top L R) rq w sp).1 1).length))) - n))) (n := (14 * ((dbl n (max mk (2 * (lvs (gC S L R (cls top L R) rq w sp).1 1).length))) - n))) (by first | exact Nat.le_refl _ | omega) (by first | exact Nat.le_refl _ | omega) ?_
    exact k_retI (sz := 0) (v := if (gC S L R (cls top L R) rq w sp).2.1 = 0 then -1 else nI (adr top S L R (gC S L R (cls top L R) rq w sp).2.1)) hx hb hr hlocks hAe hS hP hD (qf, pa2, ch2, kd2, ad2, ra2, su2, un2, fo2, nu2, sv2, bl2, rd2, hd2, jn2, sn2) (rfl) (⟨rfl, hnu2, hjn2, hsn2, hI2⟩) dX3_give_40
  · exact (by exfalso; omega)
set_option maxHeartbeats 4000000 in
set_option maxRecDepth 100000 in
theorem c_X3_give_tM (l : Launch) (g : va_G) (cI cJ cZ : ClassId) (hst : l.stackTraces = false) (x tk sc ga : Nat) (mh : Nat) (v : Int32)  : kT l g (kty cI cJ cZ) yX3_give wsX3_give ({ frames := 7, cells := 1, slots := 6, locals := 110 }) [.ref x, .int v] [(x, .inr (3, [.ref tk, .ref mh, .ref sc, .ref ga, .int (nI 0)]))] [(x, .inr (3, [.ref tk, .ref mh, .ref sc, .ref ga, .int (nI 0)]))] xI := by
  intro sz
  refine vx_ofW (cc := cX3_give) (maxL := 2) (ret := (some .int)) (by decide) rfl ?_
  intro p e s m args below meth c s₁ B hml htab hv
  obtain ⟨rfl, ⟨hsz, hP, hk, hD0⟩, hxT, hxZ⟩ := hv
  subst hsz
  have hx := B.exec
  have hb := B.bytes
  have hr := B.returns
  have hts := atoms_spec (ws := wsX3_give) B.pre
  have hown : s.vm.findClass RX3 = some m.cls := findClass_of_methodNamed B.named
  have hlocks := B.notSynchronized
  have hK := hk.1
  obtain ⟨A, hAe⟩ : ∃ A, va_A [(x, .inr (3, [.ref tk, .ref mh, .ref sc, .ref ga, .int (nI 0)]))] s.heap.size = A := ⟨_, rfl⟩
  have hD := hD0.self (sz := s.heap.size)
  rw [hAe] at hD hxZ
  have hA : ∀ q : Nat, s.heap.size ≤ q → A q := fun q h => by rw [← hAe]; exact Or.inr h
  have hS : va_S A s.heap s.heap [] := va_S.rf
  have hl := lv_entry ([.ref x, .int v]) (n := 2) (Nat.le_of_ble_eq_true rfl)
  rw [lg_entry_eq]
  generalize (lg_sl ([.ref x, .int v]) ++ List.replicate (2 - (lg_sl ([.ref x, .int v])).length) Slot.unset).toArray = ls at hl ⊢
  have hl : lv_has ls 2 [(0, .ref x), (1, .int v)] := hl
  refine lv_aload_n hx hb dX3_give_0 rfl (lv_at hl 0 rfl) ?_
  refine k_goT (wr := []) (vx_runV (As := []) (rest := []) ⟨hx, hb, hml, hown, hts⟩ (c_X3_requireMemory_t l g cI cJ cZ hst x tk sc ga mh   _) (cwV 0 hts gX3_give_X3_requireMemory rfl rfl rfl (by decide +kernel) ⟨Nat.le_of_ble_eq_true rfl, Nat.le_of_ble_eq_true rfl⟩) (k_preVx hk hxT (hxZ.kept (fun a h1 h2 => hS.2.1 a h1 h2)) hP hD hS hA [0] rfl rfl (ci := 3) (q0 := 0) rfl rfl) rfl rfl hl.1 rfl (lv_room (Nat.le_of_ble_eq_true rfl)) dX3_give_1 ⟨Nat.le_of_ble_eq_true rfl, Nat.le_of_ble_eq_true rfl⟩) hP hD hS hA [0] [] rfl rfl rfl (by decide) (fun ce q9 H locs hP hD hS hkp hce hcv hcl => ?_)
  have hP : va_P g vwCl [(x, .inr (3, [.ref tk, .ref mh, .ref sc, .ref ga, .int (nI 0)]))] H := hP
  have hD : va_D A [(x, .inr (3, [.ref tk, .ref mh, .ref sc, .ref ga, .int (nI 0)]))] := hD
  exact k_out htab hlocks hce hcv hcl (hP.sub [0] rfl) (hD.sub [0] rfl rfl) hAe hS (Nat.le_refl _) (Nat.le_refl _)
set_option maxHeartbeats 4000000 in
set_option maxRecDepth 100000 in
theorem c_X3_give_tF (l : Launch) (g : va_G) (cI cJ cZ : ClassId) (hst : l.stackTraces = false) (x tk sc ga : Nat) (mh kr kq fq bq gq h : Nat) (rcv ncl bl rd hd jn sn : Nat) (v : Int32) (hb9 : 256 ≤ bl ∧ bl < 2 ^ 31) : kT l g (kty cI cJ cZ) yX3_give wsX3_give ({ frames := 6, cells := 1, slots := 6, locals := 90 }) [.ref x, .int v] [(x, .inr (3, [.ref tk, .ref mh, .ref sc, .ref ga, .int (nI 1)])), (mh, .inr (0, [.ref kr, .ref h, .ref kq, .ref fq, .ref bq, .ref gq, .int (nI rcv), .int (nI ncl), .int (nI bl), .int (nI rd), .int (nI hd), .int (nI jn), .int (nI sn)]))] [(x, .inr (3, [.ref tk, .ref mh, .ref sc, .ref ga, .int (nI 1)])), (mh, .inr (0, [.ref kr, .ref h, .ref kq, .ref fq, .ref bq, .ref gq, .int (nI rcv), .int (nI ncl), .int (nI bl), .int (nI rd), .int (nI hd), .int (nI jn), .int (nI sn)]))] xI := by
  intro sz
  refine vx_ofW (cc := cX3_give) (maxL := 2) (ret := (some .int)) (by decide) rfl ?_
  intro p e s m args below meth c s₁ B hml htab hv
  obtain ⟨rfl, ⟨hsz, hP, hk, hD0⟩, hxT, hxZ⟩ := hv
  subst hsz
  have hx := B.exec
  have hb := B.bytes
  have hr := B.returns
  have hts := atoms_spec (ws := wsX3_give) B.pre
  have hown : s.vm.findClass RX3 = some m.cls := findClass_of_methodNamed B.named
  have hlocks := B.notSynchronized
  have hK := hk.1
  have hinX3 : ∀ w ∈ wsX30, w ∈ wsX3_give := by decide +kernel
  obtain ⟨A, hAe⟩ : ∃ A, va_A [(x, .inr (3, [.ref tk, .ref mh, .ref sc, .ref ga, .int (nI 1)])), (mh, .inr (0, [.ref kr, .ref h, .ref kq, .ref fq, .ref bq, .ref gq, .int (nI rcv), .int (nI ncl), .int (nI bl), .int (nI rd), .int (nI hd), .int (nI jn), .int (nI sn)]))] s.heap.size = A := ⟨_, rfl⟩
  have hD := hD0.self (sz := s.heap.size)
  rw [hAe] at hD hxZ
  have hA : ∀ q : Nat, s.heap.size ≤ q → A q := fun q h => by rw [← hAe]; exact Or.inr h
  have hS : va_S A s.heap s.heap [] := va_S.rf
  have hl := lv_entry ([.ref x, .int v]) (n := 2) (Nat.le_of_ble_eq_true rfl)
  rw [lg_entry_eq]
  generalize (lg_sl ([.ref x, .int v]) ++ List.replicate (2 - (lg_sl ([.ref x, .int v])).length) Slot.unset).toArray = ls at hl ⊢
  have hl : lv_has ls 2 [(0, .ref x), (1, .int v)] := hl
  refine lv_aload_n hx hb dX3_give_0 rfl (lv_at hl 0 rfl) ?_
  refine k_goV (wr := [(mh, .inr (0, [.ref kr, .ref h, .ref kq, .ref fq, .ref bq, .ref gq, .int (nI rcv), .int (nI ncl), .int (nI bl), .int (nI rd), .int (nI hd), .int (nI jn), .int (nI sn)]))]) (va_runV (As := []) (rest := []) ⟨hx, hb, hml, hown, hts⟩ (c_X3_requireMemory l g cI cJ cZ x tk sc ga mh   _) (cwV 0 hts gX3_give_X3_requireMemory rfl rfl rfl (by decide +kernel) ⟨Nat.le_of_ble_eq_true rfl, Nat.le_of_ble_eq_true rfl⟩) (k_preV hk hP hD [0] rfl rfl (ci := 3) (q0 := 0) rfl rfl) rfl rfl hl.1 rfl (lv_room (Nat.le_of_ble_eq_true rfl)) dX3_give_1 ⟨by first | exact Nat.zero_le _ | omega, by first | exact Nat.zero_le _ | omega⟩) hP hD hS hA [0] [1] rfl rfl rfl (by decide) (fun _ H locs hu hP hD hS => ?_)
  have hP : va_P g vwCl [(mh, .inr (0, [.ref kr, .ref h, .ref kq, .ref fq, .ref bq, .ref gq, .int (nI rcv), .int (nI ncl), .int (nI bl), .int (nI rd), .int (nI hd), .int (nI jn), .int (nI sn)])), (x, .inr (3, [.ref tk, .ref mh, .ref sc, .ref ga, .int (nI 1)]))] H := hP
  have hD : va_D A [(mh, .inr (0, [.ref kr, .ref h, .ref kq, .ref fq, .ref bq, .ref gq, .int (nI rcv), .int (nI ncl), .int (nI bl), .int (nI rd), .int (nI hd), .int (nI jn), .int (nI sn)])), (x, .inr (3, [.ref tk, .ref mh, .ref sc, .ref ga, .int (nI 1)]))] := hD
  refine lv_aload_n hx hb dX3_give_4 rfl (lv_at hl 0 rfl) ?_
  refine va_get (D := g) (ci := 3) (v := .ref mh) (C := RX3) (T := TX3) (N := 5) hx hb hts hinX3 hown hK hP 1 rfl rfl 1 (by decide) (hts (.fieldLink RX3 19 "BuddyRoof" "memory" "LBuddyRoof$Memory;") (by decide +kernel)) (fun _ h9 => h9) rfl dX3_give_5 ?_
  refine k_goR (W.runV (As := []) (rest := []) ⟨hx, hb, hml, hown, hts⟩ (c_X0_isFull l g cI cJ cZ mh kr kq fq bq gq rcv ncl bl rd hd jn sn (fun _ => 0) h  (by omega)) (cwV 0 hts gX3_give_X0_isFull rfl rfl rfl (by decide +kernel) ⟨Nat.le_of_ble_eq_true rfl, Nat.le_of_ble_eq_true rfl⟩) (k_preRV hk hP [0] rfl (ci := 0) (q0 := 0) rfl rfl) rfl rfl hl.1 rfl (lv_room (Nat.le_of_ble_eq_true rfl)) dX3_give_8 ⟨by first | exact Nat.zero_le _ | omega, by first | exact Nat.zero_le _ | omega⟩) ?_
  refine k_ifeq (tgt := 24) hx hb dX3_give_11 (by decide) (fun c1 => ?_) (fun c1 => ?_)
  · exact (by exact absurd hb9.1 c1)
  · skip
    exact k_throw (E := xI) (text := "there are 256 blocks") hx hb hst hown (by decide +kernel) (hts (.classLink RX3 84 "java/lang/IllegalStateException") (by decide +kernel)) (hts (.initialized "java/lang/IllegalStateException") (by decide +kernel)) hxT (by decide +kernel) (fun w hw => hts w (List.mem_cons_of_mem _ (List.mem_append_left _ (List.mem_append_right _ hw)))) (by decide +kernel) (by decide +kernel) hxZ hAe hS (hl.1.trans hml.symm) dX3_give_14 dX3_give_17 dX3_give_18 dX3_give_20 dX3_give_23 htab (Nat.le_of_ble_eq_true rfl) (Nat.le_of_ble_eq_true rfl) (Nat.le_of_ble_eq_true rfl) (Nat.le_of_ble_eq_true rfl) hlocks (hP.sub [1, 0] rfl) (hD.sub [1, 0] rfl rfl) (Nat.le_refl _) (Nat.le_refl _)
set_option maxHeartbeats 4000000 in
set_option maxRecDepth 100000 in
theorem c_X3_give_tA (l : Launch) (g : va_G) (cI cJ cZ : ClassId) (hst : l.stackTraces = false) (x tk sc ga : Nat) (mh kr kq fq bq gq h : Nat) (rcv ncl bl rd hd jn sn : Nat) (v : Int32) (hb9 : bl < 256) (hv : ¬ nI 1 ≤ v) : kT l g (kty cI cJ cZ) yX3_give wsX3_give ({ frames := 7, cells := 1, slots := 6, locals := 110 }) [.ref x, .int v] [(x, .inr (3, [.ref tk, .ref mh, .ref sc, .ref ga, .int (nI 1)])), (mh, .inr (0, [.ref kr, .ref h, .ref kq, .ref fq, .ref bq, .ref gq, .int (nI rcv), .int (nI ncl), .int (nI bl), .int (nI rd), .int (nI hd), .int (nI jn), .int (nI sn)]))] [(x, .inr (3, [.ref tk, .ref mh, .ref sc, .ref ga, .int (nI 1)])), (mh, .inr (0, [.ref kr, .ref h, .ref kq, .ref fq, .ref bq, .ref gq, .int (nI rcv), .int (nI ncl), .int (nI bl), .int (nI rd), .int (nI hd), .int (nI jn), .int (nI sn)]))] xA := by
  intro sz
  refine vx_ofW (cc := cX3_give) (maxL := 2) (ret := (some .int)) (by decide) rfl ?_
  intro p e s m args below meth c s₁ B hml htab hv
  obtain ⟨rfl, ⟨hsz, hP, hk, hD0⟩, hxT, hxZ⟩ := hv
  subst hsz
  have hx := B.exec
  have hb := B.bytes
  have hr := B.returns
  have hts := atoms_spec (ws := wsX3_give) B.pre
  have hown : s.vm.findClass RX3 = some m.cls := findClass_of_methodNamed B.named
  have hlocks := B.notSynchronized
  have hK := hk.1
  have hinX3 : ∀ w ∈ wsX30, w ∈ wsX3_give := by decide +kernel
  obtain ⟨A, hAe⟩ : ∃ A, va_A [(x, .inr (3, [.ref tk, .ref mh, .ref sc, .ref ga, .int (nI 1)])), (mh, .inr (0, [.ref kr, .ref h, .ref kq, .ref fq, .ref bq, .ref gq, .int (nI rcv), .int (nI ncl), .int (nI bl), .int (nI rd), .int (nI hd), .int (nI jn), .int (nI sn)]))] s.heap.size = A := ⟨_, rfl⟩
  have hD := hD0.self (sz := s.heap.size)
  rw [hAe] at hD hxZ
  have hA : ∀ q : Nat, s.heap.size ≤ q → A q := fun q h => by rw [← hAe]; exact Or.inr h
  have hS : va_S A s.heap s.heap [] := va_S.rf
  have hl := lv_entry ([.ref x, .int v]) (n := 2) (Nat.le_of_ble_eq_true rfl)
  rw [lg_entry_eq]
  generalize (lg_sl ([.ref x, .int v]) ++ List.replicate (2 - (lg_sl ([.ref x, .int v])).length) Slot.unset).toArray = ls at hl ⊢
  have hl : lv_has ls 2 [(0, .ref x), (1, .int v)] := hl
  refine lv_aload_n hx hb dX3_give_0 rfl (lv_at hl 0 rfl) ?_
  refine k_goV (wr := [(mh, .inr (0, [.ref kr, .ref h, .ref kq, .ref fq, .ref bq, .ref gq, .int (nI rcv), .int (nI ncl), .int (nI bl), .int (nI rd), .int (nI hd), .int (nI jn), .int (nI sn)]))]) (va_runV (As := []) (rest := []) ⟨hx, hb, hml, hown, hts⟩ (c_X3_requireMemory l g cI cJ cZ x tk sc ga mh   _) (cwV 0 hts gX3_give_X3_requireMemory rfl rfl rfl (by decide +kernel) ⟨Nat.le_of_ble_eq_true rfl, Nat.le_of_ble_eq_true rfl⟩) (k_preV hk hP hD [0] rfl rfl (ci := 3) (q0 := 0) rfl rfl) rfl rfl hl.1 rfl (lv_room (Nat.le_of_ble_eq_true rfl)) dX3_give_1 ⟨by first | exact Nat.zero_le _ | omega, by first | exact Nat.zero_le _ | omega⟩) hP hD hS hA [0] [1] rfl rfl rfl (by decide) (fun _ H locs hu hP hD hS => ?_)
  have hP : va_P g vwCl [(mh, .inr (0, [.ref kr, .ref h, .ref kq, .ref fq, .ref bq, .ref gq, .int (nI rcv), .int (nI ncl), .int (nI bl), .int (nI rd), .int (nI hd), .int (nI jn), .int (nI sn)])), (x, .inr (3, [.ref tk, .ref mh, .ref sc, .ref ga, .int (nI 1)]))] H := hP
  have hD : va_D A [(mh, .inr (0, [.ref kr, .ref h, .ref kq, .ref fq, .ref bq, .ref gq, .int (nI rcv), .int (nI ncl), .int (nI bl), .int (nI rd), .int (nI hd), .int (nI jn), .int (nI sn)])), (x, .inr (3, [.ref tk, .ref mh, .ref sc, .ref ga, .int (nI 1)]))] := hD
  refine lv_aload_n hx hb dX3_give_4 rfl (lv_at hl 0 rfl) ?_
  refine va_get (D := g) (ci := 3) (v := .ref mh) (C := RX3) (T := TX3) (N := 5) hx hb hts hinX3 hown hK hP 1 rfl rfl 1 (by decide) (hts (.fieldLink RX3 19 "BuddyRoof" "memory" "LBuddyRoof$Memory;") (by decide +kernel)) (fun _ h9 => h9) rfl dX3_give_5 ?_
  refine k_goR (W.runV (As := []) (rest := []) ⟨hx, hb, hml, hown, hts⟩ (c_X0_isFull l g cI cJ cZ mh kr kq fq bq gq rcv ncl bl rd hd jn sn (fun _ => 0) h  (by omega)) (cwV 0 hts gX3_give_X0_isFull rfl rfl rfl (by decide +kernel) ⟨Nat.le_of_ble_eq_true rfl, Nat.le_of_ble_eq_true rfl⟩) (k_preRV hk hP [0] rfl (ci := 0) (q0 := 0) rfl rfl) rfl rfl hl.1 rfl (lv_room (Nat.le_of_ble_eq_true rfl)) dX3_give_8 ⟨by first | exact Nat.zero_le _ | omega, by first | exact Nat.zero_le _ | omega⟩) ?_
  refine k_ifeq (tgt := 24) hx hb dX3_give_11 (by decide) (fun c1 => ?_) (fun c1 => ?_)
  · skip
    refine lv_iload_n hx hb dX3_give_24 rfl (lv_at hl 1 rfl) ?_
    refine k_goT (wr := [(mh, .inr (0, [.ref kr, .ref h, .ref kq, .ref fq, .ref bq, .ref gq, .int (nI rcv), .int (nI ncl), .int (nI bl), .int (nI rd), .int (nI hd), .int (nI jn), .int (nI sn)])), (x, .inr (3, [.ref tk, .ref mh, .ref sc, .ref ga, .int (nI 1)]))]) (vx_runS (As := [.int v]) (rest := []) ⟨hx, hb, hml, hown, hts⟩ (c_X3_requireWords_t l g cI cJ cZ hst  v hv _) (va_cwS 1 hts gX3_give_X3_requireWords rfl rfl rfl (by decide +kernel) ⟨Nat.le_of_ble_eq_true rfl, Nat.le_of_ble_eq_true rfl⟩) (k_preSx hk hxT (hxZ.kept (fun a h1 h2 => hS.2.1 a h1 h2)) hP hD hS hA [] rfl rfl) rfl rfl hl.1 rfl (lv_room (Nat.le_of_ble_eq_true rfl)) dX3_give_25 ⟨Nat.le_of_ble_eq_true rfl, Nat.le_of_ble_eq_true rfl⟩) hP hD hS hA [] [0, 1] rfl rfl rfl (by decide) (fun ce q9 H locs hP hD hS hkp hce hcv hcl => ?_)
    have hP : va_P g vwCl [(mh, .inr (0, [.ref kr, .ref h, .ref kq, .ref fq, .ref bq, .ref gq, .int (nI rcv), .int (nI ncl), .int (nI bl), .int (nI rd), .int (nI hd), .int (nI jn), .int (nI sn)])), (x, .inr (3, [.ref tk, .ref mh, .ref sc, .ref ga, .int (nI 1)]))] H := hP
    have hD : va_D A [(mh, .inr (0, [.ref kr, .ref h, .ref kq, .ref fq, .ref bq, .ref gq, .int (nI rcv), .int (nI ncl), .int (nI bl), .int (nI rd), .int (nI hd), .int (nI jn), .int (nI sn)])), (x, .inr (3, [.ref tk, .ref mh, .ref sc, .ref ga, .int (nI 1)]))] := hD
    exact k_out htab hlocks hce hcv hcl (hP.sub [1, 0] rfl) (hD.sub [1, 0] rfl rfl) hAe hS (Nat.le_refl _) (Nat.le_refl _)
  · exact (by exfalso; omega)
