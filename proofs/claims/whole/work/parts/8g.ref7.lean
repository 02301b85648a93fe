set_option maxHeartbeats 4000000 in
set_option maxRecDepth 100000 in
theorem c_X4_change_g (l : Launch) (g : va_G) (cI cJ cZ : ClassId) (rm a1 a2 a3 a4 a5 a6 a7 a8 a9 b1 b2 b3 b4 b5 b6 b7 b8 b9 : Nat) (cd tp bl jn sn wt wm wg wo wd : Nat) (sz lf rt : Nat → Int32) (S L R : Nat → Nat) (rc : Nat → Bool) (sp0 : Nat → Bool) (rq nd0 : Nat → Nat) (kp ba rv bf : Nat → Nat) (y w : Nat) (htp : 0 < tp ∧ tp < 2 ^ 31) (hR : RuleOK S L R rc tp) (hT0 : TOK tp S L R sp0 rq) (hW0 : nW tp S L R rq nd0 (lvs sp0 1)) (hlen0 : (lvs sp0 1).length ≤ 14000) (hrl : rOK S L R rc sz lf rt) (hkp : ∀ j, kp j < 2 ^ 31) (hbl : bl ≤ 256) (hB : bW (adr tp S L R) rq bl ba rv bf) (hry : 0 < rq y) (hw1 : 1 ≤ w) (hw : w < 2 ^ 31) (hwS : S (cls tp L R y) < w) (hb256 : bl < 256) (hgb : (gB S (cls tp L R) rq w sp0) = 0) : kI l g (kty cI cJ cZ) yX4_change wsX4_change ({ frames := 4, cells := 0, slots := 0, locals := 101 }) [.ref rm, .int (nI (adr tp S L R y)), .int (nI w)] [(rm, .inr (4, [.int (nI cd), .ref a1, .ref a2, .ref a3, .ref a4, .ref a5, .ref a6, .ref a7, .ref a8, .ref a9, .int (nI tp), .int (nI ((lvs sp0 1).length)), .ref b1, .int (nI bl), .ref b2, .ref b3, .int (nI jn), .int (nI sn), .ref b4, .ref b5, .ref b6, .ref b7, .ref b8, .int (nI wt), .int (nI wm), .int (nI wg), .long (lN wo), .int (nI wd), .ref b9])), (b1, .inl (cJ, 14000, .inr (.inl (fun j => lN (nd0 j))))), (a4, .inl (cI, 25, .inl sz)), (a5, .inl (cI, 25, .inl lf)), (a6, .inl (cI, 25, .inl rt)), (a9, .inl (cI, 25, .inl (fun j => nI (kp j)))), (b2, .inl (cI, 256, .inl (fun j => nI (ba j)))), (b3, .inl (cI, 256, .inl (fun j => nI (rv j))))] (S := (Nat → Nat) × (Nat → Nat) × (Nat → Nat) × (Nat → Nat)) (fun r u => r = -1 ∧ nW tp S L R rq u.1 (lvs (gC S L R (cls tp L R) rq w sp0).1 1) ∧ bW (adr tp S L R) rq bl u.2.1 u.2.2.1 u.2.2.2) (fun u => [(rm, .inr (4, [.int (nI 0), .ref a1, .ref a2, .ref a3, .ref a4, .ref a5, .ref a6, .ref a7, .ref a8, .ref a9, .int (nI tp), .int (nI ((lvs (gC S L R (cls tp L R) rq w sp0).1 1).length)), .ref b1, .int (nI bl), .ref b2, .ref b3, .int (nI (jn + ((lvs sp0 1).length - (lvs (gS1 S (cls tp L R) rq w sp0) 1).length))), .int (nI sn), .ref b4, .ref b5, .ref b6, .ref b7, .ref b8, .int (nI wt), .int (nI wm), .int (nI wg), .long (lN wo), .int (nI wd), .ref b9])), (b1, .inl (cJ, 14000, .inr (.inl (fun j => lN (u.1 j))))), (a4, .inl (cI, 25, .inl sz)), (a5, .inl (cI, 25, .inl lf)), (a6, .inl (cI, 25, .inl rt)), (a9, .inl (cI, 25, .inl (fun j => nI (kp j)))), (b2, .inl (cI, 256, .inl (fun j => nI (u.2.1 j)))), (b3, .inl (cI, 256, .inl (fun j => nI (u.2.2.1 j))))]) 0 0 := by
  intro sz
  refine Met.ofW (cc := cX4_change) (maxL := 5) (ret := (some .int)) (by decide) rfl ?_
  intro p e s m args below meth c s₁ B hml hv
  obtain ⟨rfl, hsz, hP, hk, hD0⟩ := hv
  subst hsz
  have hx := B.exec
  have hb := B.bytes
  have hr := B.returns
  have hts := atoms_spec (ws := wsX4_change) B.pre
  have hown : s.vm.findClass RX4 = some m.cls := findClass_of_methodNamed B.named
  have hlocks := B.notSynchronized
  have hK := hk.1
  have hinX4 : ∀ w ∈ wsX40, w ∈ wsX4_change := by decide +kernel
  obtain ⟨A, hAe⟩ : ∃ A, va_A [(rm, .inr (4, [.int (nI cd), .ref a1, .ref a2, .ref a3, .ref a4, .ref a5, .ref a6, .ref a7, .ref a8, .ref a9, .int (nI tp), .int (nI ((lvs sp0 1).length)), .ref b1, .int (nI bl), .ref b2, .ref b3, .int (nI jn), .int (nI sn), .ref b4, .ref b5, .ref b6, .ref b7, .ref b8, .int (nI wt), .int (nI wm), .int (nI wg), .long (lN wo), .int (nI wd), .ref b9])), (b1, .inl (cJ, 14000, .inr (.inl (fun j => lN (nd0 j))))), (a4, .inl (cI, 25, .inl sz)), (a5, .inl (cI, 25, .inl lf)), (a6, .inl (cI, 25, .inl rt)), (a9, .inl (cI, 25, .inl (fun j => nI (kp j)))), (b2, .inl (cI, 256, .inl (fun j => nI (ba j)))), (b3, .inl (cI, 256, .inl (fun j => nI (rv j))))] s.heap.size = A := ⟨_, rfl⟩
  have hD := hD0.self (sz := s.heap.size)
  rw [hAe] at hD
  have hA : ∀ q : Nat, s.heap.size ≤ q → A q := fun q h => by rw [← hAe]; exact Or.inr h
  have hS : va_S A s.heap s.heap [] := va_S.rf
  have hl := lv_entry ([.ref rm, .int (nI (adr tp S L R y)), .int (nI w)]) (n := 5) (Nat.le_of_ble_eq_true rfl)
  rw [lg_entry_eq]
  generalize (lg_sl ([.ref rm, .int (nI (adr tp S L R y)), .int (nI w)]) ++ List.replicate (5 - (lg_sl ([.ref rm, .int (nI (adr tp S L R y)), .int (nI w)])).length) Slot.unset).toArray = ls at hl ⊢
  have hl : lv_has ls 5 [(0, .ref rm), (1, .int (nI (adr tp S L R y))), (2, .int (nI w))] := hl
  obtain ⟨b0, hb0, hb2, hb3, hb4, hba, hbr⟩ := bW_y hR hT0 hB hry
  have hyl := hT0.2 y hry
  have hyx := hyl.1
  obtain ⟨iy, hiy0⟩ : ∃ iy, plc (lvs sp0 1) y = iy := ⟨_, rfl⟩
  have hiy := plc_mem (lvs_all hR hT0 hyx hyl.2.1)
  rw [hiy0] at hiy
  have hil := at_lt hiy
  obtain ⟨pp, pp_1, pp_2, pp_3, pp_4, pp_5, pp_6, pp_7, pp_8, pp_9, pp_10⟩ := nW_rd (i := iy) hR hT0 hW0 hlen0 hil
  obtain rfl : y = pp := by rw [hiy] at pp_1; exact Option.some.inj pp_1
  have hck := cls_ok hR hT0 hyx
  have hrk := rl_kids hR hrl hck.1
  have hya := adr_lt hR hT0 hyx
  have hyd := sid_b hR hT0 hyx
  refine lv_aload_n hx hb dX4_change_0 rfl (lv_at hl 0 rfl) ?_
  refine k_goI (wr := [(b1, .inl (cJ, 14000, .inr (.inl (fun j => lN (nd0 j))))), (a4, .inl (cI, 25, .inl sz)), (a5, .inl (cI, 25, .inl lf)), (a6, .inl (cI, 25, .inl rt)), (a9, .inl (cI, 25, .inl (fun j => nI (kp j)))), (b2, .inl (cI, 256, .inl (fun j => nI (ba j)))), (b3, .inl (cI, 256, .inl (fun j => nI (rv j))))]) (va_runV (As := []) (rest := []) ⟨hx, hb, hml, hown, hts⟩ (c_X4_isThere l g cI cJ cZ rm a1 a2 a3 a4 a5 a6 a7 a8 a9 b1 b2 b3 b4 b5 b6 b7 b8 b9 cd tp ((lvs sp0 1).length) bl jn sn wt wm wg wo wd  htp _) (cwV 0 hts gX4_change_X4_isThere rfl rfl rfl (by decide +kernel) ⟨Nat.le_of_ble_eq_true rfl, Nat.le_of_ble_eq_true rfl⟩) (k_preV hk hP hD [0] rfl rfl (ci := 4) (q0 := 0) rfl rfl) rfl rfl hl.1 rfl (lv_room (Nat.le_of_ble_eq_true rfl)) dX4_change_1 ⟨by first | exact Nat.zero_le _ | omega, by first | exact Nat.zero_le _ | omega⟩) hP hD hS hA [0] [1, 2, 3, 4, 5, 6, 7] rfl rfl rfl (by decide) (fun rv _ H locs hu hP hD hS => ?_)
  subst hu
  have hP : va_P g vwCl [(b1, .inl (cJ, 14000, .inr (.inl (fun j => lN (nd0 j))))), (a4, .inl (cI, 25, .inl sz)), (a5, .inl (cI, 25, .inl lf)), (a6, .inl (cI, 25, .inl rt)), (a9, .inl (cI, 25, .inl (fun j => nI (kp j)))), (b2, .inl (cI, 256, .inl (fun j => nI (ba j)))), (b3, .inl (cI, 256, .inl (fun j => nI (rv j)))), (rm, .inr (4, [.int (nI 0), .ref a1, .ref a2, .ref a3, .ref a4, .ref a5, .ref a6, .ref a7, .ref a8, .ref a9, .int (nI tp), .int (nI ((lvs sp0 1).length)), .ref b1, .int (nI bl), .ref b2, .ref b3, .int (nI jn), .int (nI sn), .ref b4, .ref b5, .ref b6, .ref b7, .ref b8, .int (nI wt), .int (nI wm), .int (nI wg), .long (lN wo), .int (nI wd), .ref b9]))] H := hP
  have hD : va_D A [(b1, .inl (cJ, 14000, .inr (.inl (fun j => lN (nd0 j))))), (a4, .inl (cI, 25, .inl sz)), (a5, .inl (cI, 25, .inl lf)), (a6, .inl (cI, 25, .inl rt)), (a9, .inl (cI, 25, .inl (fun j => nI (kp j)))), (b2, .inl (cI, 256, .inl (fun j => nI (ba j)))), (b3, .inl (cI, 256, .inl (fun j => nI (rv j)))), (rm, .inr (4, [.int (nI 0), .ref a1, .ref a2, .ref a3, .ref a4, .ref a5, .ref a6, .ref a7, .ref a8, .ref a9, .int (nI tp), .int (nI ((lvs sp0 1).length)), .ref b1, .int (nI bl), .ref b2, .ref b3, .int (nI jn), .int (nI sn), .ref b4, .ref b5, .ref b6, .ref b7, .ref b8, .int (nI wt), .int (nI wm), .int (nI wg), .long (lN wo), .int (nI wd), .ref b9]))] := hD
  refine n_if_ne (tgt := 9) hx hb dX4_change_4 (by decide) (by first | assumption | omega) (fun c1 => ?_) (fun c1 => ?_)
  · skip
    refine lv_aload_n hx hb dX4_change_9 rfl (lv_at hl 0 rfl) ?_
    refine lv_iload_n hx hb dX4_change_10 rfl (lv_at hl 1 rfl) ?_
    refine k_goR (W.runV (As := [.int (nI (adr tp S L R y))]) (rest := []) ⟨hx, hb, hml, hown, hts⟩ (c_X4_blockOf l g cI cJ cZ rm a1 a2 a3 a4 a5 a6 a7 a8 a9 b1 b2 b3 b4 b5 b6 b7 b8 b9 0 tp ((lvs sp0 1).length) bl jn sn wt wm wg wo wd ba (nI (adr tp S L R y)) b0 hbl hb0 hb3 hb4) (cwV 1 hts gX4_change_X4_blockOf rfl rfl rfl (by decide +kernel) ⟨Nat.le_of_ble_eq_true rfl, Nat.le_of_ble_eq_true rfl⟩) (k_preRV hk hP [7, 5] rfl (ci := 4) (q0 := 0) rfl rfl) rfl rfl hl.1 rfl (lv_room (Nat.le_of_ble_eq_true rfl)) dX4_change_11 ⟨by first | exact Nat.zero_le _ | omega, by first | exact Nat.zero_le _ | omega⟩) ?_
    refine lv_istore_n (lv' := [(3, .int (nI b0)), (0, .ref rm), (1, .int (nI (adr tp S L R y))), (2, .int (nI w))]) hx hb dX4_change_14 rfl hl (by decide) rfl (fun ls hl => ?_)
    refine lv_iload_n hx hb dX4_change_15 rfl (lv_at hl 0 rfl) ?_
    refine n_if_lt (tgt := 24) hx hb dX4_change_16 (by decide) (by first | assumption | omega) ?_
    refine lv_iload_n hx hb dX4_change_19 rfl (lv_at hl 3 rfl) ?_
    refine lv_iconst (v := nI 1) hx hb dX4_change_20 (by decide) ?_
    refine n_icmp_ge (tgt := 30) hx hb dX4_change_21 (by decide) (by first | assumption | omega) (by first | assumption | omega) (fun c3 => ?_) (fun c3 => ?_)
    · skip
      refine lv_aload_n hx hb dX4_change_30 rfl (lv_at hl 1 rfl) ?_
      refine va_get (D := g) (ci := 4) (v := .ref a4) (C := RX4) (T := TX4) (N := 29) hx hb hts hinX4 hown hK hP 7 rfl rfl 4 (by decide) (hts (.fieldLink RX4 19 "BuddyRoofModel" "sizes" "[I") (by decide +kernel)) (fun _ h9 => h9) rfl dX4_change_31 ?_
      refine lv_aload_n hx hb dX4_change_34 rfl (lv_at hl 1 rfl) ?_
      refine lv_aload_n hx hb dX4_change_35 rfl (lv_at hl 1 rfl) ?_
      refine lv_iload_n hx hb dX4_change_36 rfl (lv_at hl 2 rfl) ?_
      refine k_goR (W.runV (As := [.int (nI (adr tp S L R y))]) (rest := [.ref rm, .ref a4]) ⟨hx, hb, hml, hown, hts⟩ (c_X4_nodeAt l g cI cJ cZ rm a1 a2 a3 a4 a5 a6 a7 a8 a9 b1 b2 b3 b4 b5 b6 b7 b8 b9 0 tp bl jn sn wt wm wg wo wd S L R rc sp0 rq nd0 y iy hR hT0 hW0 hlen0 hiy) (cwV 1 hts gX4_change_X4_nodeAt rfl rfl rfl (by decide +kernel) ⟨Nat.le_of_ble_eq_true rfl, Nat.le_of_ble_eq_true rfl⟩) (k_preRV hk hP [7, 0] rfl (ci := 4) (q0 := 0) rfl rfl) rfl rfl hl.1 rfl (lv_room (Nat.le_of_ble_eq_true rfl)) dX4_change_37 ⟨by first | exact Nat.zero_le _ | omega, by first | exact Nat.zero_le _ | omega⟩) ?_
      refine k_goR (W.runV (As := [.int (nI iy)]) (rest := [.ref a4]) ⟨hx, hb, hml, hown, hts⟩ (c_X4_classOf l g cI cJ cZ rm a1 a2 a3 a4 a5 a6 a7 a8 a9 b1 b2 b3 b4 b5 b6 b7 b8 b9 0 tp ((lvs sp0 1).length) bl jn sn wt wm wg wo wd nd0 iy pp_4 pp_5) (cwV 1 hts gX4_change_X4_classOf rfl rfl rfl (by decide +kernel) ⟨Nat.le_of_ble_eq_true rfl, Nat.le_of_ble_eq_true rfl⟩) (k_preRV hk hP [7, 0] rfl (ci := 4) (q0 := 0) rfl rfl) rfl rfl hl.1 rfl (lv_room (Nat.le_of_ble_eq_true rfl)) dX4_change_40 ⟨by first | exact Nat.zero_le _ | omega, by first | exact Nat.zero_le _ | omega⟩) ?_
      refine n_top _ (nI (cls tp L R y)) (congrArg nI pp_8) ?_
      refine n_ald (v := nI (S (cls tp L R y))) hx hb hK hP 1 0 rfl rfl (i := (cls tp L R y)) (by omega) (by decide) (by exact hrk.1) dX4_change_43 ?_
      refine lv_iload_n hx hb dX4_change_44 rfl (lv_at hl 3 rfl) ?_
      refine n_icmp_lt (tgt := 57) hx hb dX4_change_45 (by decide) (by first | assumption | omega) (by first | assumption | omega) (fun c4 => ?_) (fun c4 => ?_)
      · skip
        refine lv_aload_n hx hb dX4_change_57 rfl (lv_at hl 1 rfl) ?_
        refine va_get (D := g) (ci := 4) (v := .int (nI bl)) (C := RX4) (T := TX4) (N := 29) hx hb hts hinX4 hown hK hP 7 rfl rfl 13 (by decide) (hts (.fieldLink RX4 103 "BuddyRoofModel" "blocks" "I") (by decide +kernel)) (fun _ h9 => h9) rfl dX4_change_58 ?_
        refine lv_sipush (v := nI 256) hx hb dX4_change_61 (by decide) ?_
        refine n_icmp_ne (tgt := 73) hx hb dX4_change_64 (by decide) (by first | assumption | omega) (by first | assumption | omega) (fun c5 => ?_) (fun c5 => ?_)
        · skip
          refine lv_aload_n hx hb dX4_change_73 rfl (lv_at hl 1 rfl) ?_
          refine lv_iload_n hx hb dX4_change_74 rfl (lv_at hl 3 rfl) ?_
          refine k_goI (wr := [(a9, .inl (cI, 25, .inl (fun j => nI (kp j))))]) (va_runV (As := [.int (nI w)]) (rest := []) ⟨hx, hb, hml, hown, hts⟩ (c_X4_giveWords_n l g cI cJ cZ rm a1 a2 a3 a4 a5 a6 a7 a8 a9 b1 b2 b3 b4 b5 b6 b7 b8 b9 0 tp bl jn sn wt wm wg wo wd sz lf rt S L R rc sp0 rq nd0 ba rv w  hR hT0 hW0 hlen0 hrl hw1 hw hgb _) (cwV 1 hts gX4_change_X4_giveWords rfl rfl rfl (by decide +kernel) ⟨Nat.le_of_ble_eq_true rfl, Nat.le_of_ble_eq_true rfl⟩) (k_preV hk hP hD [7, 0, 1, 2, 3, 5, 6] rfl rfl (ci := 4) (q0 := 0) rfl rfl) rfl rfl hl.1 rfl (lv_room (Nat.le_of_ble_eq_true rfl)) dX4_change_75 ⟨by first | exact Nat.zero_le _ | omega, by first | exact Nat.zero_le _ | omega⟩) hP hD hS hA [7, 0, 1, 2, 3, 5, 6] [4] rfl rfl rfl (by decide) (fun rv nd1 H locs hu hP hD hS => ?_)
          obtain ⟨hrv, hW1⟩ := hu
          subst hrv
          have hP : va_P g vwCl [(a9, .inl (cI, 25, .inl (fun j => nI (kp j)))), (rm, .inr (4, [.int (nI 0), .ref a1, .ref a2, .ref a3, .ref a4, .ref a5, .ref a6, .ref a7, .ref a8, .ref a9, .int (nI tp), .int (nI ((lvs (gC S L R (cls tp L R) rq w sp0).1 1).length)), .ref b1, .int (nI bl), .ref b2, .ref b3, .int (nI (jn + ((lvs sp0 1).length - (lvs (gS1 S (cls tp L R) rq w sp0) 1).length))), .int (nI sn), .ref b4, .ref b5, .ref b6, .ref b7, .ref b8, .int (nI wt), .int (nI wm), .int (nI wg), .long (lN wo), .int (nI wd), .ref b9])), (b1, .inl (cJ, 14000, .inr (.inl (fun j => lN (nd1 j))))), (a4, .inl (cI, 25, .inl sz)), (a5, .inl (cI, 25, .inl lf)), (a6, .inl (cI, 25, .inl rt)), (b2, .inl (cI, 256, .inl (fun j => nI (ba j)))), (b3, .inl (cI, 256, .inl (fun j => nI (rv j))))] H := hP
          have hD : va_D A [(a9, .inl (cI, 25, .inl (fun j => nI (kp j)))), (rm, .inr (4, [.int (nI 0), .ref a1, .ref a2, .ref a3, .ref a4, .ref a5, .ref a6, .ref a7, .ref a8, .ref a9, .int (nI tp), .int (nI ((lvs (gC S L R (cls tp L R) rq w sp0).1 1).length)), .ref b1, .int (nI bl), .ref b2, .ref b3, .int (nI (jn + ((lvs sp0 1).length - (lvs (gS1 S (cls tp L R) rq w sp0) 1).length))), .int (nI sn), .ref b4, .ref b5, .ref b6, .ref b7, .ref b8, .int (nI wt), .int (nI wm), .int (nI wg), .long (lN wo), .int (nI wd), .ref b9])), (b1, .inl (cJ, 14000, .inr (.inl (fun j => lN (nd1 j))))), (a4, .inl (cI, 25, .inl sz)), (a5, .inl (cI, 25, .inl lf)), (a6, .inl (cI, 25, .inl rt)), (b2, .inl (cI, 256, .inl (fun j => nI (ba j)))), (b3, .inl (cI, 256, .inl (fun j => nI (rv j))))] := hD
          refine lv_istore (lv' := [(4, .int (-1)), (3, .int (nI b0)), (0, .ref rm), (1, .int (nI (adr tp S L R y))), (2, .int (nI w))]) hx hb dX4_change_78 hl (by decide) rfl (fun ls hl => ?_)
          refine lv_iload hx hb dX4_change_80 (lv_at hl 0 rfl) ?_
          refine lv_if_lt (tgt := 90) hx hb dX4_change_82 (by decide) (fun c6 => ?_) (fun c6 => ?_)
          · skip
            refine lv_iload hx hb dX4_change_90 (lv_at hl 0 rfl) ?_
            have hP := hP.sub (ws' := [(rm, .inr (4, [.int (nI 0), .ref a1, .ref a2, .ref a3, .ref a4, .ref a5, .ref a6, .ref a7, .ref a8, .ref a9, .int (nI tp), .int (nI ((lvs (gC S L R (cls tp L R) rq w sp0).1 1).length)), .ref b1, .int (nI bl), .ref b2, .ref b3, .int (nI (jn + ((lvs sp0 1).length - (lvs (gS1 S (cls tp L R) rq w sp0) 1).length))), .int (nI sn), .ref b4, .ref b5, .ref b6, .ref b7, .ref b8, .int (nI wt), .int (nI wm), .int (nI wg), .long (lN wo), .int (nI wd), .ref b9])), (b1, .inl (cJ, 14000, .inr (.inl (fun j => lN (nd1 j))))), (a4, .inl (cI, 25, .inl sz)), (a5, .inl (cI, 25, .inl lf)), (a6, .inl (cI, 25, .inl rt)), (a9, .inl (cI, 25, .inl (fun j => nI (kp j)))), (b2, .inl (cI, 256, .inl (fun j => nI (ba j)))), (b3, .inl (cI, 256, .inl (fun j => nI (rv j))))]) [1, 2, 3, 4, 5, 0, 6, 7] rfl
            have hD := hD.sub (ws' := [(rm, .inr (4, [.int (nI 0), .ref a1, .ref a2, .ref a3, .ref a4, .ref a5, .ref a6, .ref a7, .ref a8, .ref a9, .int (nI tp), .int (nI ((lvs (gC S L R (cls tp L R) rq w sp0).1 1).length)), .ref b1, .int (nI bl), .ref b2, .ref b3, .int (nI (jn + ((lvs sp0 1).length - (lvs (gS1 S (cls tp L R) rq w sp0) 1).length))), .int (nI sn), .ref b4, .ref b5, .ref b6, .ref b7, .ref b8, .int (nI wt), .int (nI wm), .int (nI wg), .long (lN wo), .int (nI wd), .ref b9])), (b1, .inl (cJ, 14000, .inr (.inl (fun j => lN (nd1 j))))), (a4, .inl (cI, 25, .inl sz)), (a5, .inl (cI, 25, .inl lf)), (a6, .inl (cI, 25, .inl rt)), (a9, .inl (cI, 25, .inl (fun j => nI (kp j)))), (b2, .inl (cI, 256, .inl (fun j => nI (ba j)))), (b3, .inl (cI, 256, .inl (fun j => nI (rv j))))]) [1, 2, 3, 4, 5, 0, 6, 7] rfl rfl
            refine W.widen (k := 0) (n := 0) (by first | exact Nat.le_refl _ | omega) (by first | exact Nat.le_refl _ | omega) ?_
            exact k_retI (sz := 0) (v := -1) hx hb hr hlocks hAe hS hP hD (nd1, ba, rv, bf) (rfl) (⟨rfl, hW1, hB⟩) dX4_change_92
          · exact (by exact absurd (by decide) c6)
        · exact (by exfalso; omega)
      · exact (by exfalso; omega)
    · exact (by exfalso; omega)
  · exact (by exact absurd c1 (by decide))
set_option maxHeartbeats 4000000 in
set_option maxRecDepth 100000 in
theorem c_X4_change_m (l : Launch) (g : va_G) (cI cJ cZ : ClassId) (rm a1 a2 a3 a4 a5 a6 a7 a8 a9 b1 b2 b3 b4 b5 b6 b7 b8 b9 : Nat) (cd tp bl jn sn wt wm wg wo wd : Nat) (sz lf rt : Nat → Int32) (S L R : Nat → Nat) (rc : Nat → Bool) (sp0 : Nat → Bool) (rq nd0 : Nat → Nat) (kp ba rv bf : Nat → Nat) (y w : Nat) (htp : 0 < tp ∧ tp < 2 ^ 31) (hR : RuleOK S L R rc tp) (hT0 : TOK tp S L R sp0 rq) (hW0 : nW tp S L R rq nd0 (lvs sp0 1)) (hlen0 : (lvs sp0 1).length ≤ 14000) (hrl : rOK S L R rc sz lf rt) (hkp : ∀ j, kp j < 2 ^ 31) (hbl : bl ≤ 256) (hB : bW (adr tp S L R) rq bl ba rv bf) (hry : 0 < rq y) (hw1 : 1 ≤ w) (hw : w < 2 ^ 31) (hwS : S (cls tp L R y) < w) (hb256 : bl < 256) (hgb : (gB S (cls tp L R) rq w sp0) ≠ 0) (hfin : (lvs (gC S L R (cls tp L R) rq w sp0).1 1).length ≤ 14000) : kI l g (kty cI cJ cZ) yX4_change wsX4_change ({ frames := 4, cells := 0, slots := 0, locals := 101 }) [.ref rm, .int (nI (adr tp S L R y)), .int (nI w)] [(rm, .inr (4, [.int (nI cd), .ref a1, .ref a2, .ref a3, .ref a4, .ref a5, .ref a6, .ref a7, .ref a8, .ref a9, .int (nI tp), .int (nI ((lvs sp0 1).length)), .ref b1, .int (nI bl), .ref b2, .ref b3, .int (nI jn), .int (nI sn), .ref b4, .ref b5, .ref b6, .ref b7, .ref b8, .int (nI wt), .int (nI wm), .int (nI wg), .long (lN wo), .int (nI wd), .ref b9])), (b1, .inl (cJ, 14000, .inr (.inl (fun j => lN (nd0 j))))), (a4, .inl (cI, 25, .inl sz)), (a5, .inl (cI, 25, .inl lf)), (a6, .inl (cI, 25, .inl rt)), (a9, .inl (cI, 25, .inl (fun j => nI (kp j)))), (b2, .inl (cI, 256, .inl (fun j => nI (ba j)))), (b3, .inl (cI, 256, .inl (fun j => nI (rv j))))] (S := (Nat → Nat) × (Nat → Nat) × (Nat → Nat) × (Nat → Nat)) (fun r u => r = nI (adr tp S L R (gC S L R (cls tp L R) rq w sp0).2.1) ∧ nW tp S L R (upN (gQ S L R (cls tp L R) rq w sp0) y 0) u.1 (lvs (aUp (cls tp L R) kp (upN (gQ S L R (cls tp L R) rq w sp0) y 0) 24 ((gC S L R (cls tp L R) rq w sp0).1, y, 0)).1 1) ∧ bW (adr tp S L R) (upN (gQ S L R (cls tp L R) rq w sp0) y 0) bl u.2.1 u.2.2.1 u.2.2.2) (fun u => [(rm, .inr (4, [.int (nI 0), .ref a1, .ref a2, .ref a3, .ref a4, .ref a5, .ref a6, .ref a7, .ref a8, .ref a9, .int (nI tp), .int (nI ((lvs (aUp (cls tp L R) kp (upN (gQ S L R (cls tp L R) rq w sp0) y 0) 24 ((gC S L R (cls tp L R) rq w sp0).1, y, 0)).1 1).length)), .ref b1, .int (nI bl), .ref b2, .ref b3, .int (nI (jn + ((lvs sp0 1).length - (lvs (gS1 S (cls tp L R) rq w sp0) 1).length) + (aUp (cls tp L R) kp (upN (gQ S L R (cls tp L R) rq w sp0) y 0) 24 ((gC S L R (cls tp L R) rq w sp0).1, y, 0)).2.2)), .int (nI (sn + (gC S L R (cls tp L R) rq w sp0).2.2)), .ref b4, .ref b5, .ref b6, .ref b7, .ref b8, .int (nI wt), .int (nI wm), .int (nI wg), .long (lN wo), .int (nI wd), .ref b9])), (b1, .inl (cJ, 14000, .inr (.inl (fun j => lN (u.1 j))))), (a4, .inl (cI, 25, .inl sz)), (a5, .inl (cI, 25, .inl lf)), (a6, .inl (cI, 25, .inl rt)), (a9, .inl (cI, 25, .inl (fun j => nI (kp j)))), (b2, .inl (cI, 256, .inl (fun j => nI (u.2.1 j)))), (b3, .inl (cI, 256, .inl (fun j => nI (u.2.2.1 j))))]) 0 0 := by
  intro sz
  refine Met.ofW (cc := cX4_change) (maxL := 5) (ret := (some .int)) (by decide) rfl ?_
  intro p e s m args below meth c s₁ B hml hv
  obtain ⟨rfl, hsz, hP, hk, hD0⟩ := hv
  subst hsz
  have hx := B.exec
  have hb := B.bytes
  have hr := B.returns
  have hts := atoms_spec (ws := wsX4_change) B.pre
  have hown : s.vm.findClass RX4 = some m.cls := findClass_of_methodNamed B.named
  have hlocks := B.notSynchronized
  have hK := hk.1
  have hinX4 : ∀ w ∈ wsX40, w ∈ wsX4_change := by decide +kernel
  obtain ⟨A, hAe⟩ : ∃ A, va_A [(rm, .inr (4, [.int (nI cd), .ref a1, .ref a2, .ref a3, .ref a4, .ref a5, .ref a6, .ref a7, .ref a8, .ref a9, .int (nI tp), .int (nI ((lvs sp0 1).length)), .ref b1, .int (nI bl), .ref b2, .ref b3, .int (nI jn), .int (nI sn), .ref b4, .ref b5, .ref b6, .ref b7, .ref b8, .int (nI wt), .int (nI wm), .int (nI wg), .long (lN wo), .int (nI wd), .ref b9])), (b1, .inl (cJ, 14000, .inr (.inl (fun j => lN (nd0 j))))), (a4, .inl (cI, 25, .inl sz)), (a5, .inl (cI, 25, .inl lf)), (a6, .inl (cI, 25, .inl rt)), (a9, .inl (cI, 25, .inl (fun j => nI (kp j)))), (b2, .inl (cI, 256, .inl (fun j => nI (ba j)))), (b3, .inl (cI, 256, .inl (fun j => nI (rv j))))] s.heap.size = A := ⟨_, rfl⟩
  have hD := hD0.self (sz := s.heap.size)
  rw [hAe] at hD
  have hA : ∀ q : Nat, s.heap.size ≤ q → A q := fun q h => by rw [← hAe]; exact Or.inr h
  have hS : va_S A s.heap s.heap [] := va_S.rf
  have hl := lv_entry ([.ref rm, .int (nI (adr tp S L R y)), .int (nI w)]) (n := 5) (Nat.le_of_ble_eq_true rfl)
  rw [lg_entry_eq]
  generalize (lg_sl ([.ref rm, .int (nI (adr tp S L R y)), .int (nI w)]) ++ List.replicate (5 - (lg_sl ([.ref rm, .int (nI (adr tp S L R y)), .int (nI w)])).length) Slot.unset).toArray = ls at hl ⊢
  have hl : lv_has ls 5 [(0, .ref rm), (1, .int (nI (adr tp S L R y))), (2, .int (nI w))] := hl
  obtain ⟨b0, hb0, hb2, hb3, hb4, hba, hbr⟩ := bW_y hR hT0 hB hry
  have hyl := hT0.2 y hry
  have hyx := hyl.1
  obtain ⟨iy, hiy0⟩ : ∃ iy, plc (lvs sp0 1) y = iy := ⟨_, rfl⟩
  have hiy := plc_mem (lvs_all hR hT0 hyx hyl.2.1)
  rw [hiy0] at hiy
  have hil := at_lt hiy
  obtain ⟨pp, pp_1, pp_2, pp_3, pp_4, pp_5, pp_6, pp_7, pp_8, pp_9, pp_10⟩ := nW_rd (i := iy) hR hT0 hW0 hlen0 hil
  obtain rfl : y = pp := by rw [hiy] at pp_1; exact Option.some.inj pp_1
  have hck := cls_ok hR hT0 hyx
  have hrk := rl_kids hR hrl hck.1
  have hya := adr_lt hR hT0 hyx
  have hyd := sid_b hR hT0 hyx
  have hgl := gQ_live (w := w) (y := y) hR hT0 hw1 hgb hry
  have hgk := gC_ok hR hT0 hw1 hgb
  have hga := adr_lt hR hgk.1 hgk.2.1
  refine lv_aload_n hx hb dX4_change_0 rfl (lv_at hl 0 rfl) ?_
  refine k_goI (wr := [(b1, .inl (cJ, 14000, .inr (.inl (fun j => lN (nd0 j))))), (a4, .inl (cI, 25, .inl sz)), (a5, .inl (cI, 25, .inl lf)), (a6, .inl (cI, 25, .inl rt)), (a9, .inl (cI, 25, .inl (fun j => nI (kp j)))), (b2, .inl (cI, 256, .inl (fun j => nI (ba j)))), (b3, .inl (cI, 256, .inl (fun j => nI (rv j))))]) (va_runV (As := []) (rest := []) ⟨hx, hb, hml, hown, hts⟩ (c_X4_isThere l g cI cJ cZ rm a1 a2 a3 a4 a5 a6 a7 a8 a9 b1 b2 b3 b4 b5 b6 b7 b8 b9 cd tp ((lvs sp0 1).length) bl jn sn wt wm wg wo wd  htp _) (cwV 0 hts gX4_change_X4_isThere rfl rfl rfl (by decide +kernel) ⟨Nat.le_of_ble_eq_true rfl, Nat.le_of_ble_eq_true rfl⟩) (k_preV hk hP hD [0] rfl rfl (ci := 4) (q0 := 0) rfl rfl) rfl rfl hl.1 rfl (lv_room (Nat.le_of_ble_eq_true rfl)) dX4_change_1 ⟨by first | exact Nat.zero_le _ | omega, by first | exact Nat.zero_le _ | omega⟩) hP hD hS hA [0] [1, 2, 3, 4, 5, 6, 7] rfl rfl rfl (by decide) (fun rv _ H locs hu hP hD hS => ?_)
  subst hu
  have hP : va_P g vwCl [(b1, .inl (cJ, 14000, .inr (.inl (fun j => lN (nd0 j))))), (a4, .inl (cI, 25, .inl sz)), (a5, .inl (cI, 25, .inl lf)), (a6, .inl (cI, 25, .inl rt)), (a9, .inl (cI, 25, .inl (fun j => nI (kp j)))), (b2, .inl (cI, 256, .inl (fun j => nI (ba j)))), (b3, .inl (cI, 256, .inl (fun j => nI (rv j)))), (rm, .inr (4, [.int (nI 0), .ref a1, .ref a2, .ref a3, .ref a4, .ref a5, .ref a6, .ref a7, .ref a8, .ref a9, .int (nI tp), .int (nI ((lvs sp0 1).length)), .ref b1, .int (nI bl), .ref b2, .ref b3, .int (nI jn), .int (nI sn), .ref b4, .ref b5, .ref b6, .ref b7, .ref b8, .int (nI wt), .int (nI wm), .int (nI wg), .long (lN wo), .int (nI wd), .ref b9]))] H := hP
  have hD : va_D A [(b1, .inl (cJ, 14000, .inr (.inl (fun j => lN (nd0 j))))), (a4, .inl (cI, 25, .inl sz)), (a5, .inl (cI, 25, .inl lf)), (a6, .inl (cI, 25, .inl rt)), (a9, .inl (cI, 25, .inl (fun j => nI (kp j)))), (b2, .inl (cI, 256, .inl (fun j => nI (ba j)))), (b3, .inl (cI, 256, .inl (fun j => nI (rv j)))), (rm, .inr (4, [.int (nI 0), .ref a1, .ref a2, .ref a3, .ref a4, .ref a5, .ref a6, .ref a7, .ref a8, .ref a9, .int (nI tp), .int (nI ((lvs sp0 1).length)), .ref b1, .int (nI bl), .ref b2, .ref b3, .int (nI jn), .int (nI sn), .ref b4, .ref b5, .ref b6, .ref b7, .ref b8, .int (nI wt), .int (nI wm), .int (nI wg), .long (lN wo), .int (nI wd), .ref b9]))] := hD
  refine n_if_ne (tgt := 9) hx hb dX4_change_4 (by decide) (by first | assumption | omega) (fun c1 => ?_) (fun c1 => ?_)
  · skip
    refine lv_aload_n hx hb dX4_change_9 rfl (lv_at hl 0 rfl) ?_
    refine lv_iload_n hx hb dX4_change_10 rfl (lv_at hl 1 rfl) ?_
    refine k_goR (W.runV (As := [.int (nI (adr tp S L R y))]) (rest := []) ⟨hx, hb, hml, hown, hts⟩ (c_X4_blockOf l g cI cJ cZ rm a1 a2 a3 a4 a5 a6 a7 a8 a9 b1 b2 b3 b4 b5 b6 b7 b8 b9 0 tp ((lvs sp0 1).length) bl jn sn wt wm wg wo wd ba (nI (adr tp S L R y)) b0 hbl hb0 hb3 hb4) (cwV 1 hts gX4_change_X4_blockOf rfl rfl rfl (by decide +kernel) ⟨Nat.le_of_ble_eq_true rfl, Nat.le_of_ble_eq_true rfl⟩) (k_preRV hk hP [7, 5] rfl (ci := 4) (q0 := 0) rfl rfl) rfl rfl hl.1 rfl (lv_room (Nat.le_of_ble_eq_true rfl)) dX4_change_11 ⟨by first | exact Nat.zero_le _ | omega, by first | exact Nat.zero_le _ | omega⟩) ?_
    refine lv_istore_n (lv' := [(3, .int (nI b0)), (0, .ref rm), (1, .int (nI (adr tp S L R y))), (2, .int (nI w))]) hx hb dX4_change_14 rfl hl (by decide) rfl (fun ls hl => ?_)
    refine lv_iload_n hx hb dX4_change_15 rfl (lv_at hl 0 rfl) ?_
    refine n_if_lt (tgt := 24) hx hb dX4_change_16 (by decide) (by first | assumption | omega) ?_
    refine lv_iload_n hx hb dX4_change_19 rfl (lv_at hl 3 rfl) ?_
    refine lv_iconst (v := nI 1) hx hb dX4_change_20 (by decide) ?_
    refine n_icmp_ge (tgt := 30) hx hb dX4_change_21 (by decide) (by first | assumption | omega) (by first | assumption | omega) (fun c3 => ?_) (fun c3 => ?_)
    · skip
      refine lv_aload_n hx hb dX4_change_30 rfl (lv_at hl 1 rfl) ?_
      refine va_get (D := g) (ci := 4) (v := .ref a4) (C := RX4) (T := TX4) (N := 29) hx hb hts hinX4 hown hK hP 7 rfl rfl 4 (by decide) (hts (.fieldLink RX4 19 "BuddyRoofModel" "sizes" "[I") (by decide +kernel)) (fun _ h9 => h9) rfl dX4_change_31 ?_
      refine lv_aload_n hx hb dX4_change_34 rfl (lv_at hl 1 rfl) ?_
      refine lv_aload_n hx hb dX4_change_35 rfl (lv_at hl 1 rfl) ?_
      refine lv_iload_n hx hb dX4_change_36 rfl (lv_at hl 2 rfl) ?_
      refine k_goR (W.runV (As := [.int (nI (adr tp S L R y))]) (rest := [.ref rm, .ref a4]) ⟨hx, hb, hml, hown, hts⟩ (c_X4_nodeAt l g cI cJ cZ rm a1 a2 a3 a4 a5 a6 a7 a8 a9 b1 b2 b3 b4 b5 b6 b7 b8 b9 0 tp bl jn sn wt wm wg wo wd S L R rc sp0 rq nd0 y iy hR hT0 hW0 hlen0 hiy) (cwV 1 hts gX4_change_X4_nodeAt rfl rfl rfl (by decide +kernel) ⟨Nat.le_of_ble_eq_true rfl, Nat.le_of_ble_eq_true rfl⟩) (k_preRV hk hP [7, 0] rfl (ci := 4) (q0 := 0) rfl rfl) rfl rfl hl.1 rfl (lv_room (Nat.le_of_ble_eq_true rfl)) dX4_change_37 ⟨by first | exact Nat.zero_le _ | omega, by first | exact Nat.zero_le _ | omega⟩) ?_
      refine k_goR (W.runV (As := [.int (nI iy)]) (rest := [.ref a4]) ⟨hx, hb, hml, hown, hts⟩ (c_X4_classOf l g cI cJ cZ rm a1 a2 a3 a4 a5 a6 a7 a8 a9 b1 b2 b3 b4 b5 b6 b7 b8 b9 0 tp ((lvs sp0 1).length) bl jn sn wt wm wg wo wd nd0 iy pp_4 pp_5) (cwV 1 hts gX4_change_X4_classOf rfl rfl rfl (by decide +kernel) ⟨Nat.le_of_ble_eq_true rfl, Nat.le_of_ble_eq_true rfl⟩) (k_preRV hk hP [7, 0] rfl (ci := 4) (q0 := 0) rfl rfl) rfl rfl hl.1 rfl (lv_room (Nat.le_of_ble_eq_true rfl)) dX4_change_40 ⟨by first | exact Nat.zero_le _ | omega, by first | exact Nat.zero_le _ | omega⟩) ?_
      refine n_top _ (nI (cls tp L R y)) (congrArg nI pp_8) ?_
      refine n_ald (v := nI (S (cls tp L R y))) hx hb hK hP 1 0 rfl rfl (i := (cls tp L R y)) (by omega) (by decide) (by exact hrk.1) dX4_change_43 ?_
      refine lv_iload_n hx hb dX4_change_44 rfl (lv_at hl 3 rfl) ?_
      refine n_icmp_lt (tgt := 57) hx hb dX4_change_45 (by decide) (by first | assumption | omega) (by first | assumption | omega) (fun c4 => ?_) (fun c4 => ?_)
      · skip
        refine lv_aload_n hx hb dX4_change_57 rfl (lv_at hl 1 rfl) ?_
        refine va_get (D := g) (ci := 4) (v := .int (nI bl)) (C := RX4) (T := TX4) (N := 29) hx hb hts hinX4 hown hK hP 7 rfl rfl 13 (by decide) (hts (.fieldLink RX4 103 "BuddyRoofModel" "blocks" "I") (by decide +kernel)) (fun _ h9 => h9) rfl dX4_change_58 ?_
        refine lv_sipush (v := nI 256) hx hb dX4_change_61 (by decide) ?_
        refine n_icmp_ne (tgt := 73) hx hb dX4_change_64 (by decide) (by first | assumption | omega) (by first | assumption | omega) (fun c5 => ?_) (fun c5 => ?_)
        · skip
          refine lv_aload_n hx hb dX4_change_73 rfl (lv_at hl 1 rfl) ?_
          refine lv_iload_n hx hb dX4_change_74 rfl (lv_at hl 3 rfl) ?_
          refine k_goI (wr := [(a9, .inl (cI, 25, .inl (fun j => nI (kp j))))]) (va_runV (As := [.int (nI w)]) (rest := []) ⟨hx, hb, hml, hown, hts⟩ (c_X4_giveWords l g cI cJ cZ rm a1 a2 a3 a4 a5 a6 a7 a8 a9 b1 b2 b3 b4 b5 b6 b7 b8 b9 0 tp bl jn sn wt wm wg wo wd sz lf rt S L R rc sp0 rq nd0 ba rv w  hR hT0 hW0 hlen0 hrl hw1 hw hgb hfin hb256 _) (cwV 1 hts gX4_change_X4_giveWords rfl rfl rfl (by decide +kernel) ⟨Nat.le_of_ble_eq_true rfl, Nat.le_of_ble_eq_true rfl⟩) (k_preV hk hP hD [7, 0, 1, 2, 3, 5, 6] rfl rfl (ci := 4) (q0 := 0) rfl rfl) rfl rfl hl.1 rfl (lv_room (Nat.le_of_ble_eq_true rfl)) dX4_change_75 ⟨by first | exact Nat.zero_le _ | omega, by first | exact Nat.zero_le _ | omega⟩) hP hD hS hA [7, 0, 1, 2, 3, 5, 6] [4] rfl rfl rfl (by decide) (fun rv nd1 H locs hu hP hD hS => ?_)
          obtain ⟨hrv, hW1⟩ := hu
          subst hrv
          have hP : va_P g vwCl [(a9, .inl (cI, 25, .inl (fun j => nI (kp j)))), (rm, .inr (4, [.int (nI 0), .ref a1, .ref a2, .ref a3, .ref a4, .ref a5, .ref a6, .ref a7, .ref a8, .ref a9, .int (nI tp), .int (nI ((lvs (gC S L R (cls tp L R) rq w sp0).1 1).length)), .ref b1, .int (nI (bl + 1)), .ref b2, .ref b3, .int (nI (jn + ((lvs sp0 1).length - (lvs (gS1 S (cls tp L R) rq w sp0) 1).length))), .int (nI (sn + (gC S L R (cls tp L R) rq w sp0).2.2)), .ref b4, .ref b5, .ref b6, .ref b7, .ref b8, .int (nI wt), .int (nI wm), .int (nI wg), .long (lN wo), .int (nI wd), .ref b9])), (b1, .inl (cJ, 14000, .inr (.inl (fun j => lN (nd1 j))))), (a4, .inl (cI, 25, .inl sz)), (a5, .inl (cI, 25, .inl lf)), (a6, .inl (cI, 25, .inl rt)), (b2, .inl (cI, 256, .inl (fun j => nI ((upN ba bl (adr tp S L R (gC S L R (cls tp L R) rq w sp0).2.1)) j)))), (b3, .inl (cI, 256, .inl (fun j => nI ((upN rv bl w) j))))] H := hP
          have hD : va_D A [(a9, .inl (cI, 25, .inl (fun j => nI (kp j)))), (rm, .inr (4, [.int (nI 0), .ref a1, .ref a2, .ref a3, .ref a4, .ref a5, .ref a6, .ref a7, .ref a8, .ref a9, .int (nI tp), .int (nI ((lvs (gC S L R (cls tp L R) rq w sp0).1 1).length)), .ref b1, .int (nI (bl + 1)), .ref b2, .ref b3, .int (nI (jn + ((lvs sp0 1).length - (lvs (gS1 S (cls tp L R) rq w sp0) 1).length))), .int (nI (sn + (gC S L R (cls tp L R) rq w sp0).2.2)), .ref b4, .ref b5, .ref b6, .ref b7, .ref b8, .int (nI wt), .int (nI wm), .int (nI wg), .long (lN wo), .int (nI wd), .ref b9])), (b1, .inl (cJ, 14000, .inr (.inl (fun j => lN (nd1 j))))), (a4, .inl (cI, 25, .inl sz)), (a5, .inl (cI, 25, .inl lf)), (a6, .inl (cI, 25, .inl rt)), (b2, .inl (cI, 256, .inl (fun j => nI ((upN ba bl (adr tp S L R (gC S L R (cls tp L R) rq w sp0).2.1)) j)))), (b3, .inl (cI, 256, .inl (fun j => nI ((upN rv bl w) j))))] := hD
          refine lv_istore (lv' := [(4, .int (nI (adr tp S L R (gC S L R (cls tp L R) rq w sp0).2.1))), (3, .int (nI b0)), (0, .ref rm), (1, .int (nI (adr tp S L R y))), (2, .int (nI w))]) hx hb dX4_change_78 hl (by decide) rfl (fun ls hl => ?_)
          refine lv_iload hx hb dX4_change_80 (lv_at hl 0 rfl) ?_
          refine n_if_lt (tgt := 90) hx hb dX4_change_82 (by decide) (by first | assumption | omega) ?_
          refine lv_aload_n hx hb dX4_change_85 rfl (lv_at hl 2 rfl) ?_
          refine lv_iload_n hx hb dX4_change_86 rfl (lv_at hl 1 rfl) ?_
          refine k_goV (wr := []) (va_runV (As := [.int (nI b0)]) (rest := []) ⟨hx, hb, hml, hown, hts⟩ (c_X4_freeBlock l g cI cJ cZ rm a1 a2 a3 a4 a5 a6 a7 a8 a9 b1 b2 b3 b4 b5 b6 b7 b8 b9 0 tp (bl + 1) (jn + ((lvs sp0 1).length - (lvs (gS1 S (cls tp L R) rq w sp0) 1).length)) (sn + (gC S L R (cls tp L R) rq w sp0).2.2) wt wm wg wo wd sz lf rt S L R rc (gC S L R (cls tp L R) rq w sp0).1 (gQ S L R (cls tp L R) rq w sp0) nd1 kp (upN ba bl (adr tp S L R (gC S L R (cls tp L R) rq w sp0).2.1)) (upN rv bl w) b0 y  hR (gQ_ok hR hT0 hw1 hgb) hW1 hfin hrl hkp (by omega) (by omega) (by rw [upN_n _ _ (by omega)]; exact hba) (by rw [hgl.1]; exact hry) _) (cwV 1 hts gX4_change_X4_freeBlock rfl rfl rfl (by decide +kernel) ⟨Nat.le_of_ble_eq_true rfl, Nat.le_of_ble_eq_true rfl⟩) (k_preV hk hP hD [1, 2, 3, 4, 5, 0, 6, 7] rfl rfl (ci := 4) (q0 := 0) rfl rfl) rfl rfl hl.1 rfl (lv_room (Nat.le_of_ble_eq_true rfl)) dX4_change_87 ⟨by first | exact Nat.zero_le _ | omega, by first | exact Nat.zero_le _ | omega⟩) hP hD hS hA [1, 2, 3, 4, 5, 0, 6, 7] [] rfl rfl rfl (by decide) (fun nd2 H locs hu hP hD hS => ?_)
          rw [Nat.add_sub_cancel] at hP hD
          have hP : va_P g vwCl [(rm, .inr (4, [.int (nI 0), .ref a1, .ref a2, .ref a3, .ref a4, .ref a5, .ref a6, .ref a7, .ref a8, .ref a9, .int (nI tp), .int (nI ((lvs (aUp (cls tp L R) kp (upN (gQ S L R (cls tp L R) rq w sp0) y 0) 24 ((gC S L R (cls tp L R) rq w sp0).1, y, 0)).1 1).length)), .ref b1, .int (nI bl), .ref b2, .ref b3, .int (nI (jn + ((lvs sp0 1).length - (lvs (gS1 S (cls tp L R) rq w sp0) 1).length) + (aUp (cls tp L R) kp (upN (gQ S L R (cls tp L R) rq w sp0) y 0) 24 ((gC S L R (cls tp L R) rq w sp0).1, y, 0)).2.2)), .int (nI (sn + (gC S L R (cls tp L R) rq w sp0).2.2)), .ref b4, .ref b5, .ref b6, .ref b7, .ref b8, .int (nI wt), .int (nI wm), .int (nI wg), .long (lN wo), .int (nI wd), .ref b9])), (b1, .inl (cJ, 14000, .inr (.inl (fun j => lN (nd2 j))))), (a4, .inl (cI, 25, .inl sz)), (a5, .inl (cI, 25, .inl lf)), (a6, .inl (cI, 25, .inl rt)), (a9, .inl (cI, 25, .inl (fun j => nI (kp j)))), (b2, .inl (cI, 256, .inl (fun j => nI ((upN (upN ba bl (adr tp S L R (gC S L R (cls tp L R) rq w sp0).2.1)) b0 ((upN ba bl (adr tp S L R (gC S L R (cls tp L R) rq w sp0).2.1)) bl)) j)))), (b3, .inl (cI, 256, .inl (fun j => nI ((upN (upN rv bl w) b0 ((upN rv bl w) bl)) j))))] H := hP
          have hD : va_D A [(rm, .inr (4, [.int (nI 0), .ref a1, .ref a2, .ref a3, .ref a4, .ref a5, .ref a6, .ref a7, .ref a8, .ref a9, .int (nI tp), .int (nI ((lvs (aUp (cls tp L R) kp (upN (gQ S L R (cls tp L R) rq w sp0) y 0) 24 ((gC S L R (cls tp L R) rq w sp0).1, y, 0)).1 1).length)), .ref b1, .int (nI bl), .ref b2, .ref b3, .int (nI (jn + ((lvs sp0 1).length - (lvs (gS1 S (cls tp L R) rq w sp0) 1).length) + (aUp (cls tp L R) kp (upN (gQ S L R (cls tp L R) rq w sp0) y 0) 24 ((gC S L R (cls tp L R) rq w sp0).1, y, 0)).2.2)), .int (nI (sn + (gC S L R (cls tp L R) rq w sp0).2.2)), .ref b4, .ref b5, .ref b6, .ref b7, .ref b8, .int (nI wt), .int (nI wm), .int (nI wg), .long (lN wo), .int (nI wd), .ref b9])), (b1, .inl (cJ, 14000, .inr (.inl (fun j => lN (nd2 j))))), (a4, .inl (cI, 25, .inl sz)), (a5, .inl (cI, 25, .inl lf)), (a6, .inl (cI, 25, .inl rt)), (a9, .inl (cI, 25, .inl (fun j => nI (kp j)))), (b2, .inl (cI, 256, .inl (fun j => nI ((upN (upN ba bl (adr tp S L R (gC S L R (cls tp L R) rq w sp0).2.1)) b0 ((upN ba bl (adr tp S L R (gC S L R (cls tp L R) rq w sp0).2.1)) bl)) j)))), (b3, .inl (cI, 256, .inl (fun j => nI ((upN (upN rv bl w) b0 ((upN rv bl w) bl)) j))))] := hD
          refine lv_iload hx hb dX4_change_90 (lv_at hl 0 rfl) ?_
          have hP := hP.sub (ws' := [(rm, .inr (4, [.int (nI 0), .ref a1, .ref a2, .ref a3, .ref a4, .ref a5, .ref a6, .ref a7, .ref a8, .ref a9, .int (nI tp), .int (nI ((lvs (aUp (cls tp L R) kp (upN (gQ S L R (cls tp L R) rq w sp0) y 0) 24 ((gC S L R (cls tp L R) rq w sp0).1, y, 0)).1 1).length)), .ref b1, .int (nI bl), .ref b2, .ref b3, .int (nI (jn + ((lvs sp0 1).length - (lvs (gS1 S (cls tp L R) rq w sp0) 1).length) + (aUp (cls tp L R) kp (upN (gQ S L R (cls tp L R) rq w sp0) y 0) 24 ((gC S L R (cls tp L R) rq w sp0).1, y, 0)).2.2)), .int (nI (sn + (gC S L R (cls tp L R) rq w sp0).2.2)), .ref b4, .ref b5, .ref b6, .ref b7, .ref b8, .int (nI wt), .int (nI wm), .int (nI wg), .long (lN wo), .int (nI wd), .ref b9])), (b1, .inl (cJ, 14000, .inr (.inl (fun j => lN (nd2 j))))), (a4, .inl (cI, 25, .inl sz)), (a5, .inl (cI, 25, .inl lf)), (a6, .inl (cI, 25, .inl rt)), (a9, .inl (cI, 25, .inl (fun j => nI (kp j)))), (b2, .inl (cI, 256, .inl (fun j => nI ((upN (upN ba bl (adr tp S L R (gC S L R (cls tp L R) rq w sp0).2.1)) b0 ((upN ba bl (adr tp S L R (gC S L R (cls tp L R) rq w sp0).2.1)) bl)) j)))), (b3, .inl (cI, 256, .inl (fun j => nI ((upN (upN rv bl w) b0 ((upN rv bl w) bl)) j))))]) [0, 1, 2, 3, 4, 5, 6, 7] rfl
          have hD := hD.sub (ws' := [(rm, .inr (4, [.int (nI 0), .ref a1, .ref a2, .ref a3, .ref a4, .ref a5, .ref a6, .ref a7, .ref a8, .ref a9, .int (nI tp), .int (nI ((lvs (aUp (cls tp L R) kp (upN (gQ S L R (cls tp L R) rq w sp0) y 0) 24 ((gC S L R (cls tp L R) rq w sp0).1, y, 0)).1 1).length)), .ref b1, .int (nI bl), .ref b2, .ref b3, .int (nI (jn + ((lvs sp0 1).length - (lvs (gS1 S (cls tp L R) rq w sp0) 1).length) + (aUp (cls tp L R) kp (upN (gQ S L R (cls tp L R) rq w sp0) y 0) 24 ((gC S L R (cls tp L R) rq w sp0).1, y, 0)).2.2)), .int (nI (sn + (gC S L R (cls tp L R) rq w sp0).2.2)), .ref b4, .ref b5, .ref b6, .ref b7, .ref b8, .int (nI wt), .int (nI wm), .int (nI wg), .long (lN wo), .int (nI wd), .ref b9])), (b1, .inl (cJ, 14000, .inr (.inl (fun j => lN (nd2 j))))), (a4, .inl (cI, 25, .inl sz)), (a5, .inl (cI, 25, .inl lf)), (a6, .inl (cI, 25, .inl rt)), (a9, .inl (cI, 25, .inl (fun j => nI (kp j)))), (b2, .inl (cI, 256, .inl (fun j => nI ((upN (upN ba bl (adr tp S L R (gC S L R (cls tp L R) rq w sp0).2.1)) b0 ((upN ba bl (adr tp S L R (gC S L R (cls tp L R) rq w sp0).2.1)) bl)) j)))), (b3, .inl (cI, 256, .inl (fun j => nI ((upN (upN rv bl w) b0 ((upN rv bl w) bl)) j))))]) [0, 1, 2, 3, 4, 5, 6, 7] rfl rfl
          refine W.widen (k := 0) (n := 0) (by first | exact Nat.le_refl _ | omega) (by first | exact Nat.le_refl _ | omega) ?_
          exact k_retI (sz := 0) (v := nI (adr tp S L R (gC S L R (cls tp L R) rq w sp0).2.1)) hx hb hr hlocks hAe hS hP hD (nd2, (upN (upN ba bl (adr tp S L R (gC S L R (cls tp L R) rq w sp0).2.1)) b0 ((upN ba bl (adr tp S L R (gC S L R (cls tp L R) rq w sp0).2.1)) bl)), (upN (upN rv bl w) b0 ((upN rv bl w) bl)), upN (upN bf bl (gC S L R (cls tp L R) rq w sp0).2.1) b0 (upN bf bl (gC S L R (cls tp L R) rq w sp0).2.1 bl)) (rfl) (⟨rfl, hu, by have q9 := bW_free (b0 := b0) (bW_give hB hgk.2.2.2.1 hw1) (by omega); rw [← (gC_s hgb).2, upN_n _ _ (show b0 ≠ bl by omega), hb2, Nat.add_sub_cancel] at q9; exact q9⟩) dX4_change_92
        · exact (by exfalso; omega)
      · exact (by exfalso; omega)
    · exact (by exfalso; omega)
  · exact (by exact absurd c1 (by decide))
set_option maxHeartbeats 4000000 in
set_option maxRecDepth 100000 in
theorem c_X4_block_s (l : Launch) (g : va_G) (cI cJ cZ : ClassId) (rm a1 a2 a3 a4 a5 a6 a7 a8 a9 b1 b2 b3 b4 b5 b6 b7 b8 b9 : Nat) (cd tp bl jn sn wt wm wg wo wd : Nat) (sz lf rt : Nat → Int32) (S L R : Nat → Nat) (rc : Nat → Bool) (sp0 : Nat → Bool) (rq0 nd0 : Nat → Nat) (kp ba rv bf : Nat → Nat) (y : Nat) (v2 : Int32) (htp : 0 < tp ∧ tp < 2 ^ 31) (hR : RuleOK S L R rc tp) (hT0 : TOK tp S L R sp0 rq0) (hW0 : nW tp S L R rq0 nd0 (lvs sp0 1)) (hlen0 : (lvs sp0 1).length ≤ 14000) (hrl : rOK S L R rc sz lf rt) (hkp : ∀ j, kp j < 2 ^ 31) (hbl : bl ≤ 256) (hB : bW (adr tp S L R) rq0 bl ba rv bf) (hry : 0 < rq0 y) (hv2 : v2 = nI 0 ∨ v2 = nI 1 ∨ v2 = nI 2) : kI l g (kty cI cJ cZ) yX4_block wsX4_block ({ frames := 2, cells := 0, slots := 0, locals := 43 }) [.ref rm, .int (nI (adr tp S L R y)), .int v2] [(rm, .inr (4, [.int (nI cd), .ref a1, .ref a2, .ref a3, .ref a4, .ref a5, .ref a6, .ref a7, .ref a8, .ref a9, .int (nI tp), .int (nI ((lvs sp0 1).length)), .ref b1, .int (nI bl), .ref b2, .ref b3, .int (nI jn), .int (nI sn), .ref b4, .ref b5, .ref b6, .ref b7, .ref b8, .int (nI wt), .int (nI wm), .int (nI wg), .long (lN wo), .int (nI wd), .ref b9])), (b1, .inl (cJ, 14000, .inr (.inl (fun j => lN (nd0 j))))), (a4, .inl (cI, 25, .inl sz)), (a5, .inl (cI, 25, .inl lf)), (a6, .inl (cI, 25, .inl rt)), (a9, .inl (cI, 25, .inl (fun j => nI (kp j)))), (b2, .inl (cI, 256, .inl (fun j => nI (ba j)))), (b3, .inl (cI, 256, .inl (fun j => nI (rv j))))] (S := Unit) (fun r _ => r = if v2 = nI 0 then nI (cls tp L R y) else if v2 = nI 1 then nI (rq0 y) else nI (dep y)) (fun u => [(rm, .inr (4, [.int (nI 0), .ref a1, .ref a2, .ref a3, .ref a4, .ref a5, .ref a6, .ref a7, .ref a8, .ref a9, .int (nI tp), .int (nI ((lvs sp0 1).length)), .ref b1, .int (nI bl), .ref b2, .ref b3, .int (nI jn), .int (nI sn), .ref b4, .ref b5, .ref b6, .ref b7, .ref b8, .int (nI wt), .int (nI wm), .int (nI wg), .long (lN wo), .int (nI wd), .ref b9])), (b1, .inl (cJ, 14000, .inr (.inl (fun j => lN (nd0 j))))), (a4, .inl (cI, 25, .inl sz)), (a5, .inl (cI, 25, .inl lf)), (a6, .inl (cI, 25, .inl rt)), (a9, .inl (cI, 25, .inl (fun j => nI (kp j)))), (b2, .inl (cI, 256, .inl (fun j => nI (ba j)))), (b3, .inl (cI, 256, .inl (fun j => nI (rv j))))]) 0 0 := by
  intro sz
  refine Met.ofW (cc := cX4_block) (maxL := 5) (ret := (some .int)) (by decide) rfl ?_
  intro p e s m args below meth c s₁ B hml hv
  obtain ⟨rfl, hsz, hP, hk, hD0⟩ := hv
  subst hsz
  have hx := B.exec
  have hb := B.bytes
  have hr := B.returns
  have hts := atoms_spec (ws := wsX4_block) B.pre
  have hown : s.vm.findClass RX4 = some m.cls := findClass_of_methodNamed B.named
  have hlocks := B.notSynchronized
  have hK := hk.1
  have hinX4 : ∀ w ∈ wsX40, w ∈ wsX4_block := by decide +kernel
  obtain ⟨A, hAe⟩ : ∃ A, va_A [(rm, .inr (4, [.int (nI cd), .ref a1, .ref a2, .ref a3, .ref a4, .ref a5, .ref a6, .ref a7, .ref a8, .ref a9, .int (nI tp), .int (nI ((lvs sp0 1).length)), .ref b1, .int (nI bl), .ref b2, .ref b3, .int (nI jn), .int (nI sn), .ref b4, .ref b5, .ref b6, .ref b7, .ref b8, .int (nI wt), .int (nI wm), .int (nI wg), .long (lN wo), .int (nI wd), .ref b9])), (b1, .inl (cJ, 14000, .inr (.inl (fun j => lN (nd0 j))))), (a4, .inl (cI, 25, .inl sz)), (a5, .inl (cI, 25, .inl lf)), (a6, .inl (cI, 25, .inl rt)), (a9, .inl (cI, 25, .inl (fun j => nI (kp j)))), (b2, .inl (cI, 256, .inl (fun j => nI (ba j)))), (b3, .inl (cI, 256, .inl (fun j => nI (rv j))))] s.heap.size = A := ⟨_, rfl⟩
  have hD := hD0.self (sz := s.heap.size)
  rw [hAe] at hD
  have hA : ∀ q : Nat, s.heap.size ≤ q → A q := fun q h => by rw [← hAe]; exact Or.inr h
  have hS : va_S A s.heap s.heap [] := va_S.rf
  have hl := lv_entry ([.ref rm, .int (nI (adr tp S L R y)), .int v2]) (n := 5) (Nat.le_of_ble_eq_true rfl)
  rw [lg_entry_eq]
  generalize (lg_sl ([.ref rm, .int (nI (adr tp S L R y)), .int v2]) ++ List.replicate (5 - (lg_sl ([.ref rm, .int (nI (adr tp S L R y)), .int v2])).length) Slot.unset).toArray = ls at hl ⊢
  have hl : lv_has ls 5 [(0, .ref rm), (1, .int (nI (adr tp S L R y))), (2, .int v2)] := hl
  obtain ⟨b0, hb0, hb2, hb3, hb4, hba, hbr⟩ := bW_y hR hT0 hB hry
  have hyl := hT0.2 y hry
  have hyx := hyl.1
  obtain ⟨iy, hiy0⟩ : ∃ iy, plc (lvs sp0 1) y = iy := ⟨_, rfl⟩
  have hiy := plc_mem (lvs_all hR hT0 hyx hyl.2.1)
  rw [hiy0] at hiy
  have hil := at_lt hiy
  obtain ⟨pp, pp_1, pp_2, pp_3, pp_4, pp_5, pp_6, pp_7, pp_8, pp_9, pp_10⟩ := nW_rd (i := iy) hR hT0 hW0 hlen0 hil
  obtain rfl : y = pp := by rw [hiy] at pp_1; exact Option.some.inj pp_1
  have hck := cls_ok hR hT0 hyx
  have hrk := rl_kids hR hrl hck.1
  have hya := adr_lt hR hT0 hyx
  have hyd := sid_b hR hT0 hyx
  refine lv_aload_n hx hb dX4_block_0 rfl (lv_at hl 0 rfl) ?_
  refine k_goI (wr := [(b1, .inl (cJ, 14000, .inr (.inl (fun j => lN (nd0 j))))), (a4, .inl (cI, 25, .inl sz)), (a5, .inl (cI, 25, .inl lf)), (a6, .inl (cI, 25, .inl rt)), (a9, .inl (cI, 25, .inl (fun j => nI (kp j)))), (b2, .inl (cI, 256, .inl (fun j => nI (ba j)))), (b3, .inl (cI, 256, .inl (fun j => nI (rv j))))]) (va_runV (As := []) (rest := []) ⟨hx, hb, hml, hown, hts⟩ (c_X4_isThere l g cI cJ cZ rm a1 a2 a3 a4 a5 a6 a7 a8 a9 b1 b2 b3 b4 b5 b6 b7 b8 b9 cd tp ((lvs sp0 1).length) bl jn sn wt wm wg wo wd  htp _) (cwV 0 hts gX4_block_X4_isThere rfl rfl rfl (by decide +kernel) ⟨Nat.le_of_ble_eq_true rfl, Nat.le_of_ble_eq_true rfl⟩) (k_preV hk hP hD [0] rfl rfl (ci := 4) (q0 := 0) rfl rfl) rfl rfl hl.1 rfl (lv_room (Nat.le_of_ble_eq_true rfl)) dX4_block_1 ⟨by first | exact Nat.zero_le _ | omega, by first | exact Nat.zero_le _ | omega⟩) hP hD hS hA [0] [1, 2, 3, 4, 5, 6, 7] rfl rfl rfl (by decide) (fun rv _ H locs hu hP hD hS => ?_)
  subst hu
  have hP : va_P g vwCl [(b1, .inl (cJ, 14000, .inr (.inl (fun j => lN (nd0 j))))), (a4, .inl (cI, 25, .inl sz)), (a5, .inl (cI, 25, .inl lf)), (a6, .inl (cI, 25, .inl rt)), (a9, .inl (cI, 25, .inl (fun j => nI (kp j)))), (b2, .inl (cI, 256, .inl (fun j => nI (ba j)))), (b3, .inl (cI, 256, .inl (fun j => nI (rv j)))), (rm, .inr (4, [.int (nI 0), .ref a1, .ref a2, .ref a3, .ref a4, .ref a5, .ref a6, .ref a7, .ref a8, .ref a9, .int (nI tp), .int (nI ((lvs sp0 1).length)), .ref b1, .int (nI bl), .ref b2, .ref b3, .int (nI jn), .int (nI sn), .ref b4, .ref b5, .ref b6, .ref b7, .ref b8, .int (nI wt), .int (nI wm), .int (nI wg), .long (lN wo), .int (nI wd), .ref b9]))] H := hP
  have hD : va_D A [(b1, .inl (cJ, 14000, .inr (.inl (fun j => lN (nd0 j))))), (a4, .inl (cI, 25, .inl sz)), (a5, .inl (cI, 25, .inl lf)), (a6, .inl (cI, 25, .inl rt)), (a9, .inl (cI, 25, .inl (fun j => nI (kp j)))), (b2, .inl (cI, 256, .inl (fun j => nI (ba j)))), (b3, .inl (cI, 256, .inl (fun j => nI (rv j)))), (rm, .inr (4, [.int (nI 0), .ref a1, .ref a2, .ref a3, .ref a4, .ref a5, .ref a6, .ref a7, .ref a8, .ref a9, .int (nI tp), .int (nI ((lvs sp0 1).length)), .ref b1, .int (nI bl), .ref b2, .ref b3, .int (nI jn), .int (nI sn), .ref b4, .ref b5, .ref b6, .ref b7, .ref b8, .int (nI wt), .int (nI wm), .int (nI wg), .long (lN wo), .int (nI wd), .ref b9]))] := hD
  refine n_if_ne (tgt := 9) hx hb dX4_block_4 (by decide) (by first | assumption | omega) (fun c1 => ?_) (fun c1 => ?_)
  · skip
    refine lv_aload_n hx hb dX4_block_9 rfl (lv_at hl 0 rfl) ?_
    refine lv_iload_n hx hb dX4_block_10 rfl (lv_at hl 1 rfl) ?_
    refine k_goR (W.runV (As := [.int (nI (adr tp S L R y))]) (rest := []) ⟨hx, hb, hml, hown, hts⟩ (c_X4_blockOf l g cI cJ cZ rm a1 a2 a3 a4 a5 a6 a7 a8 a9 b1 b2 b3 b4 b5 b6 b7 b8 b9 0 tp ((lvs sp0 1).length) bl jn sn wt wm wg wo wd ba (nI (adr tp S L R y)) b0 hbl hb0 hb3 hb4) (cwV 1 hts gX4_block_X4_blockOf rfl rfl rfl (by decide +kernel) ⟨Nat.le_of_ble_eq_true rfl, Nat.le_of_ble_eq_true rfl⟩) (k_preRV hk hP [7, 5] rfl (ci := 4) (q0 := 0) rfl rfl) rfl rfl hl.1 rfl (lv_room (Nat.le_of_ble_eq_true rfl)) dX4_block_11 ⟨by first | exact Nat.zero_le _ | omega, by first | exact Nat.zero_le _ | omega⟩) ?_
    refine lv_istore_n (lv' := [(3, .int (nI b0)), (0, .ref rm), (1, .int (nI (adr tp S L R y))), (2, .int v2)]) hx hb dX4_block_14 rfl hl (by decide) rfl (fun ls hl => ?_)
    refine lv_iload_n hx hb dX4_block_15 rfl (lv_at hl 0 rfl) ?_
    refine n_if_lt (tgt := 31) hx hb dX4_block_16 (by decide) (by first | assumption | omega) ?_
    refine lv_iload_n hx hb dX4_block_19 rfl (lv_at hl 3 rfl) ?_
    refine lv_i2l hx hb dX4_block_20 rfl ?_
    refine lv_lconst (v := lN 0) hx hb dX4_block_21 (by decide) ?_
    refine lv_ldc2 hx hb (v := 2) hown (hts (.constantLong RX4 76 2) (by decide +kernel)) dX4_block_22 ?_
    refine n_topl _ (lN 2) (by decide) ?_
    refine k_goR (W.runS (As := [.long ((v2).toInt64), .long (lN 0), .long (lN 2)]) (rest := []) ⟨hx, hb, hml, hown, hts⟩ (c_X4_in l g cI cJ cZ  (v2).toInt64 (lN 0) (lN 2) ) (va_cwS 3 hts gX4_block_X4_in rfl rfl rfl (by decide +kernel) ⟨Nat.le_of_ble_eq_true rfl, Nat.le_of_ble_eq_true rfl⟩) (k_preRS hk hP [] rfl) rfl rfl hl.1 rfl (lv_room (Nat.le_of_ble_eq_true rfl)) dX4_block_25 ⟨by first | exact Nat.zero_le _ | omega, by first | exact Nat.zero_le _ | omega⟩) ?_
    refine n_top _ (bI (nI 0 ≤ v2 ∧ v2 ≤ nI 2)) (bI_c (in_i (by decide) (by decide))) ?_
    refine k_ifne (tgt := 37) hx hb dX4_block_28 (by decide) (fun c3 => ?_) (fun c3 => ?_)
    · skip
      refine lv_aload_n hx hb dX4_block_37 rfl (lv_at hl 1 rfl) ?_
      refine lv_iload_n hx hb dX4_block_38 rfl (lv_at hl 2 rfl) ?_
      refine k_goR (W.runV (As := [.int (nI (adr tp S L R y))]) (rest := []) ⟨hx, hb, hml, hown, hts⟩ (c_X4_nodeAt l g cI cJ cZ rm a1 a2 a3 a4 a5 a6 a7 a8 a9 b1 b2 b3 b4 b5 b6 b7 b8 b9 0 tp bl jn sn wt wm wg wo wd S L R rc sp0 rq0 nd0 y iy hR hT0 hW0 hlen0 hiy) (cwV 1 hts gX4_block_X4_nodeAt rfl rfl rfl (by decide +kernel) ⟨Nat.le_of_ble_eq_true rfl, Nat.le_of_ble_eq_true rfl⟩) (k_preRV hk hP [7, 0] rfl (ci := 4) (q0 := 0) rfl rfl) rfl rfl hl.1 rfl (lv_room (Nat.le_of_ble_eq_true rfl)) dX4_block_39 ⟨by first | exact Nat.zero_le _ | omega, by first | exact Nat.zero_le _ | omega⟩) ?_
      refine lv_istore (lv' := [(4, .int (nI iy)), (3, .int (nI b0)), (0, .ref rm), (1, .int (nI (adr tp S L R y))), (2, .int v2)]) hx hb dX4_block_42 hl (by decide) rfl (fun ls hl => ?_)
      refine lv_iload_n hx hb dX4_block_44 rfl (lv_at hl 4 rfl) ?_
      refine lv_if_ne (tgt := 57) hx hb dX4_block_45 (by decide) (fun c4 => ?_) (fun c4 => ?_)
      · skip
        refine lv_iload_n hx hb dX4_block_57 rfl (lv_at hl 4 rfl) ?_
        refine lv_iconst (v := nI 1) hx hb dX4_block_58 (by decide) ?_
        refine lv_icmp_ne (tgt := 71) hx hb dX4_block_59 (by decide) (fun c5 => ?_) (fun c5 => ?_)
        · skip
          refine lv_aload_n hx hb dX4_block_71 rfl (lv_at hl 2 rfl) ?_
          refine lv_iload hx hb dX4_block_72 (lv_at hl 0 rfl) ?_
          refine k_goR (W.runV (As := [.int (nI iy)]) (rest := []) ⟨hx, hb, hml, hown, hts⟩ (c_X4_depth l g cI cJ cZ rm a1 a2 a3 a4 a5 a6 a7 a8 a9 b1 b2 b3 b4 b5 b6 b7 b8 b9 0 tp ((lvs sp0 1).length) bl jn sn wt wm wg wo wd nd0 iy pp_4 pp_5) (cwV 1 hts gX4_block_X4_depth rfl rfl rfl (by decide +kernel) ⟨Nat.le_of_ble_eq_true rfl, Nat.le_of_ble_eq_true rfl⟩) (k_preRV hk hP [7, 0] rfl (ci := 4) (q0 := 0) rfl rfl) rfl rfl hl.1 rfl (lv_room (Nat.le_of_ble_eq_true rfl)) dX4_block_74 ⟨by first | exact Nat.zero_le _ | omega, by first | exact Nat.zero_le _ | omega⟩) ?_
          refine n_top _ (nI (dep y)) (congrArg nI pp_9) ?_
          have hP := hP.sub (ws' := [(rm, .inr (4, [.int (nI 0), .ref a1, .ref a2, .ref a3, .ref a4, .ref a5, .ref a6, .ref a7, .ref a8, .ref a9, .int (nI tp), .int (nI ((lvs sp0 1).length)), .ref b1, .int (nI bl), .ref b2, .ref b3, .int (nI jn), .int (nI sn), .ref b4, .ref b5, .ref b6, .ref b7, .ref b8, .int (nI wt), .int (nI wm), .int (nI wg), .long (lN wo), .int (nI wd), .ref b9])), (b1, .inl (cJ, 14000, .inr (.inl (fun j => lN (nd0 j))))), (a4, .inl (cI, 25, .inl sz)), (a5, .inl (cI, 25, .inl lf)), (a6, .inl (cI, 25, .inl rt)), (a9, .inl (cI, 25, .inl (fun j => nI (kp j)))), (b2, .inl (cI, 256, .inl (fun j => nI (ba j)))), (b3, .inl (cI, 256, .inl (fun j => nI (rv j))))]) [7, 0, 1, 2, 3, 4, 5, 6] rfl
          have hD := hD.sub (ws' := [(rm, .inr (4, [.int (nI 0), .ref a1, .ref a2, .ref a3, .ref a4, .ref a5, .ref a6, .ref a7, .ref a8, .ref a9, .int (nI tp), .int (nI ((lvs sp0 1).length)), .ref b1, .int (nI bl), .ref b2, .ref b3, .int (nI jn), .int (nI sn), .ref b4, .ref b5, .ref b6, .ref b7, .ref b8, .int (nI wt), .int (nI wm), .int (nI wg), .long (lN wo), .int (nI wd), .ref b9])), (b1, .inl (cJ, 14000, .inr (.inl (fun j => lN (nd0 j))))), (a4, .inl (cI, 25, .inl sz)), (a5, .inl (cI, 25, .inl lf)), (a6, .inl (cI, 25, .inl rt)), (a9, .inl (cI, 25, .inl (fun j => nI (kp j)))), (b2, .inl (cI, 256, .inl (fun j => nI (ba j)))), (b3, .inl (cI, 256, .inl (fun j => nI (rv j))))]) [7, 0, 1, 2, 3, 4, 5, 6] rfl rfl
          refine W.widen (k := 0) (n := 0) (by first | exact Nat.le_refl _ | omega) (by first | exact Nat.le_refl _ | omega) ?_
          exact k_retI (sz := 0) (v := nI (dep y)) hx hb hr hlocks hAe hS hP hD () (rfl) (by rw [if_neg (by rw [nI_0]; exact c4), if_neg c5]) dX4_block_77
        · skip
          refine lv_aload_n hx hb dX4_block_62 rfl (lv_at hl 2 rfl) ?_
          refine va_get (D := g) (ci := 4) (v := .ref b3) (C := RX4) (T := TX4) (N := 29) hx hb hts hinX4 hown hK hP 7 rfl rfl 15 (by decide) (hts (.fieldLink RX4 45 "BuddyRoofModel" "request" "[I") (by decide +kernel)) (fun _ h9 => h9) rfl dX4_block_63 ?_
          refine lv_iload_n hx hb dX4_block_66 rfl (lv_at hl 1 rfl) ?_
          refine n_ald (v := nI (rq0 y)) hx hb hK hP 6 0 rfl rfl (i := b0) (by omega) (by decide) (by rw [hbr]) dX4_block_67 ?_
          refine lv_goto (tgt := 77) hx hb dX4_block_68 (by decide) ?_
          have hP := hP.sub (ws' := [(rm, .inr (4, [.int (nI 0), .ref a1, .ref a2, .ref a3, .ref a4, .ref a5, .ref a6, .ref a7, .ref a8, .ref a9, .int (nI tp), .int (nI ((lvs sp0 1).length)), .ref b1, .int (nI bl), .ref b2, .ref b3, .int (nI jn), .int (nI sn), .ref b4, .ref b5, .ref b6, .ref b7, .ref b8, .int (nI wt), .int (nI wm), .int (nI wg), .long (lN wo), .int (nI wd), .ref b9])), (b1, .inl (cJ, 14000, .inr (.inl (fun j => lN (nd0 j))))), (a4, .inl (cI, 25, .inl sz)), (a5, .inl (cI, 25, .inl lf)), (a6, .inl (cI, 25, .inl rt)), (a9, .inl (cI, 25, .inl (fun j => nI (kp j)))), (b2, .inl (cI, 256, .inl (fun j => nI (ba j)))), (b3, .inl (cI, 256, .inl (fun j => nI (rv j))))]) [7, 0, 1, 2, 3, 4, 5, 6] rfl
          have hD := hD.sub (ws' := [(rm, .inr (4, [.int (nI 0), .ref a1, .ref a2, .ref a3, .ref a4, .ref a5, .ref a6, .ref a7, .ref a8, .ref a9, .int (nI tp), .int (nI ((lvs sp0 1).length)), .ref b1, .int (nI bl), .ref b2, .ref b3, .int (nI jn), .int (nI sn), .ref b4, .ref b5, .ref b6, .ref b7, .ref b8, .int (nI wt), .int (nI wm), .int (nI wg), .long (lN wo), .int (nI wd), .ref b9])), (b1, .inl (cJ, 14000, .inr (.inl (fun j => lN (nd0 j))))), (a4, .inl (cI, 25, .inl sz)), (a5, .inl (cI, 25, .inl lf)), (a6, .inl (cI, 25, .inl rt)), (a9, .inl (cI, 25, .inl (fun j => nI (kp j)))), (b2, .inl (cI, 256, .inl (fun j => nI (ba j)))), (b3, .inl (cI, 256, .inl (fun j => nI (rv j))))]) [7, 0, 1, 2, 3, 4, 5, 6] rfl rfl
          refine W.widen (k := 0) (n := 0) (by first | exact Nat.le_refl _ | omega) (by first | exact Nat.le_refl _ | omega) ?_
          exact k_retI (sz := 0) (v := nI (rq0 y)) hx hb hr hlocks hAe hS hP hD () (rfl) (by rw [if_neg (by rw [nI_0]; exact c4), if_pos c5]) dX4_block_77
      · skip
        refine lv_aload_n hx hb dX4_block_48 rfl (lv_at hl 2 rfl) ?_
        refine lv_iload hx hb dX4_block_49 (lv_at hl 0 rfl) ?_
        refine k_goR (W.runV (As := [.int (nI iy)]) (rest := []) ⟨hx, hb, hml, hown, hts⟩ (c_X4_classOf l g cI cJ cZ rm a1 a2 a3 a4 a5 a6 a7 a8 a9 b1 b2 b3 b4 b5 b6 b7 b8 b9 0 tp ((lvs sp0 1).length) bl jn sn wt wm wg wo wd nd0 iy pp_4 pp_5) (cwV 1 hts gX4_block_X4_classOf rfl rfl rfl (by decide +kernel) ⟨Nat.le_of_ble_eq_true rfl, Nat.le_of_ble_eq_true rfl⟩) (k_preRV hk hP [7, 0] rfl (ci := 4) (q0 := 0) rfl rfl) rfl rfl hl.1 rfl (lv_room (Nat.le_of_ble_eq_true rfl)) dX4_block_51 ⟨by first | exact Nat.zero_le _ | omega, by first | exact Nat.zero_le _ | omega⟩) ?_
        refine n_top _ (nI (cls tp L R y)) (congrArg nI pp_8) ?_
        refine lv_goto (tgt := 77) hx hb dX4_block_54 (by decide) ?_
        have hP := hP.sub (ws' := [(rm, .inr (4, [.int (nI 0), .ref a1, .ref a2, .ref a3, .ref a4, .ref a5, .ref a6, .ref a7, .ref a8, .ref a9, .int (nI tp), .int (nI ((lvs sp0 1).length)), .ref b1, .int (nI bl), .ref b2, .ref b3, .int (nI jn), .int (nI sn), .ref b4, .ref b5, .ref b6, .ref b7, .ref b8, .int (nI wt), .int (nI wm), .int (nI wg), .long (lN wo), .int (nI wd), .ref b9])), (b1, .inl (cJ, 14000, .inr (.inl (fun j => lN (nd0 j))))), (a4, .inl (cI, 25, .inl sz)), (a5, .inl (cI, 25, .inl lf)), (a6, .inl (cI, 25, .inl rt)), (a9, .inl (cI, 25, .inl (fun j => nI (kp j)))), (b2, .inl (cI, 256, .inl (fun j => nI (ba j)))), (b3, .inl (cI, 256, .inl (fun j => nI (rv j))))]) [7, 0, 1, 2, 3, 4, 5, 6] rfl
        have hD := hD.sub (ws' := [(rm, .inr (4, [.int (nI 0), .ref a1, .ref a2, .ref a3, .ref a4, .ref a5, .ref a6, .ref a7, .ref a8, .ref a9, .int (nI tp), .int (nI ((lvs sp0 1).length)), .ref b1, .int (nI bl), .ref b2, .ref b3, .int (nI jn), .int (nI sn), .ref b4, .ref b5, .ref b6, .ref b7, .ref b8, .int (nI wt), .int (nI wm), .int (nI wg), .long (lN wo), .int (nI wd), .ref b9])), (b1, .inl (cJ, 14000, .inr (.inl (fun j => lN (nd0 j))))), (a4, .inl (cI, 25, .inl sz)), (a5, .inl (cI, 25, .inl lf)), (a6, .inl (cI, 25, .inl rt)), (a9, .inl (cI, 25, .inl (fun j => nI (kp j)))), (b2, .inl (cI, 256, .inl (fun j => nI (ba j)))), (b3, .inl (cI, 256, .inl (fun j => nI (rv j))))]) [7, 0, 1, 2, 3, 4, 5, 6] rfl rfl
        refine W.widen (k := 0) (n := 0) (by first | exact Nat.le_refl _ | omega) (by first | exact Nat.le_refl _ | omega) ?_
        exact k_retI (sz := 0) (v := nI (cls tp L R y)) hx hb hr hlocks hAe hS hP hD () (rfl) (by rw [if_pos (by rw [nI_0]; exact c4)]) dX4_block_77
    · exact (by rcases hv2 with q | q | q <;> exact absurd (by rw [q]; decide) c3)
  · exact (by exact absurd c1 (by decide))
set_option maxHeartbeats 4000000 in
set_option maxRecDepth 100000 in
theorem c_X4_block_n (l : Launch) (g : va_G) (cI cJ cZ : ClassId) (rm a1 a2 a3 a4 a5 a6 a7 a8 a9 b1 b2 b3 b4 b5 b6 b7 b8 b9 : Nat) (cd tp mn bl jn sn wt wm wg wo wd : Nat) (ba : Nat → Nat) (v v2 : Int32) (htp : 0 < tp ∧ tp < 2 ^ 31) (hbl : bl ≤ 256) (hbn : ∀ j, j < bl → ¬ nI (ba j) = v) : kI l g (kty cI cJ cZ) yX4_block wsX4_block ({ frames := 1, cells := 0, slots := 0, locals := 22 }) [.ref rm, .int v, .int v2] [(rm, .inr (4, [.int (nI cd), .ref a1, .ref a2, .ref a3, .ref a4, .ref a5, .ref a6, .ref a7, .ref a8, .ref a9, .int (nI tp), .int (nI mn), .ref b1, .int (nI bl), .ref b2, .ref b3, .int (nI jn), .int (nI sn), .ref b4, .ref b5, .ref b6, .ref b7, .ref b8, .int (nI wt), .int (nI wm), .int (nI wg), .long (lN wo), .int (nI wd), .ref b9])), (b2, .inl (cI, 256, .inl (fun j => nI (ba j))))] (S := Unit) (fun r _ => r = nI 0) (fun u => [(rm, .inr (4, [.int (nI 2), .ref a1, .ref a2, .ref a3, .ref a4, .ref a5, .ref a6, .ref a7, .ref a8, .ref a9, .int (nI tp), .int (nI mn), .ref b1, .int (nI bl), .ref b2, .ref b3, .int (nI jn), .int (nI sn), .ref b4, .ref b5, .ref b6, .ref b7, .ref b8, .int (nI wt), .int (nI wm), .int (nI wg), .long (lN wo), .int (nI wd), .ref b9])), (b2, .inl (cI, 256, .inl (fun j => nI (ba j))))]) 0 0 := by
  intro sz
  refine Met.ofW (cc := cX4_block) (maxL := 5) (ret := (some .int)) (by decide) rfl ?_
  intro p e s m args below meth c s₁ B hml hv
  obtain ⟨rfl, hsz, hP, hk, hD0⟩ := hv
  subst hsz
  have hx := B.exec
  have hb := B.bytes
  have hr := B.returns
  have hts := atoms_spec (ws := wsX4_block) B.pre
  have hown : s.vm.findClass RX4 = some m.cls := findClass_of_methodNamed B.named
  have hlocks := B.notSynchronized
  have hK := hk.1
  obtain ⟨A, hAe⟩ : ∃ A, va_A [(rm, .inr (4, [.int (nI cd), .ref a1, .ref a2, .ref a3, .ref a4, .ref a5, .ref a6, .ref a7, .ref a8, .ref a9, .int (nI tp), .int (nI mn), .ref b1, .int (nI bl), .ref b2, .ref b3, .int (nI jn), .int (nI sn), .ref b4, .ref b5, .ref b6, .ref b7, .ref b8, .int (nI wt), .int (nI wm), .int (nI wg), .long (lN wo), .int (nI wd), .ref b9])), (b2, .inl (cI, 256, .inl (fun j => nI (ba j))))] s.heap.size = A := ⟨_, rfl⟩
  have hD := hD0.self (sz := s.heap.size)
  rw [hAe] at hD
  have hA : ∀ q : Nat, s.heap.size ≤ q → A q := fun q h => by rw [← hAe]; exact Or.inr h
  have hS : va_S A s.heap s.heap [] := va_S.rf
  have hl := lv_entry ([.ref rm, .int v, .int v2]) (n := 5) (Nat.le_of_ble_eq_true rfl)
  rw [lg_entry_eq]
  generalize (lg_sl ([.ref rm, .int v, .int v2]) ++ List.replicate (5 - (lg_sl ([.ref rm, .int v, .int v2])).length) Slot.unset).toArray = ls at hl ⊢
  have hl : lv_has ls 5 [(0, .ref rm), (1, .int v), (2, .int v2)] := hl
  refine lv_aload_n hx hb dX4_block_0 rfl (lv_at hl 0 rfl) ?_
  refine k_goI (wr := [(b2, .inl (cI, 256, .inl (fun j => nI (ba j))))]) (va_runV (As := []) (rest := []) ⟨hx, hb, hml, hown, hts⟩ (c_X4_isThere l g cI cJ cZ rm a1 a2 a3 a4 a5 a6 a7 a8 a9 b1 b2 b3 b4 b5 b6 b7 b8 b9 cd tp mn bl jn sn wt wm wg wo wd  htp _) (cwV 0 hts gX4_block_X4_isThere rfl rfl rfl (by decide +kernel) ⟨Nat.le_of_ble_eq_true rfl, Nat.le_of_ble_eq_true rfl⟩) (k_preV hk hP hD [0] rfl rfl (ci := 4) (q0 := 0) rfl rfl) rfl rfl hl.1 rfl (lv_room (Nat.le_of_ble_eq_true rfl)) dX4_block_1 ⟨by first | exact Nat.zero_le _ | omega, by first | exact Nat.zero_le _ | omega⟩) hP hD hS hA [0] [1] rfl rfl rfl (by decide) (fun rv _ H locs hu hP hD hS => ?_)
  subst hu
  have hP : va_P g vwCl [(b2, .inl (cI, 256, .inl (fun j => nI (ba j)))), (rm, .inr (4, [.int (nI 0), .ref a1, .ref a2, .ref a3, .ref a4, .ref a5, .ref a6, .ref a7, .ref a8, .ref a9, .int (nI tp), .int (nI mn), .ref b1, .int (nI bl), .ref b2, .ref b3, .int (nI jn), .int (nI sn), .ref b4, .ref b5, .ref b6, .ref b7, .ref b8, .int (nI wt), .int (nI wm), .int (nI wg), .long (lN wo), .int (nI wd), .ref b9]))] H := hP
  have hD : va_D A [(b2, .inl (cI, 256, .inl (fun j => nI (ba j)))), (rm, .inr (4, [.int (nI 0), .ref a1, .ref a2, .ref a3, .ref a4, .ref a5, .ref a6, .ref a7, .ref a8, .ref a9, .int (nI tp), .int (nI mn), .ref b1, .int (nI bl), .ref b2, .ref b3, .int (nI jn), .int (nI sn), .ref b4, .ref b5, .ref b6, .ref b7, .ref b8, .int (nI wt), .int (nI wm), .int (nI wg), .long (lN wo), .int (nI wd), .ref b9]))] := hD
  refine n_if_ne (tgt := 9) hx hb dX4_block_4 (by decide) (by first | assumption | omega) (fun c1 => ?_) (fun c1 => ?_)
  · skip
    refine lv_aload_n hx hb dX4_block_9 rfl (lv_at hl 0 rfl) ?_
    refine lv_iload_n hx hb dX4_block_10 rfl (lv_at hl 1 rfl) ?_
    refine k_goR (W.runV (As := [.int v]) (rest := []) ⟨hx, hb, hml, hown, hts⟩ (c_X4_blockOf_n l g cI cJ cZ rm a1 a2 a3 a4 a5 a6 a7 a8 a9 b1 b2 b3 b4 b5 b6 b7 b8 b9 0 tp mn bl jn sn wt wm wg wo wd ba v hbl hbn) (cwV 1 hts gX4_block_X4_blockOf rfl rfl rfl (by decide +kernel) ⟨Nat.le_of_ble_eq_true rfl, Nat.le_of_ble_eq_true rfl⟩) (k_preRV hk hP [1, 0] rfl (ci := 4) (q0 := 0) rfl rfl) rfl rfl hl.1 rfl (lv_room (Nat.le_of_ble_eq_true rfl)) dX4_block_11 ⟨by first | exact Nat.zero_le _ | omega, by first | exact Nat.zero_le _ | omega⟩) ?_
    refine lv_istore_n (lv' := [(3, .int (-1)), (0, .ref rm), (1, .int v), (2, .int v2)]) hx hb dX4_block_14 rfl hl (by decide) rfl (fun ls hl => ?_)
    refine lv_iload_n hx hb dX4_block_15 rfl (lv_at hl 0 rfl) ?_
    refine lv_if_lt (tgt := 31) hx hb dX4_block_16 (by decide) (fun c2 => ?_) (fun c2 => ?_)
    · skip
      refine lv_aload_n hx hb dX4_block_31 rfl (lv_at hl 1 rfl) ?_
      refine lv_iconst (v := nI 2) hx hb dX4_block_32 (by decide) ?_
      refine k_goI (wr := [(b2, .inl (cI, 256, .inl (fun j => nI (ba j))))]) (va_runV (As := [.int (nI 2)]) (rest := []) ⟨hx, hb, hml, hown, hts⟩ (c_X4_raise l g cI cJ cZ rm a1 a2 a3 a4 a5 a6 a7 a8 a9 b1 b2 b3 b4 b5 b6 b7 b8 b9 0 tp mn bl jn sn wt wm wg wo wd 2  _) (cwV 1 hts gX4_block_X4_raise rfl rfl rfl (by decide +kernel) ⟨Nat.le_of_ble_eq_true rfl, Nat.le_of_ble_eq_true rfl⟩) (k_preV hk hP hD [1] rfl rfl (ci := 4) (q0 := 0) rfl rfl) rfl rfl hl.1 rfl (lv_room (Nat.le_of_ble_eq_true rfl)) dX4_block_33 ⟨by first | exact Nat.zero_le _ | omega, by first | exact Nat.zero_le _ | omega⟩) hP hD hS hA [1] [0] rfl rfl rfl (by decide) (fun rv _ H locs hu hP hD hS => ?_)
      subst hu
      have hP : va_P g vwCl [(b2, .inl (cI, 256, .inl (fun j => nI (ba j)))), (rm, .inr (4, [.int (nI 2), .ref a1, .ref a2, .ref a3, .ref a4, .ref a5, .ref a6, .ref a7, .ref a8, .ref a9, .int (nI tp), .int (nI mn), .ref b1, .int (nI bl), .ref b2, .ref b3, .int (nI jn), .int (nI sn), .ref b4, .ref b5, .ref b6, .ref b7, .ref b8, .int (nI wt), .int (nI wm), .int (nI wg), .long (lN wo), .int (nI wd), .ref b9]))] H := hP
      have hD : va_D A [(b2, .inl (cI, 256, .inl (fun j => nI (ba j)))), (rm, .inr (4, [.int (nI 2), .ref a1, .ref a2, .ref a3, .ref a4, .ref a5, .ref a6, .ref a7, .ref a8, .ref a9, .int (nI tp), .int (nI mn), .ref b1, .int (nI bl), .ref b2, .ref b3, .int (nI jn), .int (nI sn), .ref b4, .ref b5, .ref b6, .ref b7, .ref b8, .int (nI wt), .int (nI wm), .int (nI wg), .long (lN wo), .int (nI wd), .ref b9]))] := hD
      have hP := hP.sub (ws' := [(rm, .inr (4, [.int (nI 2), .ref a1, .ref a2, .ref a3, .ref a4, .ref a5, .ref a6, .ref a7, .ref a8, .ref a9, .int (nI tp), .int (nI mn), .ref b1, .int (nI bl), .ref b2, .ref b3, .int (nI jn), .int (nI sn), .ref b4, .ref b5, .ref b6, .ref b7, .ref b8, .int (nI wt), .int (nI wm), .int (nI wg), .long (lN wo), .int (nI wd), .ref b9])), (b2, .inl (cI, 256, .inl (fun j => nI (ba j))))]) [1, 0] rfl
      have hD := hD.sub (ws' := [(rm, .inr (4, [.int (nI 2), .ref a1, .ref a2, .ref a3, .ref a4, .ref a5, .ref a6, .ref a7, .ref a8, .ref a9, .int (nI tp), .int (nI mn), .ref b1, .int (nI bl), .ref b2, .ref b3, .int (nI jn), .int (nI sn), .ref b4, .ref b5, .ref b6, .ref b7, .ref b8, .int (nI wt), .int (nI wm), .int (nI wg), .long (lN wo), .int (nI wd), .ref b9])), (b2, .inl (cI, 256, .inl (fun j => nI (ba j))))]) [1, 0] rfl rfl
      refine W.widen (k := 0) (n := 0) (by first | exact Nat.le_refl _ | omega) (by first | exact Nat.le_refl _ | omega) ?_
      exact k_retI (sz := 0) (v := nI 0) hx hb hr hlocks hAe hS hP hD () (rfl) (rfl) dX4_block_36
    · exact (by exact absurd (by decide) c2)
  · exact (by exact absurd c1 (by decide))
theorem in_02 {v : Int32} (h : ¬ v = nI 0 ∧ ¬ v = nI 1 ∧ ¬ v = nI 2) : ¬ (nI 0 ≤ v ∧ v ≤ nI 2) := fun q => by
  obtain ⟨j, hj, rfl⟩ := nI_of2 (M := nI 2) (n := 2) (by decide) (fun e => absurd (Int32.lt_of_lt_of_le e (show (0 : Int32) ≤ nI 0 by decide)) (Int32.not_lt.mpr q.1)) q.2
  rcases (show j = 0 ∨ j = 1 ∨ j = 2 by omega) with rfl | rfl | rfl
  · exact h.1 rfl
  · exact h.2.1 rfl
  · exact h.2.2 rfl
set_option maxHeartbeats 4000000 in
set_option maxRecDepth 100000 in
theorem c_X4_block_e (l : Launch) (g : va_G) (cI cJ cZ : ClassId) (rm a1 a2 a3 a4 a5 a6 a7 a8 a9 b1 b2 b3 b4 b5 b6 b7 b8 b9 : Nat) (cd tp mn bl jn sn wt wm wg wo wd : Nat) (ba : Nat → Nat) (yv b0 : Nat) (v2 : Int32) (htp : 0 < tp ∧ tp < 2 ^ 31) (hbl : bl ≤ 256) (hb0 : b0 < bl) (hb3 : nI (ba b0) = nI yv) (hb4 : ∀ j, j < b0 → ¬ nI (ba j) = nI yv) (hv2 : ¬ v2 = nI 0 ∧ ¬ v2 = nI 1 ∧ ¬ v2 = nI 2) : kI l g (kty cI cJ cZ) yX4_block wsX4_block ({ frames := 1, cells := 0, slots := 0, locals := 25 }) [.ref rm, .int (nI yv), .int v2] [(rm, .inr (4, [.int (nI cd), .ref a1, .ref a2, .ref a3, .ref a4, .ref a5, .ref a6, .ref a7, .ref a8, .ref a9, .int (nI tp), .int (nI mn), .ref b1, .int (nI bl), .ref b2, .ref b3, .int (nI jn), .int (nI sn), .ref b4, .ref b5, .ref b6, .ref b7, .ref b8, .int (nI wt), .int (nI wm), .int (nI wg), .long (lN wo), .int (nI wd), .ref b9])), (b2, .inl (cI, 256, .inl (fun j => nI (ba j))))] (S := Unit) (fun r _ => r = nI 0) (fun u => [(rm, .inr (4, [.int (nI 2), .ref a1, .ref a2, .ref a3, .ref a4, .ref a5, .ref a6, .ref a7, .ref a8, .ref a9, .int (nI tp), .int (nI mn), .ref b1, .int (nI bl), .ref b2, .ref b3, .int (nI jn), .int (nI sn), .ref b4, .ref b5, .ref b6, .ref b7, .ref b8, .int (nI wt), .int (nI wm), .int (nI wg), .long (lN wo), .int (nI wd), .ref b9])), (b2, .inl (cI, 256, .inl (fun j => nI (ba j))))]) 0 0 := by
  intro sz
  refine Met.ofW (cc := cX4_block) (maxL := 5) (ret := (some .int)) (by decide) rfl ?_
  intro p e s m args below meth c s₁ B hml hv
  obtain ⟨rfl, hsz, hP, hk, hD0⟩ := hv
  subst hsz
  have hx := B.exec
  have hb := B.bytes
  have hr := B.returns
  have hts := atoms_spec (ws := wsX4_block) B.pre
  have hown : s.vm.findClass RX4 = some m.cls := findClass_of_methodNamed B.named
  have hlocks := B.notSynchronized
  have hK := hk.1
  obtain ⟨A, hAe⟩ : ∃ A, va_A [(rm, .inr (4, [.int (nI cd), .ref a1, .ref a2, .ref a3, .ref a4, .ref a5, .ref a6, .ref a7, .ref a8, .ref a9, .int (nI tp), .int (nI mn), .ref b1, .int (nI bl), .ref b2, .ref b3, .int (nI jn), .int (nI sn), .ref b4, .ref b5, .ref b6, .ref b7, .ref b8, .int (nI wt), .int (nI wm), .int (nI wg), .long (lN wo), .int (nI wd), .ref b9])), (b2, .inl (cI, 256, .inl (fun j => nI (ba j))))] s.heap.size = A := ⟨_, rfl⟩
  have hD := hD0.self (sz := s.heap.size)
  rw [hAe] at hD
  have hA : ∀ q : Nat, s.heap.size ≤ q → A q := fun q h => by rw [← hAe]; exact Or.inr h
  have hS : va_S A s.heap s.heap [] := va_S.rf
  have hl := lv_entry ([.ref rm, .int (nI yv), .int v2]) (n := 5) (Nat.le_of_ble_eq_true rfl)
  rw [lg_entry_eq]
  generalize (lg_sl ([.ref rm, .int (nI yv), .int v2]) ++ List.replicate (5 - (lg_sl ([.ref rm, .int (nI yv), .int v2])).length) Slot.unset).toArray = ls at hl ⊢
  have hl : lv_has ls 5 [(0, .ref rm), (1, .int (nI yv)), (2, .int v2)] := hl
  refine lv_aload_n hx hb dX4_block_0 rfl (lv_at hl 0 rfl) ?_
  refine k_goI (wr := [(b2, .inl (cI, 256, .inl (fun j => nI (ba j))))]) (va_runV (As := []) (rest := []) ⟨hx, hb, hml, hown, hts⟩ (c_X4_isThere l g cI cJ cZ rm a1 a2 a3 a4 a5 a6 a7 a8 a9 b1 b2 b3 b4 b5 b6 b7 b8 b9 cd tp mn bl jn sn wt wm wg wo wd  htp _) (cwV 0 hts gX4_block_X4_isThere rfl rfl rfl (by decide +kernel) ⟨Nat.le_of_ble_eq_true rfl, Nat.le_of_ble_eq_true rfl⟩) (k_preV hk hP hD [0] rfl rfl (ci := 4) (q0 := 0) rfl rfl) rfl rfl hl.1 rfl (lv_room (Nat.le_of_ble_eq_true rfl)) dX4_block_1 ⟨by first | exact Nat.zero_le _ | omega, by first | exact Nat.zero_le _ | omega⟩) hP hD hS hA [0] [1] rfl rfl rfl (by decide) (fun rv _ H locs hu hP hD hS => ?_)
  subst hu
  have hP : va_P g vwCl [(b2, .inl (cI, 256, .inl (fun j => nI (ba j)))), (rm, .inr (4, [.int (nI 0), .ref a1, .ref a2, .ref a3, .ref a4, .ref a5, .ref a6, .ref a7, .ref a8, .ref a9, .int (nI tp), .int (nI mn), .ref b1, .int (nI bl), .ref b2, .ref b3, .int (nI jn), .int (nI sn), .ref b4, .ref b5, .ref b6, .ref b7, .ref b8, .int (nI wt), .int (nI wm), .int (nI wg), .long (lN wo), .int (nI wd), .ref b9]))] H := hP
  have hD : va_D A [(b2, .inl (cI, 256, .inl (fun j => nI (ba j)))), (rm, .inr (4, [.int (nI 0), .ref a1, .ref a2, .ref a3, .ref a4, .ref a5, .ref a6, .ref a7, .ref a8, .ref a9, .int (nI tp), .int (nI mn), .ref b1, .int (nI bl), .ref b2, .ref b3, .int (nI jn), .int (nI sn), .ref b4, .ref b5, .ref b6, .ref b7, .ref b8, .int (nI wt), .int (nI wm), .int (nI wg), .long (lN wo), .int (nI wd), .ref b9]))] := hD
  refine n_if_ne (tgt := 9) hx hb dX4_block_4 (by decide) (by first | assumption | omega) (fun c1 => ?_) (fun c1 => ?_)
  · skip
    refine lv_aload_n hx hb dX4_block_9 rfl (lv_at hl 0 rfl) ?_
    refine lv_iload_n hx hb dX4_block_10 rfl (lv_at hl 1 rfl) ?_
    refine k_goR (W.runV (As := [.int (nI yv)]) (rest := []) ⟨hx, hb, hml, hown, hts⟩ (c_X4_blockOf l g cI cJ cZ rm a1 a2 a3 a4 a5 a6 a7 a8 a9 b1 b2 b3 b4 b5 b6 b7 b8 b9 0 tp mn bl jn sn wt wm wg wo wd ba (nI yv) b0 hbl hb0 hb3 hb4) (cwV 1 hts gX4_block_X4_blockOf rfl rfl rfl (by decide +kernel) ⟨Nat.le_of_ble_eq_true rfl, Nat.le_of_ble_eq_true rfl⟩) (k_preRV hk hP [1, 0] rfl (ci := 4) (q0 := 0) rfl rfl) rfl rfl hl.1 rfl (lv_room (Nat.le_of_ble_eq_true rfl)) dX4_block_11 ⟨by first | exact Nat.zero_le _ | omega, by first | exact Nat.zero_le _ | omega⟩) ?_
    refine lv_istore_n (lv' := [(3, .int (nI b0)), (0, .ref rm), (1, .int (nI yv)), (2, .int v2)]) hx hb dX4_block_14 rfl hl (by decide) rfl (fun ls hl => ?_)
    refine lv_iload_n hx hb dX4_block_15 rfl (lv_at hl 0 rfl) ?_
    refine n_if_lt (tgt := 31) hx hb dX4_block_16 (by decide) (by first | assumption | omega) ?_
    refine lv_iload_n hx hb dX4_block_19 rfl (lv_at hl 3 rfl) ?_
    refine lv_i2l hx hb dX4_block_20 rfl ?_
    refine lv_lconst (v := lN 0) hx hb dX4_block_21 (by decide) ?_
    refine lv_ldc2 hx hb (v := 2) hown (hts (.constantLong RX4 76 2) (by decide +kernel)) dX4_block_22 ?_
    refine n_topl _ (lN 2) (by decide) ?_
    refine k_goR (W.runS (As := [.long ((v2).toInt64), .long (lN 0), .long (lN 2)]) (rest := []) ⟨hx, hb, hml, hown, hts⟩ (c_X4_in l g cI cJ cZ  (v2).toInt64 (lN 0) (lN 2) ) (va_cwS 3 hts gX4_block_X4_in rfl rfl rfl (by decide +kernel) ⟨Nat.le_of_ble_eq_true rfl, Nat.le_of_ble_eq_true rfl⟩) (k_preRS hk hP [] rfl) rfl rfl hl.1 rfl (lv_room (Nat.le_of_ble_eq_true rfl)) dX4_block_25 ⟨by first | exact Nat.zero_le _ | omega, by first | exact Nat.zero_le _ | omega⟩) ?_
    refine n_top _ (bI (nI 0 ≤ v2 ∧ v2 ≤ nI 2)) (bI_c (in_i (by decide) (by decide))) ?_
    refine k_ifne (tgt := 37) hx hb dX4_block_28 (by decide) (fun c3 => ?_) (fun c3 => ?_)
    · exact (by exact absurd c3 (in_02 hv2))
    · skip
      refine lv_aload_n hx hb dX4_block_31 rfl (lv_at hl 1 rfl) ?_
      refine lv_iconst (v := nI 2) hx hb dX4_block_32 (by decide) ?_
      refine k_goI (wr := [(b2, .inl (cI, 256, .inl (fun j => nI (ba j))))]) (va_runV (As := [.int (nI 2)]) (rest := []) ⟨hx, hb, hml, hown, hts⟩ (c_X4_raise l g cI cJ cZ rm a1 a2 a3 a4 a5 a6 a7 a8 a9 b1 b2 b3 b4 b5 b6 b7 b8 b9 0 tp mn bl jn sn wt wm wg wo wd 2  _) (cwV 1 hts gX4_block_X4_raise rfl rfl rfl (by decide +kernel) ⟨Nat.le_of_ble_eq_true rfl, Nat.le_of_ble_eq_true rfl⟩) (k_preV hk hP hD [1] rfl rfl (ci := 4) (q0 := 0) rfl rfl) rfl rfl hl.1 rfl (lv_room (Nat.le_of_ble_eq_true rfl)) dX4_block_33 ⟨by first | exact Nat.zero_le _ | omega, by first | exact Nat.zero_le _ | omega⟩) hP hD hS hA [1] [0] rfl rfl rfl (by decide) (fun rv _ H locs hu hP hD hS => ?_)
      subst hu
      have hP : va_P g vwCl [(b2, .inl (cI, 256, .inl (fun j => nI (ba j)))), (rm, .inr (4, [.int (nI 2), .ref a1, .ref a2, .ref a3, .ref a4, .ref a5, .ref a6, .ref a7, .ref a8, .ref a9, .int (nI tp), .int (nI mn), .ref b1, .int (nI bl), .ref b2, .ref b3, .int (nI jn), .int (nI sn), .ref b4, .ref b5, .ref b6, .ref b7, .ref b8, .int (nI wt), .int (nI wm), .int (nI wg), .long (lN wo), .int (nI wd), .ref b9]))] H := hP
      have hD : va_D A [(b2, .inl (cI, 256, .inl (fun j => nI (ba j)))), (rm, .inr (4, [.int (nI 2), .ref a1, .ref a2, .ref a3, .ref a4, .ref a5, .ref a6, .ref a7, .ref a8, .ref a9, .int (nI tp), .int (nI mn), .ref b1, .int (nI bl), .ref b2, .ref b3, .int (nI jn), .int (nI sn), .ref b4, .ref b5, .ref b6, .ref b7, .ref b8, .int (nI wt), .int (nI wm), .int (nI wg), .long (lN wo), .int (nI wd), .ref b9]))] := hD
      have hP := hP.sub (ws' := [(rm, .inr (4, [.int (nI 2), .ref a1, .ref a2, .ref a3, .ref a4, .ref a5, .ref a6, .ref a7, .ref a8, .ref a9, .int (nI tp), .int (nI mn), .ref b1, .int (nI bl), .ref b2, .ref b3, .int (nI jn), .int (nI sn), .ref b4, .ref b5, .ref b6, .ref b7, .ref b8, .int (nI wt), .int (nI wm), .int (nI wg), .long (lN wo), .int (nI wd), .ref b9])), (b2, .inl (cI, 256, .inl (fun j => nI (ba j))))]) [1, 0] rfl
      have hD := hD.sub (ws' := [(rm, .inr (4, [.int (nI 2), .ref a1, .ref a2, .ref a3, .ref a4, .ref a5, .ref a6, .ref a7, .ref a8, .ref a9, .int (nI tp), .int (nI mn), .ref b1, .int (nI bl), .ref b2, .ref b3, .int (nI jn), .int (nI sn), .ref b4, .ref b5, .ref b6, .ref b7, .ref b8, .int (nI wt), .int (nI wm), .int (nI wg), .long (lN wo), .int (nI wd), .ref b9])), (b2, .inl (cI, 256, .inl (fun j => nI (ba j))))]) [1, 0] rfl rfl
      refine W.widen (k := 0) (n := 0) (by first | exact Nat.le_refl _ | omega) (by first | exact Nat.le_refl _ | omega) ?_
      exact k_retI (sz := 0) (v := nI 0) hx hb hr hlocks hAe hS hP hD () (rfl) (rfl) dX4_block_36
  · exact (by exact absurd c1 (by decide))
set_option maxHeartbeats 4000000 in
set_option maxRecDepth 100000 in
theorem c_X4_path_s (l : Launch) (g : va_G) (cI cJ cZ : ClassId) (rm a1 a2 a3 a4 a5 a6 a7 a8 a9 b1 b2 b3 b4 b5 b6 b7 b8 b9 : Nat) (cd tp bl jn sn wt wm wg wo wd : Nat) (sz lf rt : Nat → Int32) (S L R : Nat → Nat) (rc : Nat → Bool) (sp0 : Nat → Bool) (rq0 nd0 : Nat → Nat) (kp ba rv bf : Nat → Nat) (y dd : Nat) (htp : 0 < tp ∧ tp < 2 ^ 31) (hR : RuleOK S L R rc tp) (hT0 : TOK tp S L R sp0 rq0) (hW0 : nW tp S L R rq0 nd0 (lvs sp0 1)) (hlen0 : (lvs sp0 1).length ≤ 14000) (hrl : rOK S L R rc sz lf rt) (hkp : ∀ j, kp j < 2 ^ 31) (hbl : bl ≤ 256) (hB : bW (adr tp S L R) rq0 bl ba rv bf) (hry : 0 < rq0 y) (hdd : dd < 2 ^ 31) : kI l g (kty cI cJ cZ) yX4_path wsX4_path ({ frames := 2, cells := 0, slots := 0, locals := 43 }) [.ref rm, .int (nI (adr tp S L R y)), .int (nI dd)] [(rm, .inr (4, [.int (nI cd), .ref a1, .ref a2, .ref a3, .ref a4, .ref a5, .ref a6, .ref a7, .ref a8, .ref a9, .int (nI tp), .int (nI ((lvs sp0 1).length)), .ref b1, .int (nI bl), .ref b2, .ref b3, .int (nI jn), .int (nI sn), .ref b4, .ref b5, .ref b6, .ref b7, .ref b8, .int (nI wt), .int (nI wm), .int (nI wg), .long (lN wo), .int (nI wd), .ref b9])), (b1, .inl (cJ, 14000, .inr (.inl (fun j => lN (nd0 j))))), (a4, .inl (cI, 25, .inl sz)), (a5, .inl (cI, 25, .inl lf)), (a6, .inl (cI, 25, .inl rt)), (a9, .inl (cI, 25, .inl (fun j => nI (kp j)))), (b2, .inl (cI, 256, .inl (fun j => nI (ba j)))), (b3, .inl (cI, 256, .inl (fun j => nI (rv j))))] (S := Unit) (fun r _ => r = if dep y ≤ dd then -1 else nI (y / 2 ^ (dep y - 1 - dd) % 2)) (fun u => [(rm, .inr (4, [.int (nI 0), .ref a1, .ref a2, .ref a3, .ref a4, .ref a5, .ref a6, .ref a7, .ref a8, .ref a9, .int (nI tp), .int (nI ((lvs sp0 1).length)), .ref b1, .int (nI bl), .ref b2, .ref b3, .int (nI jn), .int (nI sn), .ref b4, .ref b5, .ref b6, .ref b7, .ref b8, .int (nI wt), .int (nI wm), .int (nI wg), .long (lN wo), .int (nI wd), .ref b9])), (b1, .inl (cJ, 14000, .inr (.inl (fun j => lN (nd0 j))))), (a4, .inl (cI, 25, .inl sz)), (a5, .inl (cI, 25, .inl lf)), (a6, .inl (cI, 25, .inl rt)), (a9, .inl (cI, 25, .inl (fun j => nI (kp j)))), (b2, .inl (cI, 256, .inl (fun j => nI (ba j)))), (b3, .inl (cI, 256, .inl (fun j => nI (rv j))))]) 0 0 := by
  intro sz
  refine Met.ofW (cc := cX4_path) (maxL := 4) (ret := (some .int)) (by decide) rfl ?_
  intro p e s m args below meth c s₁ B hml hv
  obtain ⟨rfl, hsz, hP, hk, hD0⟩ := hv
  subst hsz
  have hx := B.exec
  have hb := B.bytes
  have hr := B.returns
  have hts := atoms_spec (ws := wsX4_path) B.pre
  have hown : s.vm.findClass RX4 = some m.cls := findClass_of_methodNamed B.named
  have hlocks := B.notSynchronized
  have hK := hk.1
  obtain ⟨A, hAe⟩ : ∃ A, va_A [(rm, .inr (4, [.int (nI cd), .ref a1, .ref a2, .ref a3, .ref a4, .ref a5, .ref a6, .ref a7, .ref a8, .ref a9, .int (nI tp), .int (nI ((lvs sp0 1).length)), .ref b1, .int (nI bl), .ref b2, .ref b3, .int (nI jn), .int (nI sn), .ref b4, .ref b5, .ref b6, .ref b7, .ref b8, .int (nI wt), .int (nI wm), .int (nI wg), .long (lN wo), .int (nI wd), .ref b9])), (b1, .inl (cJ, 14000, .inr (.inl (fun j => lN (nd0 j))))), (a4, .inl (cI, 25, .inl sz)), (a5, .inl (cI, 25, .inl lf)), (a6, .inl (cI, 25, .inl rt)), (a9, .inl (cI, 25, .inl (fun j => nI (kp j)))), (b2, .inl (cI, 256, .inl (fun j => nI (ba j)))), (b3, .inl (cI, 256, .inl (fun j => nI (rv j))))] s.heap.size = A := ⟨_, rfl⟩
  have hD := hD0.self (sz := s.heap.size)
  rw [hAe] at hD
  have hA : ∀ q : Nat, s.heap.size ≤ q → A q := fun q h => by rw [← hAe]; exact Or.inr h
  have hS : va_S A s.heap s.heap [] := va_S.rf
  have hl := lv_entry ([.ref rm, .int (nI (adr tp S L R y)), .int (nI dd)]) (n := 4) (Nat.le_of_ble_eq_true rfl)
  rw [lg_entry_eq]
  generalize (lg_sl ([.ref rm, .int (nI (adr tp S L R y)), .int (nI dd)]) ++ List.replicate (4 - (lg_sl ([.ref rm, .int (nI (adr tp S L R y)), .int (nI dd)])).length) Slot.unset).toArray = ls at hl ⊢
  have hl : lv_has ls 4 [(0, .ref rm), (1, .int (nI (adr tp S L R y))), (2, .int (nI dd))] := hl
  obtain ⟨b0, hb0, hb2, hb3, hb4, hba, hbr⟩ := bW_y hR hT0 hB hry
  have hyl := hT0.2 y hry
  have hyx := hyl.1
  obtain ⟨iy, hiy0⟩ : ∃ iy, plc (lvs sp0 1) y = iy := ⟨_, rfl⟩
  have hiy := plc_mem (lvs_all hR hT0 hyx hyl.2.1)
  rw [hiy0] at hiy
  have hil := at_lt hiy
  obtain ⟨pp, pp_1, pp_2, pp_3, pp_4, pp_5, pp_6, pp_7, pp_8, pp_9, pp_10⟩ := nW_rd (i := iy) hR hT0 hW0 hlen0 hil
  obtain rfl : y = pp := by rw [hiy] at pp_1; exact Option.some.inj pp_1
  have hck := cls_ok hR hT0 hyx
  have hrk := rl_kids hR hrl hck.1
  have hya := adr_lt hR hT0 hyx
  have hyd := sid_b hR hT0 hyx
  refine lv_aload_n hx hb dX4_path_0 rfl (lv_at hl 0 rfl) ?_
  refine k_goI (wr := [(b1, .inl (cJ, 14000, .inr (.inl (fun j => lN (nd0 j))))), (a4, .inl (cI, 25, .inl sz)), (a5, .inl (cI, 25, .inl lf)), (a6, .inl (cI, 25, .inl rt)), (a9, .inl (cI, 25, .inl (fun j => nI (kp j)))), (b2, .inl (cI, 256, .inl (fun j => nI (ba j)))), (b3, .inl (cI, 256, .inl (fun j => nI (rv j))))]) (va_runV (As := []) (rest := []) ⟨hx, hb, hml, hown, hts⟩ (c_X4_isThere l g cI cJ cZ rm a1 a2 a3 a4 a5 a6 a7 a8 a9 b1 b2 b3 b4 b5 b6 b7 b8 b9 cd tp ((lvs sp0 1).length) bl jn sn wt wm wg wo wd  htp _) (cwV 0 hts gX4_path_X4_isThere rfl rfl rfl (by decide +kernel) ⟨Nat.le_of_ble_eq_true rfl, Nat.le_of_ble_eq_true rfl⟩) (k_preV hk hP hD [0] rfl rfl (ci := 4) (q0 := 0) rfl rfl) rfl rfl hl.1 rfl (lv_room (Nat.le_of_ble_eq_true rfl)) dX4_path_1 ⟨by first | exact Nat.zero_le _ | omega, by first | exact Nat.zero_le _ | omega⟩) hP hD hS hA [0] [1, 2, 3, 4, 5, 6, 7] rfl rfl rfl (by decide) (fun rv _ H locs hu hP hD hS => ?_)
  subst hu
  have hP : va_P g vwCl [(b1, .inl (cJ, 14000, .inr (.inl (fun j => lN (nd0 j))))), (a4, .inl (cI, 25, .inl sz)), (a5, .inl (cI, 25, .inl lf)), (a6, .inl (cI, 25, .inl rt)), (a9, .inl (cI, 25, .inl (fun j => nI (kp j)))), (b2, .inl (cI, 256, .inl (fun j => nI (ba j)))), (b3, .inl (cI, 256, .inl (fun j => nI (rv j)))), (rm, .inr (4, [.int (nI 0), .ref a1, .ref a2, .ref a3, .ref a4, .ref a5, .ref a6, .ref a7, .ref a8, .ref a9, .int (nI tp), .int (nI ((lvs sp0 1).length)), .ref b1, .int (nI bl), .ref b2, .ref b3, .int (nI jn), .int (nI sn), .ref b4, .ref b5, .ref b6, .ref b7, .ref b8, .int (nI wt), .int (nI wm), .int (nI wg), .long (lN wo), .int (nI wd), .ref b9]))] H := hP
  have hD : va_D A [(b1, .inl (cJ, 14000, .inr (.inl (fun j => lN (nd0 j))))), (a4, .inl (cI, 25, .inl sz)), (a5, .inl (cI, 25, .inl lf)), (a6, .inl (cI, 25, .inl rt)), (a9, .inl (cI, 25, .inl (fun j => nI (kp j)))), (b2, .inl (cI, 256, .inl (fun j => nI (ba j)))), (b3, .inl (cI, 256, .inl (fun j => nI (rv j)))), (rm, .inr (4, [.int (nI 0), .ref a1, .ref a2, .ref a3, .ref a4, .ref a5, .ref a6, .ref a7, .ref a8, .ref a9, .int (nI tp), .int (nI ((lvs sp0 1).length)), .ref b1, .int (nI bl), .ref b2, .ref b3, .int (nI jn), .int (nI sn), .ref b4, .ref b5, .ref b6, .ref b7, .ref b8, .int (nI wt), .int (nI wm), .int (nI wg), .long (lN wo), .int (nI wd), .ref b9]))] := hD
  refine n_if_ne (tgt := 9) hx hb dX4_path_4 (by decide) (by first | assumption | omega) (fun c1 => ?_) (fun c1 => ?_)
  · skip
    refine lv_aload_n hx hb dX4_path_9 rfl (lv_at hl 0 rfl) ?_
    refine lv_iload_n hx hb dX4_path_10 rfl (lv_at hl 1 rfl) ?_
    refine k_goR (W.runV (As := [.int (nI (adr tp S L R y))]) (rest := []) ⟨hx, hb, hml, hown, hts⟩ (c_X4_blockOf l g cI cJ cZ rm a1 a2 a3 a4 a5 a6 a7 a8 a9 b1 b2 b3 b4 b5 b6 b7 b8 b9 0 tp ((lvs sp0 1).length) bl jn sn wt wm wg wo wd ba (nI (adr tp S L R y)) b0 hbl hb0 hb3 hb4) (cwV 1 hts gX4_path_X4_blockOf rfl rfl rfl (by decide +kernel) ⟨Nat.le_of_ble_eq_true rfl, Nat.le_of_ble_eq_true rfl⟩) (k_preRV hk hP [7, 5] rfl (ci := 4) (q0 := 0) rfl rfl) rfl rfl hl.1 rfl (lv_room (Nat.le_of_ble_eq_true rfl)) dX4_path_11 ⟨by first | exact Nat.zero_le _ | omega, by first | exact Nat.zero_le _ | omega⟩) ?_
    refine n_if_lt (tgt := 21) hx hb dX4_path_14 (by decide) (by first | assumption | omega) ?_
    refine lv_iload_n hx hb dX4_path_17 rfl (lv_at hl 2 rfl) ?_
    refine n_if_ge (tgt := 27) hx hb dX4_path_18 (by decide) (by first | assumption | omega) ?_
    refine lv_aload_n hx hb dX4_path_27 rfl (lv_at hl 0 rfl) ?_
    refine lv_iload_n hx hb dX4_path_28 rfl (lv_at hl 1 rfl) ?_
    refine k_goR (W.runV (As := [.int (nI (adr tp S L R y))]) (rest := []) ⟨hx, hb, hml, hown, hts⟩ (c_X4_nodeAt l g cI cJ cZ rm a1 a2 a3 a4 a5 a6 a7 a8 a9 b1 b2 b3 b4 b5 b6 b7 b8 b9 0 tp bl jn sn wt wm wg wo wd S L R rc sp0 rq0 nd0 y iy hR hT0 hW0 hlen0 hiy) (cwV 1 hts gX4_path_X4_nodeAt rfl rfl rfl (by decide +kernel) ⟨Nat.le_of_ble_eq_true rfl, Nat.le_of_ble_eq_true rfl⟩) (k_preRV hk hP [7, 0] rfl (ci := 4) (q0 := 0) rfl rfl) rfl rfl hl.1 rfl (lv_room (Nat.le_of_ble_eq_true rfl)) dX4_path_29 ⟨by first | exact Nat.zero_le _ | omega, by first | exact Nat.zero_le _ | omega⟩) ?_
    refine lv_istore_n (lv' := [(3, .int (nI iy)), (0, .ref rm), (1, .int (nI (adr tp S L R y))), (2, .int (nI dd))]) hx hb dX4_path_32 rfl hl (by decide) rfl (fun ls hl => ?_)
    refine lv_iload_n hx hb dX4_path_33 rfl (lv_at hl 3 rfl) ?_
    refine lv_aload_n hx hb dX4_path_34 rfl (lv_at hl 1 rfl) ?_
    refine lv_iload_n hx hb dX4_path_35 rfl (lv_at hl 0 rfl) ?_
    refine k_goR (W.runV (As := [.int (nI iy)]) (rest := [.int (nI dd)]) ⟨hx, hb, hml, hown, hts⟩ (c_X4_depth l g cI cJ cZ rm a1 a2 a3 a4 a5 a6 a7 a8 a9 b1 b2 b3 b4 b5 b6 b7 b8 b9 0 tp ((lvs sp0 1).length) bl jn sn wt wm wg wo wd nd0 iy pp_4 pp_5) (cwV 1 hts gX4_path_X4_depth rfl rfl rfl (by decide +kernel) ⟨Nat.le_of_ble_eq_true rfl, Nat.le_of_ble_eq_true rfl⟩) (k_preRV hk hP [7, 0] rfl (ci := 4) (q0 := 0) rfl rfl) rfl rfl hl.1 rfl (lv_room (Nat.le_of_ble_eq_true rfl)) dX4_path_36 ⟨by first | exact Nat.zero_le _ | omega, by first | exact Nat.zero_le _ | omega⟩) ?_
    refine n_top _ (nI (dep y)) (congrArg nI pp_9) ?_
    refine n_icmp_lt (tgt := 46) hx hb dX4_path_39 (by decide) (by first | assumption | omega) (by omega) (fun c4 => ?_) (fun c4 => ?_)
    · skip
      refine lv_aload_n hx hb dX4_path_46 rfl (lv_at hl 1 rfl) ?_
      refine lv_iload_n hx hb dX4_path_47 rfl (lv_at hl 0 rfl) ?_
      refine k_goR (W.runV (As := [.int (nI iy)]) (rest := []) ⟨hx, hb, hml, hown, hts⟩ (c_X4_sides l g cI cJ cZ rm a1 a2 a3 a4 a5 a6 a7 a8 a9 b1 b2 b3 b4 b5 b6 b7 b8 b9 0 tp ((lvs sp0 1).length) bl jn sn wt wm wg wo wd nd0 iy pp_4 pp_5) (cwV 1 hts gX4_path_X4_sides rfl rfl rfl (by decide +kernel) ⟨Nat.le_of_ble_eq_true rfl, Nat.le_of_ble_eq_true rfl⟩) (k_preRV hk hP [7, 0] rfl (ci := 4) (q0 := 0) rfl rfl) rfl rfl hl.1 rfl (lv_room (Nat.le_of_ble_eq_true rfl)) dX4_path_48 ⟨by first | exact Nat.zero_le _ | omega, by first | exact Nat.zero_le _ | omega⟩) ?_
      refine n_top _ (nI (y % 2 ^ dep y)) (congrArg nI pp_10) ?_
      refine lv_aload_n hx hb dX4_path_51 rfl (lv_at hl 1 rfl) ?_
      refine lv_iload_n hx hb dX4_path_52 rfl (lv_at hl 0 rfl) ?_
      refine k_goR (W.runV (As := [.int (nI iy)]) (rest := [.int (nI (y % 2 ^ dep y))]) ⟨hx, hb, hml, hown, hts⟩ (c_X4_depth l g cI cJ cZ rm a1 a2 a3 a4 a5 a6 a7 a8 a9 b1 b2 b3 b4 b5 b6 b7 b8 b9 0 tp ((lvs sp0 1).length) bl jn sn wt wm wg wo wd nd0 iy pp_4 pp_5) (cwV 1 hts gX4_path_X4_depth rfl rfl rfl (by decide +kernel) ⟨Nat.le_of_ble_eq_true rfl, Nat.le_of_ble_eq_true rfl⟩) (k_preRV hk hP [7, 0] rfl (ci := 4) (q0 := 0) rfl rfl) rfl rfl hl.1 rfl (lv_room (Nat.le_of_ble_eq_true rfl)) dX4_path_53 ⟨by first | exact Nat.zero_le _ | omega, by first | exact Nat.zero_le _ | omega⟩) ?_
      refine n_top _ (nI (dep y)) (congrArg nI pp_9) ?_
      refine lv_iconst (v := nI 1) hx hb dX4_path_56 (by decide) ?_
      refine n_isub hx hb dX4_path_57 (by omega) ?_
      refine lv_iload_n hx hb dX4_path_58 rfl (lv_at hl 3 rfl) ?_
      refine n_isub hx hb dX4_path_59 (by omega) ?_
      refine n_ishr hx hb dX4_path_60 (by omega) (by omega) ?_
      refine lv_iconst (v := nI 1) hx hb dX4_path_61 (by decide) ?_
      refine n_iand hx hb dX4_path_62 ?_
      have hP := hP.sub (ws' := [(rm, .inr (4, [.int (nI 0), .ref a1, .ref a2, .ref a3, .ref a4, .ref a5, .ref a6, .ref a7, .ref a8, .ref a9, .int (nI tp), .int (nI ((lvs sp0 1).length)), .ref b1, .int (nI bl), .ref b2, .ref b3, .int (nI jn), .int (nI sn), .ref b4, .ref b5, .ref b6, .ref b7, .ref b8, .int (nI wt), .int (nI wm), .int (nI wg), .long (lN wo), .int (nI wd), .ref b9])), (b1, .inl (cJ, 14000, .inr (.inl (fun j => lN (nd0 j))))), (a4, .inl (cI, 25, .inl sz)), (a5, .inl (cI, 25, .inl lf)), (a6, .inl (cI, 25, .inl rt)), (a9, .inl (cI, 25, .inl (fun j => nI (kp j)))), (b2, .inl (cI, 256, .inl (fun j => nI (ba j)))), (b3, .inl (cI, 256, .inl (fun j => nI (rv j))))]) [7, 0, 1, 2, 3, 4, 5, 6] rfl
      have hD := hD.sub (ws' := [(rm, .inr (4, [.int (nI 0), .ref a1, .ref a2, .ref a3, .ref a4, .ref a5, .ref a6, .ref a7, .ref a8, .ref a9, .int (nI tp), .int (nI ((lvs sp0 1).length)), .ref b1, .int (nI bl), .ref b2, .ref b3, .int (nI jn), .int (nI sn), .ref b4, .ref b5, .ref b6, .ref b7, .ref b8, .int (nI wt), .int (nI wm), .int (nI wg), .long (lN wo), .int (nI wd), .ref b9])), (b1, .inl (cJ, 14000, .inr (.inl (fun j => lN (nd0 j))))), (a4, .inl (cI, 25, .inl sz)), (a5, .inl (cI, 25, .inl lf)), (a6, .inl (cI, 25, .inl rt)), (a9, .inl (cI, 25, .inl (fun j => nI (kp j)))), (b2, .inl (cI, 256, .inl (fun j => nI (ba j)))), (b3, .inl (cI, 256, .inl (fun j => nI (rv j))))]) [7, 0, 1, 2, 3, 4, 5, 6] rfl rfl
      refine W.widen (k := 0) (n := 0) (by first | exact Nat.le_refl _ | omega) (by first | exact Nat.le_refl _ | omega) ?_
      exact k_retI (sz := 0) (v := nI (((y % 2 ^ dep y) / 2 ^ (((dep y) - 1) - dd)) &&& 1)) hx hb hr hlocks hAe hS hP hD () (rfl) (by rw [if_neg (by omega), side_r (by omega)]) dX4_path_63
    · skip
      refine lv_iconst (v := (-1)) hx hb dX4_path_42 (by decide) ?_
      refine lv_goto (tgt := 63) hx hb dX4_path_43 (by decide) ?_
      have hP := hP.sub (ws' := [(rm, .inr (4, [.int (nI 0), .ref a1, .ref a2, .ref a3, .ref a4, .ref a5, .ref a6, .ref a7, .ref a8, .ref a9, .int (nI tp), .int (nI ((lvs sp0 1).length)), .ref b1, .int (nI bl), .ref b2, .ref b3, .int (nI jn), .int (nI sn), .ref b4, .ref b5, .ref b6, .ref b7, .ref b8, .int (nI wt), .int (nI wm), .int (nI wg), .long (lN wo), .int (nI wd), .ref b9])), (b1, .inl (cJ, 14000, .inr (.inl (fun j => lN (nd0 j))))), (a4, .inl (cI, 25, .inl sz)), (a5, .inl (cI, 25, .inl lf)), (a6, .inl (cI, 25, .inl rt)), (a9, .inl (cI, 25, .inl (fun j => nI (kp j)))), (b2, .inl (cI, 256, .inl (fun j => nI (ba j)))), (b3, .inl (cI, 256, .inl (fun j => nI (rv j))))]) [7, 0, 1, 2, 3, 4, 5, 6] rfl
      have hD := hD.sub (ws' := [(rm, .inr (4, [.int (nI 0), .ref a1, .ref a2, .ref a3, .ref a4, .ref a5, .ref a6, .ref a7, .ref a8, .ref a9, .int (nI tp), .int (nI ((lvs sp0 1).length)), .ref b1, .int (nI bl), .ref b2, .ref b3, .int (nI jn), .int (nI sn), .ref b4, .ref b5, .ref b6, .ref b7, .ref b8, .int (nI wt), .int (nI wm), .int (nI wg), .long (lN wo), .int (nI wd), .ref b9])), (b1, .inl (cJ, 14000, .inr (.inl (fun j => lN (nd0 j))))), (a4, .inl (cI, 25, .inl sz)), (a5, .inl (cI, 25, .inl lf)), (a6, .inl (cI, 25, .inl rt)), (a9, .inl (cI, 25, .inl (fun j => nI (kp j)))), (b2, .inl (cI, 256, .inl (fun j => nI (ba j)))), (b3, .inl (cI, 256, .inl (fun j => nI (rv j))))]) [7, 0, 1, 2, 3, 4, 5, 6] rfl rfl
      refine W.widen (k := 0) (n := 0) (by first | exact Nat.le_refl _ | omega) (by first | exact Nat.le_refl _ | omega) ?_
      exact k_retI (sz := 0) (v := -1) hx hb hr hlocks hAe hS hP hD () (rfl) (by rw [if_pos (by omega)]) dX4_path_63
  · exact (by exact absurd c1 (by decide))
set_option maxHeartbeats 4000000 in
set_option maxRecDepth 100000 in
theorem c_X4_path_n (l : Launch) (g : va_G) (cI cJ cZ : ClassId) (rm a1 a2 a3 a4 a5 a6 a7 a8 a9 b1 b2 b3 b4 b5 b6 b7 b8 b9 : Nat) (cd tp mn bl jn sn wt wm wg wo wd : Nat) (ba : Nat → Nat) (v v2 : Int32) (htp : 0 < tp ∧ tp < 2 ^ 31) (hbl : bl ≤ 256) (hbn : ∀ j, j < bl → ¬ nI (ba j) = v) : kI l g (kty cI cJ cZ) yX4_path wsX4_path ({ frames := 1, cells := 0, slots := 0, locals := 22 }) [.ref rm, .int v, .int v2] [(rm, .inr (4, [.int (nI cd), .ref a1, .ref a2, .ref a3, .ref a4, .ref a5, .ref a6, .ref a7, .ref a8, .ref a9, .int (nI tp), .int (nI mn), .ref b1, .int (nI bl), .ref b2, .ref b3, .int (nI jn), .int (nI sn), .ref b4, .ref b5, .ref b6, .ref b7, .ref b8, .int (nI wt), .int (nI wm), .int (nI wg), .long (lN wo), .int (nI wd), .ref b9])), (b2, .inl (cI, 256, .inl (fun j => nI (ba j))))] (S := Unit) (fun r _ => r = nI 0) (fun u => [(rm, .inr (4, [.int (nI 2), .ref a1, .ref a2, .ref a3, .ref a4, .ref a5, .ref a6, .ref a7, .ref a8, .ref a9, .int (nI tp), .int (nI mn), .ref b1, .int (nI bl), .ref b2, .ref b3, .int (nI jn), .int (nI sn), .ref b4, .ref b5, .ref b6, .ref b7, .ref b8, .int (nI wt), .int (nI wm), .int (nI wg), .long (lN wo), .int (nI wd), .ref b9])), (b2, .inl (cI, 256, .inl (fun j => nI (ba j))))]) 0 0 := by
  intro sz
  refine Met.ofW (cc := cX4_path) (maxL := 4) (ret := (some .int)) (by decide) rfl ?_
  intro p e s m args below meth c s₁ B hml hv
  obtain ⟨rfl, hsz, hP, hk, hD0⟩ := hv
  subst hsz
  have hx := B.exec
  have hb := B.bytes
  have hr := B.returns
  have hts := atoms_spec (ws := wsX4_path) B.pre
  have hown : s.vm.findClass RX4 = some m.cls := findClass_of_methodNamed B.named
  have hlocks := B.notSynchronized
  have hK := hk.1
  obtain ⟨A, hAe⟩ : ∃ A, va_A [(rm, .inr (4, [.int (nI cd), .ref a1, .ref a2, .ref a3, .ref a4, .ref a5, .ref a6, .ref a7, .ref a8, .ref a9, .int (nI tp), .int (nI mn), .ref b1, .int (nI bl), .ref b2, .ref b3, .int (nI jn), .int (nI sn), .ref b4, .ref b5, .ref b6, .ref b7, .ref b8, .int (nI wt), .int (nI wm), .int (nI wg), .long (lN wo), .int (nI wd), .ref b9])), (b2, .inl (cI, 256, .inl (fun j => nI (ba j))))] s.heap.size = A := ⟨_, rfl⟩
  have hD := hD0.self (sz := s.heap.size)
  rw [hAe] at hD
  have hA : ∀ q : Nat, s.heap.size ≤ q → A q := fun q h => by rw [← hAe]; exact Or.inr h
  have hS : va_S A s.heap s.heap [] := va_S.rf
  have hl := lv_entry ([.ref rm, .int v, .int v2]) (n := 4) (Nat.le_of_ble_eq_true rfl)
  rw [lg_entry_eq]
  generalize (lg_sl ([.ref rm, .int v, .int v2]) ++ List.replicate (4 - (lg_sl ([.ref rm, .int v, .int v2])).length) Slot.unset).toArray = ls at hl ⊢
  have hl : lv_has ls 4 [(0, .ref rm), (1, .int v), (2, .int v2)] := hl
  refine lv_aload_n hx hb dX4_path_0 rfl (lv_at hl 0 rfl) ?_
  refine k_goI (wr := [(b2, .inl (cI, 256, .inl (fun j => nI (ba j))))]) (va_runV (As := []) (rest := []) ⟨hx, hb, hml, hown, hts⟩ (c_X4_isThere l g cI cJ cZ rm a1 a2 a3 a4 a5 a6 a7 a8 a9 b1 b2 b3 b4 b5 b6 b7 b8 b9 cd tp mn bl jn sn wt wm wg wo wd  htp _) (cwV 0 hts gX4_path_X4_isThere rfl rfl rfl (by decide +kernel) ⟨Nat.le_of_ble_eq_true rfl, Nat.le_of_ble_eq_true rfl⟩) (k_preV hk hP hD [0] rfl rfl (ci := 4) (q0 := 0) rfl rfl) rfl rfl hl.1 rfl (lv_room (Nat.le_of_ble_eq_true rfl)) dX4_path_1 ⟨by first | exact Nat.zero_le _ | omega, by first | exact Nat.zero_le _ | omega⟩) hP hD hS hA [0] [1] rfl rfl rfl (by decide) (fun rv _ H locs hu hP hD hS => ?_)
  subst hu
  have hP : va_P g vwCl [(b2, .inl (cI, 256, .inl (fun j => nI (ba j)))), (rm, .inr (4, [.int (nI 0), .ref a1, .ref a2, .ref a3, .ref a4, .ref a5, .ref a6, .ref a7, .ref a8, .ref a9, .int (nI tp), .int (nI mn), .ref b1, .int (nI bl), .ref b2, .ref b3, .int (nI jn), .int (nI sn), .ref b4, .ref b5, .ref b6, .ref b7, .ref b8, .int (nI wt), .int (nI wm), .int (nI wg), .long (lN wo), .int (nI wd), .ref b9]))] H := hP
  have hD : va_D A [(b2, .inl (cI, 256, .inl (fun j => nI (ba j)))), (rm, .inr (4, [.int (nI 0), .ref a1, .ref a2, .ref a3, .ref a4, .ref a5, .ref a6, .ref a7, .ref a8, .ref a9, .int (nI tp), .int (nI mn), .ref b1, .int (nI bl), .ref b2, .ref b3, .int (nI jn), .int (nI sn), .ref b4, .ref b5, .ref b6, .ref b7, .ref b8, .int (nI wt), .int (nI wm), .int (nI wg), .long (lN wo), .int (nI wd), .ref b9]))] := hD
  refine n_if_ne (tgt := 9) hx hb dX4_path_4 (by decide) (by first | assumption | omega) (fun c1 => ?_) (fun c1 => ?_)
  · skip
    refine lv_aload_n hx hb dX4_path_9 rfl (lv_at hl 0 rfl) ?_
    refine lv_iload_n hx hb dX4_path_10 rfl (lv_at hl 1 rfl) ?_
    refine k_goR (W.runV (As := [.int v]) (rest := []) ⟨hx, hb, hml, hown, hts⟩ (c_X4_blockOf_n l g cI cJ cZ rm a1 a2 a3 a4 a5 a6 a7 a8 a9 b1 b2 b3 b4 b5 b6 b7 b8 b9 0 tp mn bl jn sn wt wm wg wo wd ba v hbl hbn) (cwV 1 hts gX4_path_X4_blockOf rfl rfl rfl (by decide +kernel) ⟨Nat.le_of_ble_eq_true rfl, Nat.le_of_ble_eq_true rfl⟩) (k_preRV hk hP [1, 0] rfl (ci := 4) (q0 := 0) rfl rfl) rfl rfl hl.1 rfl (lv_room (Nat.le_of_ble_eq_true rfl)) dX4_path_11 ⟨by first | exact Nat.zero_le _ | omega, by first | exact Nat.zero_le _ | omega⟩) ?_
    refine lv_if_lt (tgt := 21) hx hb dX4_path_14 (by decide) (fun c2 => ?_) (fun c2 => ?_)
    · skip
      refine lv_aload_n hx hb dX4_path_21 rfl (lv_at hl 0 rfl) ?_
      refine lv_iconst (v := nI 2) hx hb dX4_path_22 (by decide) ?_
      refine k_goI (wr := [(b2, .inl (cI, 256, .inl (fun j => nI (ba j))))]) (va_runV (As := [.int (nI 2)]) (rest := []) ⟨hx, hb, hml, hown, hts⟩ (c_X4_raise l g cI cJ cZ rm a1 a2 a3 a4 a5 a6 a7 a8 a9 b1 b2 b3 b4 b5 b6 b7 b8 b9 0 tp mn bl jn sn wt wm wg wo wd 2  _) (cwV 1 hts gX4_path_X4_raise rfl rfl rfl (by decide +kernel) ⟨Nat.le_of_ble_eq_true rfl, Nat.le_of_ble_eq_true rfl⟩) (k_preV hk hP hD [1] rfl rfl (ci := 4) (q0 := 0) rfl rfl) rfl rfl hl.1 rfl (lv_room (Nat.le_of_ble_eq_true rfl)) dX4_path_23 ⟨by first | exact Nat.zero_le _ | omega, by first | exact Nat.zero_le _ | omega⟩) hP hD hS hA [1] [0] rfl rfl rfl (by decide) (fun rv _ H locs hu hP hD hS => ?_)
      subst hu
      have hP : va_P g vwCl [(b2, .inl (cI, 256, .inl (fun j => nI (ba j)))), (rm, .inr (4, [.int (nI 2), .ref a1, .ref a2, .ref a3, .ref a4, .ref a5, .ref a6, .ref a7, .ref a8, .ref a9, .int (nI tp), .int (nI mn), .ref b1, .int (nI bl), .ref b2, .ref b3, .int (nI jn), .int (nI sn), .ref b4, .ref b5, .ref b6, .ref b7, .ref b8, .int (nI wt), .int (nI wm), .int (nI wg), .long (lN wo), .int (nI wd), .ref b9]))] H := hP
      have hD : va_D A [(b2, .inl (cI, 256, .inl (fun j => nI (ba j)))), (rm, .inr (4, [.int (nI 2), .ref a1, .ref a2, .ref a3, .ref a4, .ref a5, .ref a6, .ref a7, .ref a8, .ref a9, .int (nI tp), .int (nI mn), .ref b1, .int (nI bl), .ref b2, .ref b3, .int (nI jn), .int (nI sn), .ref b4, .ref b5, .ref b6, .ref b7, .ref b8, .int (nI wt), .int (nI wm), .int (nI wg), .long (lN wo), .int (nI wd), .ref b9]))] := hD
      have hP := hP.sub (ws' := [(rm, .inr (4, [.int (nI 2), .ref a1, .ref a2, .ref a3, .ref a4, .ref a5, .ref a6, .ref a7, .ref a8, .ref a9, .int (nI tp), .int (nI mn), .ref b1, .int (nI bl), .ref b2, .ref b3, .int (nI jn), .int (nI sn), .ref b4, .ref b5, .ref b6, .ref b7, .ref b8, .int (nI wt), .int (nI wm), .int (nI wg), .long (lN wo), .int (nI wd), .ref b9])), (b2, .inl (cI, 256, .inl (fun j => nI (ba j))))]) [1, 0] rfl
      have hD := hD.sub (ws' := [(rm, .inr (4, [.int (nI 2), .ref a1, .ref a2, .ref a3, .ref a4, .ref a5, .ref a6, .ref a7, .ref a8, .ref a9, .int (nI tp), .int (nI mn), .ref b1, .int (nI bl), .ref b2, .ref b3, .int (nI jn), .int (nI sn), .ref b4, .ref b5, .ref b6, .ref b7, .ref b8, .int (nI wt), .int (nI wm), .int (nI wg), .long (lN wo), .int (nI wd), .ref b9])), (b2, .inl (cI, 256, .inl (fun j => nI (ba j))))]) [1, 0] rfl rfl
      refine W.widen (k := 0) (n := 0) (by first | exact Nat.le_refl _ | omega) (by first | exact Nat.le_refl _ | omega) ?_
      exact k_retI (sz := 0) (v := nI 0) hx hb hr hlocks hAe hS hP hD () (rfl) (rfl) dX4_path_26
    · exact (by exact absurd (by decide) c2)
  · exact (by exact absurd c1 (by decide))
set_option maxHeartbeats 4000000 in
set_option maxRecDepth 100000 in
theorem c_X4_path_e (l : Launch) (g : va_G) (cI cJ cZ : ClassId) (rm a1 a2 a3 a4 a5 a6 a7 a8 a9 b1 b2 b3 b4 b5 b6 b7 b8 b9 : Nat) (cd tp mn bl jn sn wt wm wg wo wd : Nat) (ba : Nat → Nat) (yv b0 : Nat) (v2 : Int32) (htp : 0 < tp ∧ tp < 2 ^ 31) (hbl : bl ≤ 256) (hb0 : b0 < bl) (hb3 : nI (ba b0) = nI yv) (hb4 : ∀ j, j < b0 → ¬ nI (ba j) = nI yv) (hv2 : v2 < 0) : kI l g (kty cI cJ cZ) yX4_path wsX4_path ({ frames := 1, cells := 0, slots := 0, locals := 22 }) [.ref rm, .int (nI yv), .int v2] [(rm, .inr (4, [.int (nI cd), .ref a1, .ref a2, .ref a3, .ref a4, .ref a5, .ref a6, .ref a7, .ref a8, .ref a9, .int (nI tp), .int (nI mn), .ref b1, .int (nI bl), .ref b2, .ref b3, .int (nI jn), .int (nI sn), .ref b4, .ref b5, .ref b6, .ref b7, .ref b8, .int (nI wt), .int (nI wm), .int (nI wg), .long (lN wo), .int (nI wd), .ref b9])), (b2, .inl (cI, 256, .inl (fun j => nI (ba j))))] (S := Unit) (fun r _ => r = nI 0) (fun u => [(rm, .inr (4, [.int (nI 2), .ref a1, .ref a2, .ref a3, .ref a4, .ref a5, .ref a6, .ref a7, .ref a8, .ref a9, .int (nI tp), .int (nI mn), .ref b1, .int (nI bl), .ref b2, .ref b3, .int (nI jn), .int (nI sn), .ref b4, .ref b5, .ref b6, .ref b7, .ref b8, .int (nI wt), .int (nI wm), .int (nI wg), .long (lN wo), .int (nI wd), .ref b9])), (b2, .inl (cI, 256, .inl (fun j => nI (ba j))))]) 0 0 := by
  intro sz
  refine Met.ofW (cc := cX4_path) (maxL := 4) (ret := (some .int)) (by decide) rfl ?_
  intro p e s m args below meth c s₁ B hml hv
  obtain ⟨rfl, hsz, hP, hk, hD0⟩ := hv
  subst hsz
  have hx := B.exec
  have hb := B.bytes
  have hr := B.returns
  have hts := atoms_spec (ws := wsX4_path) B.pre
  have hown : s.vm.findClass RX4 = some m.cls := findClass_of_methodNamed B.named
  have hlocks := B.notSynchronized
  have hK := hk.1
  obtain ⟨A, hAe⟩ : ∃ A, va_A [(rm, .inr (4, [.int (nI cd), .ref a1, .ref a2, .ref a3, .ref a4, .ref a5, .ref a6, .ref a7, .ref a8, .ref a9, .int (nI tp), .int (nI mn), .ref b1, .int (nI bl), .ref b2, .ref b3, .int (nI jn), .int (nI sn), .ref b4, .ref b5, .ref b6, .ref b7, .ref b8, .int (nI wt), .int (nI wm), .int (nI wg), .long (lN wo), .int (nI wd), .ref b9])), (b2, .inl (cI, 256, .inl (fun j => nI (ba j))))] s.heap.size = A := ⟨_, rfl⟩
  have hD := hD0.self (sz := s.heap.size)
  rw [hAe] at hD
  have hA : ∀ q : Nat, s.heap.size ≤ q → A q := fun q h => by rw [← hAe]; exact Or.inr h
  have hS : va_S A s.heap s.heap [] := va_S.rf
  have hl := lv_entry ([.ref rm, .int (nI yv), .int v2]) (n := 4) (Nat.le_of_ble_eq_true rfl)
  rw [lg_entry_eq]
  generalize (lg_sl ([.ref rm, .int (nI yv), .int v2]) ++ List.replicate (4 - (lg_sl ([.ref rm, .int (nI yv), .int v2])).length) Slot.unset).toArray = ls at hl ⊢
  have hl : lv_has ls 4 [(0, .ref rm), (1, .int (nI yv)), (2, .int v2)] := hl
  refine lv_aload_n hx hb dX4_path_0 rfl (lv_at hl 0 rfl) ?_
  refine k_goI (wr := [(b2, .inl (cI, 256, .inl (fun j => nI (ba j))))]) (va_runV (As := []) (rest := []) ⟨hx, hb, hml, hown, hts⟩ (c_X4_isThere l g cI cJ cZ rm a1 a2 a3 a4 a5 a6 a7 a8 a9 b1 b2 b3 b4 b5 b6 b7 b8 b9 cd tp mn bl jn sn wt wm wg wo wd  htp _) (cwV 0 hts gX4_path_X4_isThere rfl rfl rfl (by decide +kernel) ⟨Nat.le_of_ble_eq_true rfl, Nat.le_of_ble_eq_true rfl⟩) (k_preV hk hP hD [0] rfl rfl (ci := 4) (q0 := 0) rfl rfl) rfl rfl hl.1 rfl (lv_room (Nat.le_of_ble_eq_true rfl)) dX4_path_1 ⟨by first | exact Nat.zero_le _ | omega, by first | exact Nat.zero_le _ | omega⟩) hP hD hS hA [0] [1] rfl rfl rfl (by decide) (fun rv _ H locs hu hP hD hS => ?_)
  subst hu
  have hP : va_P g vwCl [(b2, .inl (cI, 256, .inl (fun j => nI (ba j)))), (rm, .inr (4, [.int (nI 0), .ref a1, .ref a2, .ref a3, .ref a4, .ref a5, .ref a6, .ref a7, .ref a8, .ref a9, .int (nI tp), .int (nI mn), .ref b1, .int (nI bl), .ref b2, .ref b3, .int (nI jn), .int (nI sn), .ref b4, .ref b5, .ref b6, .ref b7, .ref b8, .int (nI wt), .int (nI wm), .int (nI wg), .long (lN wo), .int (nI wd), .ref b9]))] H := hP
  have hD : va_D A [(b2, .inl (cI, 256, .inl (fun j => nI (ba j)))), (rm, .inr (4, [.int (nI 0), .ref a1, .ref a2, .ref a3, .ref a4, .ref a5, .ref a6, .ref a7, .ref a8, .ref a9, .int (nI tp), .int (nI mn), .ref b1, .int (nI bl), .ref b2, .ref b3, .int (nI jn), .int (nI sn), .ref b4, .ref b5, .ref b6, .ref b7, .ref b8, .int (nI wt), .int (nI wm), .int (nI wg), .long (lN wo), .int (nI wd), .ref b9]))] := hD
  refine n_if_ne (tgt := 9) hx hb dX4_path_4 (by decide) (by first | assumption | omega) (fun c1 => ?_) (fun c1 => ?_)
  · skip
    refine lv_aload_n hx hb dX4_path_9 rfl (lv_at hl 0 rfl) ?_
    refine lv_iload_n hx hb dX4_path_10 rfl (lv_at hl 1 rfl) ?_
    refine k_goR (W.runV (As := [.int (nI yv)]) (rest := []) ⟨hx, hb, hml, hown, hts⟩ (c_X4_blockOf l g cI cJ cZ rm a1 a2 a3 a4 a5 a6 a7 a8 a9 b1 b2 b3 b4 b5 b6 b7 b8 b9 0 tp mn bl jn sn wt wm wg wo wd ba (nI yv) b0 hbl hb0 hb3 hb4) (cwV 1 hts gX4_path_X4_blockOf rfl rfl rfl (by decide +kernel) ⟨Nat.le_of_ble_eq_true rfl, Nat.le_of_ble_eq_true rfl⟩) (k_preRV hk hP [1, 0] rfl (ci := 4) (q0 := 0) rfl rfl) rfl rfl hl.1 rfl (lv_room (Nat.le_of_ble_eq_true rfl)) dX4_path_11 ⟨by first | exact Nat.zero_le _ | omega, by first | exact Nat.zero_le _ | omega⟩) ?_
    refine n_if_lt (tgt := 21) hx hb dX4_path_14 (by decide) (by first | assumption | omega) ?_
    refine lv_iload_n hx hb dX4_path_17 rfl (lv_at hl 2 rfl) ?_
    refine lv_if_ge (tgt := 27) hx hb dX4_path_18 (by decide) (fun c3 => ?_) (fun c3 => ?_)
    · exact (by exact absurd hv2 (Int32.not_lt.mpr c3))
    · skip
      refine lv_aload_n hx hb dX4_path_21 rfl (lv_at hl 0 rfl) ?_
      refine lv_iconst (v := nI 2) hx hb dX4_path_22 (by decide) ?_
      refine k_goI (wr := [(b2, .inl (cI, 256, .inl (fun j => nI (ba j))))]) (va_runV (As := [.int (nI 2)]) (rest := []) ⟨hx, hb, hml, hown, hts⟩ (c_X4_raise l g cI cJ cZ rm a1 a2 a3 a4 a5 a6 a7 a8 a9 b1 b2 b3 b4 b5 b6 b7 b8 b9 0 tp mn bl jn sn wt wm wg wo wd 2  _) (cwV 1 hts gX4_path_X4_raise rfl rfl rfl (by decide +kernel) ⟨Nat.le_of_ble_eq_true rfl, Nat.le_of_ble_eq_true rfl⟩) (k_preV hk hP hD [1] rfl rfl (ci := 4) (q0 := 0) rfl rfl) rfl rfl hl.1 rfl (lv_room (Nat.le_of_ble_eq_true rfl)) dX4_path_23 ⟨by first | exact Nat.zero_le _ | omega, by first | exact Nat.zero_le _ | omega⟩) hP hD hS hA [1] [0] rfl rfl rfl (by decide) (fun rv _ H locs hu hP hD hS => ?_)
      subst hu
      have hP : va_P g vwCl [(b2, .inl (cI, 256, .inl (fun j => nI (ba j)))), (rm, .inr (4, [.int (nI 2), .ref a1, .ref a2, .ref a3, .ref a4, .ref a5, .ref a6, .ref a7, .ref a8, .ref a9, .int (nI tp), .int (nI mn), .ref b1, .int (nI bl), .ref b2, .ref b3, .int (nI jn), .int (nI sn), .ref b4, .ref b5, .ref b6, .ref b7, .ref b8, .int (nI wt), .int (nI wm), .int (nI wg), .long (lN wo), .int (nI wd), .ref b9]))] H := hP
      have hD : va_D A [(b2, .inl (cI, 256, .inl (fun j => nI (ba j)))), (rm, .inr (4, [.int (nI 2), .ref a1, .ref a2, .ref a3, .ref a4, .ref a5, .ref a6, .ref a7, .ref a8, .ref a9, .int (nI tp), .int (nI mn), .ref b1, .int (nI bl), .ref b2, .ref b3, .int (nI jn), .int (nI sn), .ref b4, .ref b5, .ref b6, .ref b7, .ref b8, .int (nI wt), .int (nI wm), .int (nI wg), .long (lN wo), .int (nI wd), .ref b9]))] := hD
      have hP := hP.sub (ws' := [(rm, .inr (4, [.int (nI 2), .ref a1, .ref a2, .ref a3, .ref a4, .ref a5, .ref a6, .ref a7, .ref a8, .ref a9, .int (nI tp), .int (nI mn), .ref b1, .int (nI bl), .ref b2, .ref b3, .int (nI jn), .int (nI sn), .ref b4, .ref b5, .ref b6, .ref b7, .ref b8, .int (nI wt), .int (nI wm), .int (nI wg), .long (lN wo), .int (nI wd), .ref b9])), (b2, .inl (cI, 256, .inl (fun j => nI (ba j))))]) [1, 0] rfl
      have hD := hD.sub (ws' := [(rm, .inr (4, [.int (nI 2), .ref a1, .ref a2, .ref a3, .ref a4, .ref a5, .ref a6, .ref a7, .ref a8, .ref a9, .int (nI tp), .int (nI mn), .ref b1, .int (nI bl), .ref b2, .ref b3, .int (nI jn), .int (nI sn), .ref b4, .ref b5, .ref b6, .ref b7, .ref b8, .int (nI wt), .int (nI wm), .int (nI wg), .long (lN wo), .int (nI wd), .ref b9])), (b2, .inl (cI, 256, .inl (fun j => nI (ba j))))]) [1, 0] rfl rfl
      refine W.widen (k := 0) (n := 0) (by first | exact Nat.le_refl _ | omega) (by first | exact Nat.le_refl _ | omega) ?_
      exact k_retI (sz := 0) (v := nI 0) hx hb hr hlocks hAe hS hP hD () (rfl) (rfl) dX4_path_26
  · exact (by exact absurd c1 (by decide))
set_option maxHeartbeats 4000000 in
set_option maxRecDepth 100000 in
theorem c_X4_keep_s (l : Launch) (g : va_G) (cI cJ cZ : ClassId) (rm a1 a2 a3 a4 a5 a6 a7 a8 a9 b1 b2 b3 b4 b5 b6 b7 b8 b9 : Nat) (cd tp mn bl jn sn wt wm wg wo wd : Nat) (rc : Nat → Bool) (kp : Nat → Nat) (i mm : Nat) (htp : 0 < tp ∧ tp < 2 ^ 31) (hi : 1 ≤ i ∧ i ≤ 24) (hrc : rc i = true) (hm : mm ≤ 255) : kV l g (kty cI cJ cZ) yX4_keep wsX4_keep ({ frames := 1, cells := 0, slots := 0, locals := 25 }) [.ref rm, .int (nI i), .int (nI mm)] [(rm, .inr (4, [.int (nI cd), .ref a1, .ref a2, .ref a3, .ref a4, .ref a5, .ref a6, .ref a7, .ref a8, .ref a9, .int (nI tp), .int (nI mn), .ref b1, .int (nI bl), .ref b2, .ref b3, .int (nI jn), .int (nI sn), .ref b4, .ref b5, .ref b6, .ref b7, .ref b8, .int (nI wt), .int (nI wm), .int (nI wg), .long (lN wo), .int (nI wd), .ref b9])), (a7, .inl (cZ, 25, .inl (fun j => bI (rc j = true)))), (a9, .inl (cI, 25, .inl (fun j => nI (kp j))))] (S := Unit) (fun _ => True) (fun u => [(rm, .inr (4, [.int (nI 0), .ref a1, .ref a2, .ref a3, .ref a4, .ref a5, .ref a6, .ref a7, .ref a8, .ref a9, .int (nI tp), .int (nI mn), .ref b1, .int (nI bl), .ref b2, .ref b3, .int (nI jn), .int (nI sn), .ref b4, .ref b5, .ref b6, .ref b7, .ref b8, .int (nI wt), .int (nI wm), .int (nI wg), .long (lN wo), .int (nI wd), .ref b9])), (a7, .inl (cZ, 25, .inl (fun j => bI (rc j = true)))), (a9, .inl (cI, 25, .inl (fun j => nI ((upN kp i mm) j))))]) 0 0 := by
  intro sz
  refine Met.ofW (cc := cX4_keep) (maxL := 3) (ret := none) (by decide) rfl ?_
  intro p e s m args below meth c s₁ B hml hv
  obtain ⟨rfl, hsz, hP, hk, hD0⟩ := hv
  subst hsz
  have hx := B.exec
  have hb := B.bytes
  have hr := B.returns
  have hts := atoms_spec (ws := wsX4_keep) B.pre
  have hown : s.vm.findClass RX4 = some m.cls := findClass_of_methodNamed B.named
  have hlocks := B.notSynchronized
  have hK := hk.1
  have hinX4 : ∀ w ∈ wsX40, w ∈ wsX4_keep := by decide +kernel
  obtain ⟨A, hAe⟩ : ∃ A, va_A [(rm, .inr (4, [.int (nI cd), .ref a1, .ref a2, .ref a3, .ref a4, .ref a5, .ref a6, .ref a7, .ref a8, .ref a9, .int (nI tp), .int (nI mn), .ref b1, .int (nI bl), .ref b2, .ref b3, .int (nI jn), .int (nI sn), .ref b4, .ref b5, .ref b6, .ref b7, .ref b8, .int (nI wt), .int (nI wm), .int (nI wg), .long (lN wo), .int (nI wd), .ref b9])), (a7, .inl (cZ, 25, .inl (fun j => bI (rc j = true)))), (a9, .inl (cI, 25, .inl (fun j => nI (kp j))))] s.heap.size = A := ⟨_, rfl⟩
  have hD := hD0.self (sz := s.heap.size)
  rw [hAe] at hD
  have hA : ∀ q : Nat, s.heap.size ≤ q → A q := fun q h => by rw [← hAe]; exact Or.inr h
  have hS : va_S A s.heap s.heap [] := va_S.rf
  have hl := lv_entry ([.ref rm, .int (nI i), .int (nI mm)]) (n := 3) (Nat.le_of_ble_eq_true rfl)
  rw [lg_entry_eq]
  generalize (lg_sl ([.ref rm, .int (nI i), .int (nI mm)]) ++ List.replicate (3 - (lg_sl ([.ref rm, .int (nI i), .int (nI mm)])).length) Slot.unset).toArray = ls at hl ⊢
  have hl : lv_has ls 3 [(0, .ref rm), (1, .int (nI i)), (2, .int (nI mm))] := hl
  refine lv_aload_n hx hb dX4_keep_0 rfl (lv_at hl 0 rfl) ?_
  refine k_goI (wr := [(a7, .inl (cZ, 25, .inl (fun j => bI (rc j = true)))), (a9, .inl (cI, 25, .inl (fun j => nI (kp j))))]) (va_runV (As := []) (rest := []) ⟨hx, hb, hml, hown, hts⟩ (c_X4_isThere l g cI cJ cZ rm a1 a2 a3 a4 a5 a6 a7 a8 a9 b1 b2 b3 b4 b5 b6 b7 b8 b9 cd tp mn bl jn sn wt wm wg wo wd  htp _) (cwV 0 hts gX4_keep_X4_isThere rfl rfl rfl (by decide +kernel) ⟨Nat.le_of_ble_eq_true rfl, Nat.le_of_ble_eq_true rfl⟩) (k_preV hk hP hD [0] rfl rfl (ci := 4) (q0 := 0) rfl rfl) rfl rfl hl.1 rfl (lv_room (Nat.le_of_ble_eq_true rfl)) dX4_keep_1 ⟨by first | exact Nat.zero_le _ | omega, by first | exact Nat.zero_le _ | omega⟩) hP hD hS hA [0] [1, 2] rfl rfl rfl (by decide) (fun rv _ H locs hu hP hD hS => ?_)
  subst hu
  have hP : va_P g vwCl [(a7, .inl (cZ, 25, .inl (fun j => bI (rc j = true)))), (a9, .inl (cI, 25, .inl (fun j => nI (kp j)))), (rm, .inr (4, [.int (nI 0), .ref a1, .ref a2, .ref a3, .ref a4, .ref a5, .ref a6, .ref a7, .ref a8, .ref a9, .int (nI tp), .int (nI mn), .ref b1, .int (nI bl), .ref b2, .ref b3, .int (nI jn), .int (nI sn), .ref b4, .ref b5, .ref b6, .ref b7, .ref b8, .int (nI wt), .int (nI wm), .int (nI wg), .long (lN wo), .int (nI wd), .ref b9]))] H := hP
  have hD : va_D A [(a7, .inl (cZ, 25, .inl (fun j => bI (rc j = true)))), (a9, .inl (cI, 25, .inl (fun j => nI (kp j)))), (rm, .inr (4, [.int (nI 0), .ref a1, .ref a2, .ref a3, .ref a4, .ref a5, .ref a6, .ref a7, .ref a8, .ref a9, .int (nI tp), .int (nI mn), .ref b1, .int (nI bl), .ref b2, .ref b3, .int (nI jn), .int (nI sn), .ref b4, .ref b5, .ref b6, .ref b7, .ref b8, .int (nI wt), .int (nI wm), .int (nI wg), .long (lN wo), .int (nI wd), .ref b9]))] := hD
  refine n_if_ne (tgt := 8) hx hb dX4_keep_4 (by decide) (by first | assumption | omega) (fun c1 => ?_) (fun c1 => ?_)
  · skip
    refine lv_aload_n hx hb dX4_keep_8 rfl (lv_at hl 0 rfl) ?_
    refine lv_iload_n hx hb dX4_keep_9 rfl (lv_at hl 1 rfl) ?_
    refine lv_i2l hx hb dX4_keep_10 (nI_l (by first | assumption | omega)) ?_
    refine lv_lconst (v := lN 1) hx hb dX4_keep_11 (by decide) ?_
    refine lv_ldc2 hx hb (v := 24) hown (hts (.constantLong RX4 70 24) (by decide +kernel)) dX4_keep_12 ?_
    refine n_topl _ (lN 24) (by decide) ?_
    refine k_goR (W.runS (As := [.long (lN i), .long (lN 1), .long (lN 24)]) (rest := [.ref rm]) ⟨hx, hb, hml, hown, hts⟩ (c_X4_in l g cI cJ cZ  (lN i) (lN 1) (lN 24) ) (va_cwS 3 hts gX4_keep_X4_in rfl rfl rfl (by decide +kernel) ⟨Nat.le_of_ble_eq_true rfl, Nat.le_of_ble_eq_true rfl⟩) (k_preRS hk hP [] rfl) rfl rfl hl.1 rfl (lv_room (Nat.le_of_ble_eq_true rfl)) dX4_keep_15 ⟨by first | exact Nat.zero_le _ | omega, by first | exact Nat.zero_le _ | omega⟩) ?_
    refine n_top _ (bI (1 ≤ i ∧ i ≤ 24)) (bI_c (in_n (by omega) (by decide) (by decide))) ?_
    refine k_ifeq (tgt := 46) hx hb dX4_keep_18 (by decide) (fun c2 => ?_) (fun c2 => ?_)
    · exact (by exact absurd hi c2)
    · skip
      refine lv_aload_n hx hb dX4_keep_21 rfl (lv_at hl 0 rfl) ?_
      refine va_get (D := g) (ci := 4) (v := .ref a7) (C := RX4) (T := TX4) (N := 29) hx hb hts hinX4 hown hK hP 2 rfl rfl 7 (by decide) (hts (.fieldLink RX4 28 "BuddyRoofModel" "reached" "[Z") (by decide +kernel)) (fun _ h9 => h9) rfl dX4_keep_22 ?_
      refine lv_iload_n hx hb dX4_keep_25 rfl (lv_at hl 1 rfl) ?_
      refine n_zald (v := bI (rc i = true)) hx hb hK hP 0 2 rfl rfl (i := i) (by omega) (by decide) rfl dX4_keep_26 ?_
      refine k_ifeq (tgt := 46) hx hb dX4_keep_27 (by decide) (fun c3 => ?_) (fun c3 => ?_)
      · exact (by exact absurd hrc c3)
      · skip
        refine lv_iload_n hx hb dX4_keep_30 rfl (lv_at hl 2 rfl) ?_
        refine lv_i2l hx hb dX4_keep_31 (nI_l (by first | assumption | omega)) ?_
        refine lv_lconst (v := lN 0) hx hb dX4_keep_32 (by decide) ?_
        refine lv_ldc2 hx hb (v := 255) hown (hts (.constantLong RX4 175 255) (by decide +kernel)) dX4_keep_33 ?_
        refine n_topl _ (lN 255) (by decide) ?_
        refine k_goR (W.runS (As := [.long (lN mm), .long (lN 0), .long (lN 255)]) (rest := [.ref rm]) ⟨hx, hb, hml, hown, hts⟩ (c_X4_in l g cI cJ cZ  (lN mm) (lN 0) (lN 255) ) (va_cwS 3 hts gX4_keep_X4_in rfl rfl rfl (by decide +kernel) ⟨Nat.le_of_ble_eq_true rfl, Nat.le_of_ble_eq_true rfl⟩) (k_preRS hk hP [] rfl) rfl rfl hl.1 rfl (lv_room (Nat.le_of_ble_eq_true rfl)) dX4_keep_36 ⟨by first | exact Nat.zero_le _ | omega, by first | exact Nat.zero_le _ | omega⟩) ?_
        refine n_top _ (bI (0 ≤ mm ∧ mm ≤ 255)) (bI_c (in_n (by omega) (by decide) (by decide))) ?_
        refine k_ifeq (tgt := 46) hx hb dX4_keep_39 (by decide) (fun c4 => ?_) (fun c4 => ?_)
        · exact (by exact absurd ⟨Nat.zero_le _, hm⟩ c4)
        · skip
          refine lv_iconst (v := nI 0) hx hb dX4_keep_42 (by decide) ?_
          refine lv_goto (tgt := 47) hx hb dX4_keep_43 (by decide) ?_
          refine va_put (D := g) (ci := 4) (v := .int (nI 0)) (ty := .int) (C := RX4) (T := TX4) (N := 29) hx hb hts hinX4 tyX4 tyX4_ok nmX4 hown hK hP hD hS 2 rfl rfl 0 (by decide) (hts (.fieldLink RX4 66 "BuddyRoofModel" "code" "I") (by decide +kernel)) (fun _ h9 => h9) rfl (by decide +kernel) rfl rfl (Nat.le_of_ble_eq_true rfl) dX4_keep_47 (fun H locs hP hD hS => ?_)
          have hP : va_P g vwCl [(a7, .inl (cZ, 25, .inl (fun j => bI (rc j = true)))), (a9, .inl (cI, 25, .inl (fun j => nI (kp j)))), (rm, .inr (4, [.int (nI 0), .ref a1, .ref a2, .ref a3, .ref a4, .ref a5, .ref a6, .ref a7, .ref a8, .ref a9, .int (nI tp), .int (nI mn), .ref b1, .int (nI bl), .ref b2, .ref b3, .int (nI jn), .int (nI sn), .ref b4, .ref b5, .ref b6, .ref b7, .ref b8, .int (nI wt), .int (nI wm), .int (nI wg), .long (lN wo), .int (nI wd), .ref b9]))] H := hP
          have hD : va_D A [(a7, .inl (cZ, 25, .inl (fun j => bI (rc j = true)))), (a9, .inl (cI, 25, .inl (fun j => nI (kp j)))), (rm, .inr (4, [.int (nI 0), .ref a1, .ref a2, .ref a3, .ref a4, .ref a5, .ref a6, .ref a7, .ref a8, .ref a9, .int (nI tp), .int (nI mn), .ref b1, .int (nI bl), .ref b2, .ref b3, .int (nI jn), .int (nI sn), .ref b4, .ref b5, .ref b6, .ref b7, .ref b8, .int (nI wt), .int (nI wm), .int (nI wg), .long (lN wo), .int (nI wd), .ref b9]))] := hD
          refine lv_aload_n hx hb dX4_keep_50 rfl (lv_at hl 0 rfl) ?_
          refine va_get (D := g) (ci := 4) (v := .int (nI 0)) (C := RX4) (T := TX4) (N := 29) hx hb hts hinX4 hown hK hP 2 rfl rfl 0 (by decide) (hts (.fieldLink RX4 66 "BuddyRoofModel" "code" "I") (by decide +kernel)) (fun _ h9 => h9) rfl dX4_keep_51 ?_
          refine n_if_ne (tgt := 64) hx hb dX4_keep_54 (by decide) (by first | assumption | omega) (fun c5 => ?_) (fun c5 => ?_)
          · exact (by exact absurd c5 (by decide))
          · skip
            refine lv_aload_n hx hb dX4_keep_57 rfl (lv_at hl 0 rfl) ?_
            refine va_get (D := g) (ci := 4) (v := .ref a9) (C := RX4) (T := TX4) (N := 29) hx hb hts hinX4 hown hK hP 2 rfl rfl 9 (by decide) (hts (.fieldLink RX4 35 "BuddyRoofModel" "kept" "[I") (by decide +kernel)) (fun _ h9 => h9) rfl dX4_keep_58 ?_
            refine lv_iload_n hx hb dX4_keep_61 rfl (lv_at hl 1 rfl) ?_
            refine lv_iload_n hx hb dX4_keep_62 rfl (lv_at hl 2 rfl) ?_
            refine n_ast hx hb hK hP hD hS 1 0 rfl rfl (i := i) (v := mm) (by omega) (by decide) dX4_keep_63 (fun H locs hP hD hS => ?_)
            have hP : va_P g vwCl [(a7, .inl (cZ, 25, .inl (fun j => bI (rc j = true)))), (a9, .inl (cI, 25, .inl (fun j => nI ((upN kp i mm) j)))), (rm, .inr (4, [.int (nI 0), .ref a1, .ref a2, .ref a3, .ref a4, .ref a5, .ref a6, .ref a7, .ref a8, .ref a9, .int (nI tp), .int (nI mn), .ref b1, .int (nI bl), .ref b2, .ref b3, .int (nI jn), .int (nI sn), .ref b4, .ref b5, .ref b6, .ref b7, .ref b8, .int (nI wt), .int (nI wm), .int (nI wg), .long (lN wo), .int (nI wd), .ref b9]))] H := hP
            have hD : va_D A [(a7, .inl (cZ, 25, .inl (fun j => bI (rc j = true)))), (a9, .inl (cI, 25, .inl (fun j => nI ((upN kp i mm) j)))), (rm, .inr (4, [.int (nI 0), .ref a1, .ref a2, .ref a3, .ref a4, .ref a5, .ref a6, .ref a7, .ref a8, .ref a9, .int (nI tp), .int (nI mn), .ref b1, .int (nI bl), .ref b2, .ref b3, .int (nI jn), .int (nI sn), .ref b4, .ref b5, .ref b6, .ref b7, .ref b8, .int (nI wt), .int (nI wm), .int (nI wg), .long (lN wo), .int (nI wd), .ref b9]))] := hD
            have hP := hP.sub (ws' := [(rm, .inr (4, [.int (nI 0), .ref a1, .ref a2, .ref a3, .ref a4, .ref a5, .ref a6, .ref a7, .ref a8, .ref a9, .int (nI tp), .int (nI mn), .ref b1, .int (nI bl), .ref b2, .ref b3, .int (nI jn), .int (nI sn), .ref b4, .ref b5, .ref b6, .ref b7, .ref b8, .int (nI wt), .int (nI wm), .int (nI wg), .long (lN wo), .int (nI wd), .ref b9])), (a7, .inl (cZ, 25, .inl (fun j => bI (rc j = true)))), (a9, .inl (cI, 25, .inl (fun j => nI ((upN kp i mm) j))))]) [2, 0, 1] rfl
            have hD := hD.sub (ws' := [(rm, .inr (4, [.int (nI 0), .ref a1, .ref a2, .ref a3, .ref a4, .ref a5, .ref a6, .ref a7, .ref a8, .ref a9, .int (nI tp), .int (nI mn), .ref b1, .int (nI bl), .ref b2, .ref b3, .int (nI jn), .int (nI sn), .ref b4, .ref b5, .ref b6, .ref b7, .ref b8, .int (nI wt), .int (nI wm), .int (nI wg), .long (lN wo), .int (nI wd), .ref b9])), (a7, .inl (cZ, 25, .inl (fun j => bI (rc j = true)))), (a9, .inl (cI, 25, .inl (fun j => nI ((upN kp i mm) j))))]) [2, 0, 1] rfl rfl
            refine W.widen (k := 0) (n := 0) (by first | exact Nat.le_refl _ | omega) (by first | exact Nat.le_refl _ | omega) ?_
            exact k_retV (sz := 0) hx hb hr hlocks hAe hS hP hD () (rfl) (trivial) dX4_keep_64
  · exact (by exact absurd c1 (by decide))
set_option maxHeartbeats 4000000 in
set_option maxRecDepth 100000 in
theorem c_X4_keep_e (l : Launch) (g : va_G) (cI cJ cZ : ClassId) (rm a1 a2 a3 a4 a5 a6 a7 a8 a9 b1 b2 b3 b4 b5 b6 b7 b8 b9 : Nat) (cd tp mn bl jn sn wt wm wg wo wd : Nat) (rc : Nat → Bool) (v v2 : Int32) (htp : 0 < tp ∧ tp < 2 ^ 31) (hbad : ∀ i, 1 ≤ i → i ≤ 24 → v = nI i → rc i = true → ¬ (nI 0 ≤ v2 ∧ v2 ≤ nI 255)) : kV l g (kty cI cJ cZ) yX4_keep wsX4_keep ({ frames := 1, cells := 0, slots := 0, locals := 25 }) [.ref rm, .int v, .int v2] [(rm, .inr (4, [.int (nI cd), .ref a1, .ref a2, .ref a3, .ref a4, .ref a5, .ref a6, .ref a7, .ref a8, .ref a9, .int (nI tp), .int (nI mn), .ref b1, .int (nI bl), .ref b2, .ref b3, .int (nI jn), .int (nI sn), .ref b4, .ref b5, .ref b6, .ref b7, .ref b8, .int (nI wt), .int (nI wm), .int (nI wg), .long (lN wo), .int (nI wd), .ref b9])), (a7, .inl (cZ, 25, .inl (fun j => bI (rc j = true))))] (S := Unit) (fun _ => True) (fun u => [(rm, .inr (4, [.int (nI 2), .ref a1, .ref a2, .ref a3, .ref a4, .ref a5, .ref a6, .ref a7, .ref a8, .ref a9, .int (nI tp), .int (nI mn), .ref b1, .int (nI bl), .ref b2, .ref b3, .int (nI jn), .int (nI sn), .ref b4, .ref b5, .ref b6, .ref b7, .ref b8, .int (nI wt), .int (nI wm), .int (nI wg), .long (lN wo), .int (nI wd), .ref b9])), (a7, .inl (cZ, 25, .inl (fun j => bI (rc j = true))))]) 0 0 := by
  intro sz
  refine Met.ofW (cc := cX4_keep) (maxL := 3) (ret := none) (by decide) rfl ?_
  intro p e s m args below meth c s₁ B hml hv
  obtain ⟨rfl, hsz, hP, hk, hD0⟩ := hv
  subst hsz
  have hx := B.exec
  have hb := B.bytes
  have hr := B.returns
  have hts := atoms_spec (ws := wsX4_keep) B.pre
  have hown : s.vm.findClass RX4 = some m.cls := findClass_of_methodNamed B.named
  have hlocks := B.notSynchronized
  have hK := hk.1
  have hinX4 : ∀ w ∈ wsX40, w ∈ wsX4_keep := by decide +kernel
  obtain ⟨A, hAe⟩ : ∃ A, va_A [(rm, .inr (4, [.int (nI cd), .ref a1, .ref a2, .ref a3, .ref a4, .ref a5, .ref a6, .ref a7, .ref a8, .ref a9, .int (nI tp), .int (nI mn), .ref b1, .int (nI bl), .ref b2, .ref b3, .int (nI jn), .int (nI sn), .ref b4, .ref b5, .ref b6, .ref b7, .ref b8, .int (nI wt), .int (nI wm), .int (nI wg), .long (lN wo), .int (nI wd), .ref b9])), (a7, .inl (cZ, 25, .inl (fun j => bI (rc j = true))))] s.heap.size = A := ⟨_, rfl⟩
  have hD := hD0.self (sz := s.heap.size)
  rw [hAe] at hD
  have hA : ∀ q : Nat, s.heap.size ≤ q → A q := fun q h => by rw [← hAe]; exact Or.inr h
  have hS : va_S A s.heap s.heap [] := va_S.rf
  have hl := lv_entry ([.ref rm, .int v, .int v2]) (n := 3) (Nat.le_of_ble_eq_true rfl)
  rw [lg_entry_eq]
  generalize (lg_sl ([.ref rm, .int v, .int v2]) ++ List.replicate (3 - (lg_sl ([.ref rm, .int v, .int v2])).length) Slot.unset).toArray = ls at hl ⊢
  have hl : lv_has ls 3 [(0, .ref rm), (1, .int v), (2, .int v2)] := hl
  refine lv_aload_n hx hb dX4_keep_0 rfl (lv_at hl 0 rfl) ?_
  refine k_goI (wr := [(a7, .inl (cZ, 25, .inl (fun j => bI (rc j = true))))]) (va_runV (As := []) (rest := []) ⟨hx, hb, hml, hown, hts⟩ (c_X4_isThere l g cI cJ cZ rm a1 a2 a3 a4 a5 a6 a7 a8 a9 b1 b2 b3 b4 b5 b6 b7 b8 b9 cd tp mn bl jn sn wt wm wg wo wd  htp _) (cwV 0 hts gX4_keep_X4_isThere rfl rfl rfl (by decide +kernel) ⟨Nat.le_of_ble_eq_true rfl, Nat.le_of_ble_eq_true rfl⟩) (k_preV hk hP hD [0] rfl rfl (ci := 4) (q0 := 0) rfl rfl) rfl rfl hl.1 rfl (lv_room (Nat.le_of_ble_eq_true rfl)) dX4_keep_1 ⟨by first | exact Nat.zero_le _ | omega, by first | exact Nat.zero_le _ | omega⟩) hP hD hS hA [0] [1] rfl rfl rfl (by decide) (fun rv _ H locs hu hP hD hS => ?_)
  subst hu
  have hP : va_P g vwCl [(a7, .inl (cZ, 25, .inl (fun j => bI (rc j = true)))), (rm, .inr (4, [.int (nI 0), .ref a1, .ref a2, .ref a3, .ref a4, .ref a5, .ref a6, .ref a7, .ref a8, .ref a9, .int (nI tp), .int (nI mn), .ref b1, .int (nI bl), .ref b2, .ref b3, .int (nI jn), .int (nI sn), .ref b4, .ref b5, .ref b6, .ref b7, .ref b8, .int (nI wt), .int (nI wm), .int (nI wg), .long (lN wo), .int (nI wd), .ref b9]))] H := hP
  have hD : va_D A [(a7, .inl (cZ, 25, .inl (fun j => bI (rc j = true)))), (rm, .inr (4, [.int (nI 0), .ref a1, .ref a2, .ref a3, .ref a4, .ref a5, .ref a6, .ref a7, .ref a8, .ref a9, .int (nI tp), .int (nI mn), .ref b1, .int (nI bl), .ref b2, .ref b3, .int (nI jn), .int (nI sn), .ref b4, .ref b5, .ref b6, .ref b7, .ref b8, .int (nI wt), .int (nI wm), .int (nI wg), .long (lN wo), .int (nI wd), .ref b9]))] := hD
  refine n_if_ne (tgt := 8) hx hb dX4_keep_4 (by decide) (by first | assumption | omega) (fun c1 => ?_) (fun c1 => ?_)
  · skip
    refine lv_aload_n hx hb dX4_keep_8 rfl (lv_at hl 0 rfl) ?_
    refine lv_iload_n hx hb dX4_keep_9 rfl (lv_at hl 1 rfl) ?_
    refine lv_i2l hx hb dX4_keep_10 rfl ?_
    refine lv_lconst (v := lN 1) hx hb dX4_keep_11 (by decide) ?_
    refine lv_ldc2 hx hb (v := 24) hown (hts (.constantLong RX4 70 24) (by decide +kernel)) dX4_keep_12 ?_
    refine n_topl _ (lN 24) (by decide) ?_
    refine k_goR (W.runS (As := [.long ((v).toInt64), .long (lN 1), .long (lN 24)]) (rest := [.ref rm]) ⟨hx, hb, hml, hown, hts⟩ (c_X4_in l g cI cJ cZ  (v).toInt64 (lN 1) (lN 24) ) (va_cwS 3 hts gX4_keep_X4_in rfl rfl rfl (by decide +kernel) ⟨Nat.le_of_ble_eq_true rfl, Nat.le_of_ble_eq_true rfl⟩) (k_preRS hk hP [] rfl) rfl rfl hl.1 rfl (lv_room (Nat.le_of_ble_eq_true rfl)) dX4_keep_15 ⟨by first | exact Nat.zero_le _ | omega, by first | exact Nat.zero_le _ | omega⟩) ?_
    refine n_top _ (bI (nI 1 ≤ v ∧ v ≤ nI 24)) (bI_c (in_i (by decide) (by decide))) ?_
    refine k_ifeq (tgt := 46) hx hb dX4_keep_18 (by decide) (fun c2 => ?_) (fun c2 => ?_)
    · skip
      refine lv_iconst (v := nI 2) hx hb dX4_keep_46 (by decide) ?_
      refine va_put (D := g) (ci := 4) (v := .int (nI 2)) (ty := .int) (C := RX4) (T := TX4) (N := 29) hx hb hts hinX4 tyX4 tyX4_ok nmX4 hown hK hP hD hS 1 rfl rfl 0 (by decide) (hts (.fieldLink RX4 66 "BuddyRoofModel" "code" "I") (by decide +kernel)) (fun _ h9 => h9) rfl (by decide +kernel) rfl rfl (Nat.le_of_ble_eq_true rfl) dX4_keep_47 (fun H locs hP hD hS => ?_)
      have hP : va_P g vwCl [(a7, .inl (cZ, 25, .inl (fun j => bI (rc j = true)))), (rm, .inr (4, [.int (nI 2), .ref a1, .ref a2, .ref a3, .ref a4, .ref a5, .ref a6, .ref a7, .ref a8, .ref a9, .int (nI tp), .int (nI mn), .ref b1, .int (nI bl), .ref b2, .ref b3, .int (nI jn), .int (nI sn), .ref b4, .ref b5, .ref b6, .ref b7, .ref b8, .int (nI wt), .int (nI wm), .int (nI wg), .long (lN wo), .int (nI wd), .ref b9]))] H := hP
      have hD : va_D A [(a7, .inl (cZ, 25, .inl (fun j => bI (rc j = true)))), (rm, .inr (4, [.int (nI 2), .ref a1, .ref a2, .ref a3, .ref a4, .ref a5, .ref a6, .ref a7, .ref a8, .ref a9, .int (nI tp), .int (nI mn), .ref b1, .int (nI bl), .ref b2, .ref b3, .int (nI jn), .int (nI sn), .ref b4, .ref b5, .ref b6, .ref b7, .ref b8, .int (nI wt), .int (nI wm), .int (nI wg), .long (lN wo), .int (nI wd), .ref b9]))] := hD
      refine lv_aload_n hx hb dX4_keep_50 rfl (lv_at hl 0 rfl) ?_
      refine va_get (D := g) (ci := 4) (v := .int (nI 2)) (C := RX4) (T := TX4) (N := 29) hx hb hts hinX4 hown hK hP 1 rfl rfl 0 (by decide) (hts (.fieldLink RX4 66 "BuddyRoofModel" "code" "I") (by decide +kernel)) (fun _ h9 => h9) rfl dX4_keep_51 ?_
      refine n_if_ne (tgt := 64) hx hb dX4_keep_54 (by decide) (by first | assumption | omega) (fun c3 => ?_) (fun c3 => ?_)
      · skip
        have hP := hP.sub (ws' := [(rm, .inr (4, [.int (nI 2), .ref a1, .ref a2, .ref a3, .ref a4, .ref a5, .ref a6, .ref a7, .ref a8, .ref a9, .int (nI tp), .int (nI mn), .ref b1, .int (nI bl), .ref b2, .ref b3, .int (nI jn), .int (nI sn), .ref b4, .ref b5, .ref b6, .ref b7, .ref b8, .int (nI wt), .int (nI wm), .int (nI wg), .long (lN wo), .int (nI wd), .ref b9])), (a7, .inl (cZ, 25, .inl (fun j => bI (rc j = true))))]) [1, 0] rfl
        have hD := hD.sub (ws' := [(rm, .inr (4, [.int (nI 2), .ref a1, .ref a2, .ref a3, .ref a4, .ref a5, .ref a6, .ref a7, .ref a8, .ref a9, .int (nI tp), .int (nI mn), .ref b1, .int (nI bl), .ref b2, .ref b3, .int (nI jn), .int (nI sn), .ref b4, .ref b5, .ref b6, .ref b7, .ref b8, .int (nI wt), .int (nI wm), .int (nI wg), .long (lN wo), .int (nI wd), .ref b9])), (a7, .inl (cZ, 25, .inl (fun j => bI (rc j = true))))]) [1, 0] rfl rfl
        refine W.widen (k := 0) (n := 0) (by first | exact Nat.le_refl _ | omega) (by first | exact Nat.le_refl _ | omega) ?_
        exact k_retV (sz := 0) hx hb hr hlocks hAe hS hP hD () (rfl) (trivial) dX4_keep_64
      · exact (by exact absurd c3 (by decide))
    · skip
      obtain ⟨ii, i1, i2, i3, -⟩ := cls_of c2
      rw [i3] at hl
      refine lv_aload_n hx hb dX4_keep_21 rfl (lv_at hl 0 rfl) ?_
      refine va_get (D := g) (ci := 4) (v := .ref a7) (C := RX4) (T := TX4) (N := 29) hx hb hts hinX4 hown hK hP 1 rfl rfl 7 (by decide) (hts (.fieldLink RX4 28 "BuddyRoofModel" "reached" "[Z") (by decide +kernel)) (fun _ h9 => h9) rfl dX4_keep_22 ?_
      refine lv_iload_n hx hb dX4_keep_25 rfl (lv_at hl 1 rfl) ?_
      refine n_zald (v := bI (rc ii = true)) hx hb hK hP 0 2 rfl rfl (i := ii) (by omega) (by decide) rfl dX4_keep_26 ?_
      refine k_ifeq (tgt := 46) hx hb dX4_keep_27 (by decide) (fun c4 => ?_) (fun c4 => ?_)
      · skip
        refine lv_iconst (v := nI 2) hx hb dX4_keep_46 (by decide) ?_
        refine va_put (D := g) (ci := 4) (v := .int (nI 2)) (ty := .int) (C := RX4) (T := TX4) (N := 29) hx hb hts hinX4 tyX4 tyX4_ok nmX4 hown hK hP hD hS 1 rfl rfl 0 (by decide) (hts (.fieldLink RX4 66 "BuddyRoofModel" "code" "I") (by decide +kernel)) (fun _ h9 => h9) rfl (by decide +kernel) rfl rfl (Nat.le_of_ble_eq_true rfl) dX4_keep_47 (fun H locs hP hD hS => ?_)
        have hP : va_P g vwCl [(a7, .inl (cZ, 25, .inl (fun j => bI (rc j = true)))), (rm, .inr (4, [.int (nI 2), .ref a1, .ref a2, .ref a3, .ref a4, .ref a5, .ref a6, .ref a7, .ref a8, .ref a9, .int (nI tp), .int (nI mn), .ref b1, .int (nI bl), .ref b2, .ref b3, .int (nI jn), .int (nI sn), .ref b4, .ref b5, .ref b6, .ref b7, .ref b8, .int (nI wt), .int (nI wm), .int (nI wg), .long (lN wo), .int (nI wd), .ref b9]))] H := hP
        have hD : va_D A [(a7, .inl (cZ, 25, .inl (fun j => bI (rc j = true)))), (rm, .inr (4, [.int (nI 2), .ref a1, .ref a2, .ref a3, .ref a4, .ref a5, .ref a6, .ref a7, .ref a8, .ref a9, .int (nI tp), .int (nI mn), .ref b1, .int (nI bl), .ref b2, .ref b3, .int (nI jn), .int (nI sn), .ref b4, .ref b5, .ref b6, .ref b7, .ref b8, .int (nI wt), .int (nI wm), .int (nI wg), .long (lN wo), .int (nI wd), .ref b9]))] := hD
        refine lv_aload_n hx hb dX4_keep_50 rfl (lv_at hl 0 rfl) ?_
        refine va_get (D := g) (ci := 4) (v := .int (nI 2)) (C := RX4) (T := TX4) (N := 29) hx hb hts hinX4 hown hK hP 1 rfl rfl 0 (by decide) (hts (.fieldLink RX4 66 "BuddyRoofModel" "code" "I") (by decide +kernel)) (fun _ h9 => h9) rfl dX4_keep_51 ?_
        refine n_if_ne (tgt := 64) hx hb dX4_keep_54 (by decide) (by first | assumption | omega) (fun c5 => ?_) (fun c5 => ?_)
        · skip
          have hP := hP.sub (ws' := [(rm, .inr (4, [.int (nI 2), .ref a1, .ref a2, .ref a3, .ref a4, .ref a5, .ref a6, .ref a7, .ref a8, .ref a9, .int (nI tp), .int (nI mn), .ref b1, .int (nI bl), .ref b2, .ref b3, .int (nI jn), .int (nI sn), .ref b4, .ref b5, .ref b6, .ref b7, .ref b8, .int (nI wt), .int (nI wm), .int (nI wg), .long (lN wo), .int (nI wd), .ref b9])), (a7, .inl (cZ, 25, .inl (fun j => bI (rc j = true))))]) [1, 0] rfl
          have hD := hD.sub (ws' := [(rm, .inr (4, [.int (nI 2), .ref a1, .ref a2, .ref a3, .ref a4, .ref a5, .ref a6, .ref a7, .ref a8, .ref a9, .int (nI tp), .int (nI mn), .ref b1, .int (nI bl), .ref b2, .ref b3, .int (nI jn), .int (nI sn), .ref b4, .ref b5, .ref b6, .ref b7, .ref b8, .int (nI wt), .int (nI wm), .int (nI wg), .long (lN wo), .int (nI wd), .ref b9])), (a7, .inl (cZ, 25, .inl (fun j => bI (rc j = true))))]) [1, 0] rfl rfl
          refine W.widen (k := 0) (n := 0) (by first | exact Nat.le_refl _ | omega) (by first | exact Nat.le_refl _ | omega) ?_
          exact k_retV (sz := 0) hx hb hr hlocks hAe hS hP hD () (rfl) (trivial) dX4_keep_64
        · exact (by exact absurd c5 (by decide))
      · skip
        refine lv_iload_n hx hb dX4_keep_30 rfl (lv_at hl 2 rfl) ?_
        refine lv_i2l hx hb dX4_keep_31 rfl ?_
        refine lv_lconst (v := lN 0) hx hb dX4_keep_32 (by decide) ?_
        refine lv_ldc2 hx hb (v := 255) hown (hts (.constantLong RX4 175 255) (by decide +kernel)) dX4_keep_33 ?_
        refine n_topl _ (lN 255) (by decide) ?_
        refine k_goR (W.runS (As := [.long ((v2).toInt64), .long (lN 0), .long (lN 255)]) (rest := [.ref rm]) ⟨hx, hb, hml, hown, hts⟩ (c_X4_in l g cI cJ cZ  (v2).toInt64 (lN 0) (lN 255) ) (va_cwS 3 hts gX4_keep_X4_in rfl rfl rfl (by decide +kernel) ⟨Nat.le_of_ble_eq_true rfl, Nat.le_of_ble_eq_true rfl⟩) (k_preRS hk hP [] rfl) rfl rfl hl.1 rfl (lv_room (Nat.le_of_ble_eq_true rfl)) dX4_keep_36 ⟨by first | exact Nat.zero_le _ | omega, by first | exact Nat.zero_le _ | omega⟩) ?_
        refine n_top _ (bI (nI 0 ≤ v2 ∧ v2 ≤ nI 255)) (bI_c (in_i (by decide) (by decide))) ?_
        refine k_ifeq (tgt := 46) hx hb dX4_keep_39 (by decide) (fun c6 => ?_) (fun c6 => ?_)
        · skip
          refine lv_iconst (v := nI 2) hx hb dX4_keep_46 (by decide) ?_
          refine va_put (D := g) (ci := 4) (v := .int (nI 2)) (ty := .int) (C := RX4) (T := TX4) (N := 29) hx hb hts hinX4 tyX4 tyX4_ok nmX4 hown hK hP hD hS 1 rfl rfl 0 (by decide) (hts (.fieldLink RX4 66 "BuddyRoofModel" "code" "I") (by decide +kernel)) (fun _ h9 => h9) rfl (by decide +kernel) rfl rfl (Nat.le_of_ble_eq_true rfl) dX4_keep_47 (fun H locs hP hD hS => ?_)
          have hP : va_P g vwCl [(a7, .inl (cZ, 25, .inl (fun j => bI (rc j = true)))), (rm, .inr (4, [.int (nI 2), .ref a1, .ref a2, .ref a3, .ref a4, .ref a5, .ref a6, .ref a7, .ref a8, .ref a9, .int (nI tp), .int (nI mn), .ref b1, .int (nI bl), .ref b2, .ref b3, .int (nI jn), .int (nI sn), .ref b4, .ref b5, .ref b6, .ref b7, .ref b8, .int (nI wt), .int (nI wm), .int (nI wg), .long (lN wo), .int (nI wd), .ref b9]))] H := hP
          have hD : va_D A [(a7, .inl (cZ, 25, .inl (fun j => bI (rc j = true)))), (rm, .inr (4, [.int (nI 2), .ref a1, .ref a2, .ref a3, .ref a4, .ref a5, .ref a6, .ref a7, .ref a8, .ref a9, .int (nI tp), .int (nI mn), .ref b1, .int (nI bl), .ref b2, .ref b3, .int (nI jn), .int (nI sn), .ref b4, .ref b5, .ref b6, .ref b7, .ref b8, .int (nI wt), .int (nI wm), .int (nI wg), .long (lN wo), .int (nI wd), .ref b9]))] := hD
          refine lv_aload_n hx hb dX4_keep_50 rfl (lv_at hl 0 rfl) ?_
          refine va_get (D := g) (ci := 4) (v := .int (nI 2)) (C := RX4) (T := TX4) (N := 29) hx hb hts hinX4 hown hK hP 1 rfl rfl 0 (by decide) (hts (.fieldLink RX4 66 "BuddyRoofModel" "code" "I") (by decide +kernel)) (fun _ h9 => h9) rfl dX4_keep_51 ?_
          refine n_if_ne (tgt := 64) hx hb dX4_keep_54 (by decide) (by first | assumption | omega) (fun c7 => ?_) (fun c7 => ?_)
          · skip
            have hP := hP.sub (ws' := [(rm, .inr (4, [.int (nI 2), .ref a1, .ref a2, .ref a3, .ref a4, .ref a5, .ref a6, .ref a7, .ref a8, .ref a9, .int (nI tp), .int (nI mn), .ref b1, .int (nI bl), .ref b2, .ref b3, .int (nI jn), .int (nI sn), .ref b4, .ref b5, .ref b6, .ref b7, .ref b8, .int (nI wt), .int (nI wm), .int (nI wg), .long (lN wo), .int (nI wd), .ref b9])), (a7, .inl (cZ, 25, .inl (fun j => bI (rc j = true))))]) [1, 0] rfl
            have hD := hD.sub (ws' := [(rm, .inr (4, [.int (nI 2), .ref a1, .ref a2, .ref a3, .ref a4, .ref a5, .ref a6, .ref a7, .ref a8, .ref a9, .int (nI tp), .int (nI mn), .ref b1, .int (nI bl), .ref b2, .ref b3, .int (nI jn), .int (nI sn), .ref b4, .ref b5, .ref b6, .ref b7, .ref b8, .int (nI wt), .int (nI wm), .int (nI wg), .long (lN wo), .int (nI wd), .ref b9])), (a7, .inl (cZ, 25, .inl (fun j => bI (rc j = true))))]) [1, 0] rfl rfl
            refine W.widen (k := 0) (n := 0) (by first | exact Nat.le_refl _ | omega) (by first | exact Nat.le_refl _ | omega) ?_
            exact k_retV (sz := 0) hx hb hr hlocks hAe hS hP hD () (rfl) (trivial) dX4_keep_64
          · exact (by exact absurd c7 (by decide))
        · exact (by exact absurd c6 (hbad ii i1 i2 i3 c4))
  · exact (by exact absurd c1 (by decide))
set_option maxHeartbeats 4000000 in
set_option maxRecDepth 100000 in
theorem c_X4_join_s (l : Launch) (g : va_G) (cI cJ cZ : ClassId) (rm a1 a2 a3 a4 a5 a6 a7 a8 a9 b1 b2 b3 b4 b5 b6 b7 b8 b9 : Nat) (cd tp bl jn sn wt wm wg wo wd : Nat) (sz lf rt : Nat → Int32) (S L R : Nat → Nat) (rc : Nat → Bool) (sp0 : Nat → Bool) (rq nd0 : Nat → Nat) (htp : 0 < tp ∧ tp < 2 ^ 31) (hR : RuleOK S L R rc tp) (hT0 : TOK tp S L R sp0 rq) (hW0 : nW tp S L R rq nd0 (lvs sp0 1)) (hlen0 : (lvs sp0 1).length ≤ 14000) (hrl : rOK S L R rc sz lf rt) : kI l g (kty cI cJ cZ) yX4_join wsX4_join ({ frames := 3, cells := 0, slots := 0, locals := 70 }) [.ref rm] [(rm, .inr (4, [.int (nI cd), .ref a1, .ref a2, .ref a3, .ref a4, .ref a5, .ref a6, .ref a7, .ref a8, .ref a9, .int (nI tp), .int (nI ((lvs sp0 1).length)), .ref b1, .int (nI bl), .ref b2, .ref b3, .int (nI jn), .int (nI sn), .ref b4, .ref b5, .ref b6, .ref b7, .ref b8, .int (nI wt), .int (nI wm), .int (nI wg), .long (lN wo), .int (nI wd), .ref b9])), (b1, .inl (cJ, 14000, .inr (.inl (fun j => lN (nd0 j))))), (a4, .inl (cI, 25, .inl sz)), (a5, .inl (cI, 25, .inl lf)), (a6, .inl (cI, 25, .inl rt))] (S := Nat → Nat) (fun r u => r = nI ((lvs sp0 1).length - (lvs (jal sp0 rq) 1).length) ∧ nW tp S L R rq u (lvs (jal sp0 rq) 1)) (fun u => [(rm, .inr (4, [.int (nI 0), .ref a1, .ref a2, .ref a3, .ref a4, .ref a5, .ref a6, .ref a7, .ref a8, .ref a9, .int (nI tp), .int (nI ((lvs (jal sp0 rq) 1).length)), .ref b1, .int (nI bl), .ref b2, .ref b3, .int (nI (jn + ((lvs sp0 1).length - (lvs (jal sp0 rq) 1).length))), .int (nI sn), .ref b4, .ref b5, .ref b6, .ref b7, .ref b8, .int (nI wt), .int (nI wm), .int (nI wg), .long (lN wo), .int (nI wd), .ref b9])), (b1, .inl (cJ, 14000, .inr (.inl (fun j => lN (u j))))), (a4, .inl (cI, 25, .inl sz)), (a5, .inl (cI, 25, .inl lf)), (a6, .inl (cI, 25, .inl rt))]) 0 0 := by
  intro sz
  refine Met.ofW (cc := cX4_join) (maxL := 1) (ret := (some .int)) (by decide) rfl ?_
  intro p e s m args below meth c s₁ B hml hv
  obtain ⟨rfl, hsz, hP, hk, hD0⟩ := hv
  subst hsz
  have hx := B.exec
  have hb := B.bytes
  have hr := B.returns
  have hts := atoms_spec (ws := wsX4_join) B.pre
  have hown : s.vm.findClass RX4 = some m.cls := findClass_of_methodNamed B.named
  have hlocks := B.notSynchronized
  have hK := hk.1
  obtain ⟨A, hAe⟩ : ∃ A, va_A [(rm, .inr (4, [.int (nI cd), .ref a1, .ref a2, .ref a3, .ref a4, .ref a5, .ref a6, .ref a7, .ref a8, .ref a9, .int (nI tp), .int (nI ((lvs sp0 1).length)), .ref b1, .int (nI bl), .ref b2, .ref b3, .int (nI jn), .int (nI sn), .ref b4, .ref b5, .ref b6, .ref b7, .ref b8, .int (nI wt), .int (nI wm), .int (nI wg), .long (lN wo), .int (nI wd), .ref b9])), (b1, .inl (cJ, 14000, .inr (.inl (fun j => lN (nd0 j))))), (a4, .inl (cI, 25, .inl sz)), (a5, .inl (cI, 25, .inl lf)), (a6, .inl (cI, 25, .inl rt))] s.heap.size = A := ⟨_, rfl⟩
  have hD := hD0.self (sz := s.heap.size)
  rw [hAe] at hD
  have hA : ∀ q : Nat, s.heap.size ≤ q → A q := fun q h => by rw [← hAe]; exact Or.inr h
  have hS : va_S A s.heap s.heap [] := va_S.rf
  have hl := lv_entry ([.ref rm]) (n := 1) (Nat.le_of_ble_eq_true rfl)
  rw [lg_entry_eq]
  generalize (lg_sl ([.ref rm]) ++ List.replicate (1 - (lg_sl ([.ref rm])).length) Slot.unset).toArray = ls at hl ⊢
  have hl : lv_has ls 1 [(0, .ref rm)] := hl
  refine lv_aload_n hx hb dX4_join_0 rfl (lv_at hl 0 rfl) ?_
  refine k_goI (wr := [(b1, .inl (cJ, 14000, .inr (.inl (fun j => lN (nd0 j))))), (a4, .inl (cI, 25, .inl sz)), (a5, .inl (cI, 25, .inl lf)), (a6, .inl (cI, 25, .inl rt))]) (va_runV (As := []) (rest := []) ⟨hx, hb, hml, hown, hts⟩ (c_X4_isThere l g cI cJ cZ rm a1 a2 a3 a4 a5 a6 a7 a8 a9 b1 b2 b3 b4 b5 b6 b7 b8 b9 cd tp ((lvs sp0 1).length) bl jn sn wt wm wg wo wd  htp _) (cwV 0 hts gX4_join_X4_isThere rfl rfl rfl (by decide +kernel) ⟨Nat.le_of_ble_eq_true rfl, Nat.le_of_ble_eq_true rfl⟩) (k_preV hk hP hD [0] rfl rfl (ci := 4) (q0 := 0) rfl rfl) rfl rfl hl.1 rfl (lv_room (Nat.le_of_ble_eq_true rfl)) dX4_join_1 ⟨by first | exact Nat.zero_le _ | omega, by first | exact Nat.zero_le _ | omega⟩) hP hD hS hA [0] [1, 2, 3, 4] rfl rfl rfl (by decide) (fun rv _ H locs hu hP hD hS => ?_)
  subst hu
  have hP : va_P g vwCl [(b1, .inl (cJ, 14000, .inr (.inl (fun j => lN (nd0 j))))), (a4, .inl (cI, 25, .inl sz)), (a5, .inl (cI, 25, .inl lf)), (a6, .inl (cI, 25, .inl rt)), (rm, .inr (4, [.int (nI 0), .ref a1, .ref a2, .ref a3, .ref a4, .ref a5, .ref a6, .ref a7, .ref a8, .ref a9, .int (nI tp), .int (nI ((lvs sp0 1).length)), .ref b1, .int (nI bl), .ref b2, .ref b3, .int (nI jn), .int (nI sn), .ref b4, .ref b5, .ref b6, .ref b7, .ref b8, .int (nI wt), .int (nI wm), .int (nI wg), .long (lN wo), .int (nI wd), .ref b9]))] H := hP
  have hD : va_D A [(b1, .inl (cJ, 14000, .inr (.inl (fun j => lN (nd0 j))))), (a4, .inl (cI, 25, .inl sz)), (a5, .inl (cI, 25, .inl lf)), (a6, .inl (cI, 25, .inl rt)), (rm, .inr (4, [.int (nI 0), .ref a1, .ref a2, .ref a3, .ref a4, .ref a5, .ref a6, .ref a7, .ref a8, .ref a9, .int (nI tp), .int (nI ((lvs sp0 1).length)), .ref b1, .int (nI bl), .ref b2, .ref b3, .int (nI jn), .int (nI sn), .ref b4, .ref b5, .ref b6, .ref b7, .ref b8, .int (nI wt), .int (nI wm), .int (nI wg), .long (lN wo), .int (nI wd), .ref b9]))] := hD
  refine n_if_eq (tgt := 14) hx hb dX4_join_4 (by decide) (by first | assumption | omega) (fun c1 => ?_) (fun c1 => ?_)
  · exact (by exact absurd c1 (by decide))
  · skip
    refine lv_aload_n hx hb dX4_join_7 rfl (lv_at hl 0 rfl) ?_
    refine k_goI (wr := []) (va_runV (As := []) (rest := []) ⟨hx, hb, hml, hown, hts⟩ (c_X4_joinAll l g cI cJ cZ rm a1 a2 a3 a4 a5 a6 a7 a8 a9 b1 b2 b3 b4 b5 b6 b7 b8 b9 0 tp bl jn sn wt wm wg wo wd sz lf rt S L R rc sp0 rq nd0  hR hT0 hW0 hlen0 hrl _) (cwV 0 hts gX4_join_X4_joinAll rfl rfl rfl (by decide +kernel) ⟨Nat.le_of_ble_eq_true rfl, Nat.le_of_ble_eq_true rfl⟩) (k_preV hk hP hD [4, 0, 1, 2, 3] rfl rfl (ci := 4) (q0 := 0) rfl rfl) rfl rfl hl.1 rfl (lv_room (Nat.le_of_ble_eq_true rfl)) dX4_join_8 ⟨by first | exact Nat.zero_le _ | omega, by first | exact Nat.zero_le _ | omega⟩) hP hD hS hA [4, 0, 1, 2, 3] [] rfl rfl rfl (by decide) (fun rv nd1 H locs hu hP hD hS => ?_)
    obtain ⟨hrv, hW1, hle1⟩ := hu
    subst hrv
    have hP : va_P g vwCl [(rm, .inr (4, [.int (nI 0), .ref a1, .ref a2, .ref a3, .ref a4, .ref a5, .ref a6, .ref a7, .ref a8, .ref a9, .int (nI tp), .int (nI ((lvs (jal sp0 rq) 1).length)), .ref b1, .int (nI bl), .ref b2, .ref b3, .int (nI (jn + ((lvs sp0 1).length - (lvs (jal sp0 rq) 1).length))), .int (nI sn), .ref b4, .ref b5, .ref b6, .ref b7, .ref b8, .int (nI wt), .int (nI wm), .int (nI wg), .long (lN wo), .int (nI wd), .ref b9])), (b1, .inl (cJ, 14000, .inr (.inl (fun j => lN (nd1 j))))), (a4, .inl (cI, 25, .inl sz)), (a5, .inl (cI, 25, .inl lf)), (a6, .inl (cI, 25, .inl rt))] H := hP
    have hD : va_D A [(rm, .inr (4, [.int (nI 0), .ref a1, .ref a2, .ref a3, .ref a4, .ref a5, .ref a6, .ref a7, .ref a8, .ref a9, .int (nI tp), .int (nI ((lvs (jal sp0 rq) 1).length)), .ref b1, .int (nI bl), .ref b2, .ref b3, .int (nI (jn + ((lvs sp0 1).length - (lvs (jal sp0 rq) 1).length))), .int (nI sn), .ref b4, .ref b5, .ref b6, .ref b7, .ref b8, .int (nI wt), .int (nI wm), .int (nI wg), .long (lN wo), .int (nI wd), .ref b9])), (b1, .inl (cJ, 14000, .inr (.inl (fun j => lN (nd1 j))))), (a4, .inl (cI, 25, .inl sz)), (a5, .inl (cI, 25, .inl lf)), (a6, .inl (cI, 25, .inl rt))] := hD
    refine lv_goto (tgt := 15) hx hb dX4_join_11 (by decide) ?_
    have hP := hP.sub (ws' := [(rm, .inr (4, [.int (nI 0), .ref a1, .ref a2, .ref a3, .ref a4, .ref a5, .ref a6, .ref a7, .ref a8, .ref a9, .int (nI tp), .int (nI ((lvs (jal sp0 rq) 1).length)), .ref b1, .int (nI bl), .ref b2, .ref b3, .int (nI (jn + ((lvs sp0 1).length - (lvs (jal sp0 rq) 1).length))), .int (nI sn), .ref b4, .ref b5, .ref b6, .ref b7, .ref b8, .int (nI wt), .int (nI wm), .int (nI wg), .long (lN wo), .int (nI wd), .ref b9])), (b1, .inl (cJ, 14000, .inr (.inl (fun j => lN (nd1 j))))), (a4, .inl (cI, 25, .inl sz)), (a5, .inl (cI, 25, .inl lf)), (a6, .inl (cI, 25, .inl rt))]) [0, 1, 2, 3, 4] rfl
    have hD := hD.sub (ws' := [(rm, .inr (4, [.int (nI 0), .ref a1, .ref a2, .ref a3, .ref a4, .ref a5, .ref a6, .ref a7, .ref a8, .ref a9, .int (nI tp), .int (nI ((lvs (jal sp0 rq) 1).length)), .ref b1, .int (nI bl), .ref b2, .ref b3, .int (nI (jn + ((lvs sp0 1).length - (lvs (jal sp0 rq) 1).length))), .int (nI sn), .ref b4, .ref b5, .ref b6, .ref b7, .ref b8, .int (nI wt), .int (nI wm), .int (nI wg), .long (lN wo), .int (nI wd), .ref b9])), (b1, .inl (cJ, 14000, .inr (.inl (fun j => lN (nd1 j))))), (a4, .inl (cI, 25, .inl sz)), (a5, .inl (cI, 25, .inl lf)), (a6, .inl (cI, 25, .inl rt))]) [0, 1, 2, 3, 4] rfl rfl
    refine W.widen (k := 0) (n := 0) (by first | exact Nat.le_refl _ | omega) (by first | exact Nat.le_refl _ | omega) ?_
    exact k_retI (sz := 0) (v := nI ((lvs sp0 1).length - (lvs (jal sp0 rq) 1).length)) hx hb hr hlocks hAe hS hP hD nd1 (rfl) (⟨rfl, hW1⟩) dX4_join_15
set_option maxHeartbeats 4000000 in
set_option maxRecDepth 100000 in
theorem c_X4_load_s (l : Launch) (g : va_G) (cI cJ cZ : ClassId) (rm a1 a2 a3 a4 a5 a6 a7 a8 a9 b1 b2 b3 b4 b5 b6 b7 b8 b9 : Nat) (cd tp mn bl jn sn wt wm wg wo wd : Nat) (scr : Nat → Int32) (i : Nat) (v : Int32) (hi : i < 256) : kV l g (kty cI cJ cZ) yX4_load wsX4_load ({ frames := 1, cells := 0, slots := 0, locals := 25 }) [.ref rm, .int (nI i), .int v] [(rm, .inr (4, [.int (nI cd), .ref a1, .ref a2, .ref a3, .ref a4, .ref a5, .ref a6, .ref a7, .ref a8, .ref a9, .int (nI tp), .int (nI mn), .ref b1, .int (nI bl), .ref b2, .ref b3, .int (nI jn), .int (nI sn), .ref b4, .ref b5, .ref b6, .ref b7, .ref b8, .int (nI wt), .int (nI wm), .int (nI wg), .long (lN wo), .int (nI wd), .ref b9])), (b4, .inl (cI, 256, .inl scr))] (S := Unit) (fun _ => True) (fun u => [(rm, .inr (4, [.int (nI 0), .ref a1, .ref a2, .ref a3, .ref a4, .ref a5, .ref a6, .ref a7, .ref a8, .ref a9, .int (nI tp), .int (nI mn), .ref b1, .int (nI bl), .ref b2, .ref b3, .int (nI jn), .int (nI sn), .ref b4, .ref b5, .ref b6, .ref b7, .ref b8, .int (nI wt), .int (nI wm), .int (nI wg), .long (lN wo), .int (nI wd), .ref b9])), (b4, .inl (cI, 256, .inl (upd scr i v)))]) 0 0 := by
  intro sz
  refine Met.ofW (cc := cX4_load) (maxL := 3) (ret := none) (by decide) rfl ?_
  intro p e s m args below meth c s₁ B hml hv
  obtain ⟨rfl, hsz, hP, hk, hD0⟩ := hv
  subst hsz
  have hx := B.exec
  have hb := B.bytes
  have hr := B.returns
  have hts := atoms_spec (ws := wsX4_load) B.pre
  have hown : s.vm.findClass RX4 = some m.cls := findClass_of_methodNamed B.named
  have hlocks := B.notSynchronized
  have hK := hk.1
  have hinX4 : ∀ w ∈ wsX40, w ∈ wsX4_load := by decide +kernel
  obtain ⟨A, hAe⟩ : ∃ A, va_A [(rm, .inr (4, [.int (nI cd), .ref a1, .ref a2, .ref a3, .ref a4, .ref a5, .ref a6, .ref a7, .ref a8, .ref a9, .int (nI tp), .int (nI mn), .ref b1, .int (nI bl), .ref b2, .ref b3, .int (nI jn), .int (nI sn), .ref b4, .ref b5, .ref b6, .ref b7, .ref b8, .int (nI wt), .int (nI wm), .int (nI wg), .long (lN wo), .int (nI wd), .ref b9])), (b4, .inl (cI, 256, .inl scr))] s.heap.size = A := ⟨_, rfl⟩
  have hD := hD0.self (sz := s.heap.size)
  rw [hAe] at hD
  have hA : ∀ q : Nat, s.heap.size ≤ q → A q := fun q h => by rw [← hAe]; exact Or.inr h
  have hS : va_S A s.heap s.heap [] := va_S.rf
  have hl := lv_entry ([.ref rm, .int (nI i), .int v]) (n := 3) (Nat.le_of_ble_eq_true rfl)
  rw [lg_entry_eq]
  generalize (lg_sl ([.ref rm, .int (nI i), .int v]) ++ List.replicate (3 - (lg_sl ([.ref rm, .int (nI i), .int v])).length) Slot.unset).toArray = ls at hl ⊢
  have hl : lv_has ls 3 [(0, .ref rm), (1, .int (nI i)), (2, .int v)] := hl
  refine lv_aload_n hx hb dX4_load_0 rfl (lv_at hl 0 rfl) ?_
  refine lv_iload_n hx hb dX4_load_1 rfl (lv_at hl 1 rfl) ?_
  refine lv_i2l hx hb dX4_load_2 (nI_l (by first | assumption | omega)) ?_
  refine lv_lconst (v := lN 0) hx hb dX4_load_3 (by decide) ?_
  refine lv_ldc2 hx hb (v := 255) hown (hts (.constantLong RX4 175 255) (by decide +kernel)) dX4_load_4 ?_
  refine n_topl _ (lN 255) (by decide) ?_
  refine k_goR (W.runS (As := [.long (lN i), .long (lN 0), .long (lN 255)]) (rest := [.ref rm]) ⟨hx, hb, hml, hown, hts⟩ (c_X4_in l g cI cJ cZ  (lN i) (lN 0) (lN 255) ) (va_cwS 3 hts gX4_load_X4_in rfl rfl rfl (by decide +kernel) ⟨Nat.le_of_ble_eq_true rfl, Nat.le_of_ble_eq_true rfl⟩) (k_preRS hk hP [] rfl) rfl rfl hl.1 rfl (lv_room (Nat.le_of_ble_eq_true rfl)) dX4_load_7 ⟨by first | exact Nat.zero_le _ | omega, by first | exact Nat.zero_le _ | omega⟩) ?_
  refine n_top _ (bI (0 ≤ i ∧ i ≤ 255)) (bI_c (in_n (by omega) (by decide) (by decide))) ?_
  refine k_ifeq (tgt := 17) hx hb dX4_load_10 (by decide) (fun c1 => ?_) (fun c1 => ?_)
  · exact (by exfalso; omega)
  · skip
    refine lv_iconst (v := nI 0) hx hb dX4_load_13 (by decide) ?_
    refine lv_goto (tgt := 18) hx hb dX4_load_14 (by decide) ?_
    refine va_put (D := g) (ci := 4) (v := .int (nI 0)) (ty := .int) (C := RX4) (T := TX4) (N := 29) hx hb hts hinX4 tyX4 tyX4_ok nmX4 hown hK hP hD hS 0 rfl rfl 0 (by decide) (hts (.fieldLink RX4 66 "BuddyRoofModel" "code" "I") (by decide +kernel)) (fun _ h9 => h9) rfl (by decide +kernel) rfl rfl (Nat.le_of_ble_eq_true rfl) dX4_load_18 (fun H locs hP hD hS => ?_)
    have hP : va_P g vwCl [(rm, .inr (4, [.int (nI 0), .ref a1, .ref a2, .ref a3, .ref a4, .ref a5, .ref a6, .ref a7, .ref a8, .ref a9, .int (nI tp), .int (nI mn), .ref b1, .int (nI bl), .ref b2, .ref b3, .int (nI jn), .int (nI sn), .ref b4, .ref b5, .ref b6, .ref b7, .ref b8, .int (nI wt), .int (nI wm), .int (nI wg), .long (lN wo), .int (nI wd), .ref b9])), (b4, .inl (cI, 256, .inl scr))] H := hP
    have hD : va_D A [(rm, .inr (4, [.int (nI 0), .ref a1, .ref a2, .ref a3, .ref a4, .ref a5, .ref a6, .ref a7, .ref a8, .ref a9, .int (nI tp), .int (nI mn), .ref b1, .int (nI bl), .ref b2, .ref b3, .int (nI jn), .int (nI sn), .ref b4, .ref b5, .ref b6, .ref b7, .ref b8, .int (nI wt), .int (nI wm), .int (nI wg), .long (lN wo), .int (nI wd), .ref b9])), (b4, .inl (cI, 256, .inl scr))] := hD
    refine lv_aload_n hx hb dX4_load_21 rfl (lv_at hl 0 rfl) ?_
    refine va_get (D := g) (ci := 4) (v := .int (nI 0)) (C := RX4) (T := TX4) (N := 29) hx hb hts hinX4 hown hK hP 0 rfl rfl 0 (by decide) (hts (.fieldLink RX4 66 "BuddyRoofModel" "code" "I") (by decide +kernel)) (fun _ h9 => h9) rfl dX4_load_22 ?_
    refine n_if_ne (tgt := 35) hx hb dX4_load_25 (by decide) (by first | assumption | omega) (fun c2 => ?_) (fun c2 => ?_)
    · exact (by exact absurd c2 (by decide))
    · skip
      refine lv_aload_n hx hb dX4_load_28 rfl (lv_at hl 0 rfl) ?_
      refine va_get (D := g) (ci := 4) (v := .ref b4) (C := RX4) (T := TX4) (N := 29) hx hb hts hinX4 hown hK hP 0 rfl rfl 18 (by decide) (hts (.fieldLink RX4 48 "BuddyRoofModel" "script" "[I") (by decide +kernel)) (fun _ h9 => h9) rfl dX4_load_29 ?_
      refine lv_iload_n hx hb dX4_load_32 rfl (lv_at hl 1 rfl) ?_
      refine lv_iload_n hx hb dX4_load_33 rfl (lv_at hl 2 rfl) ?_
      refine n_astI hx hb hK hP hD hS 1 0 rfl rfl (i := i) (v := v) (by omega) (by decide) dX4_load_34 (fun H locs hP hD hS => ?_)
      have hP : va_P g vwCl [(rm, .inr (4, [.int (nI 0), .ref a1, .ref a2, .ref a3, .ref a4, .ref a5, .ref a6, .ref a7, .ref a8, .ref a9, .int (nI tp), .int (nI mn), .ref b1, .int (nI bl), .ref b2, .ref b3, .int (nI jn), .int (nI sn), .ref b4, .ref b5, .ref b6, .ref b7, .ref b8, .int (nI wt), .int (nI wm), .int (nI wg), .long (lN wo), .int (nI wd), .ref b9])), (b4, .inl (cI, 256, .inl (upd scr i v)))] H := hP
      have hD : va_D A [(rm, .inr (4, [.int (nI 0), .ref a1, .ref a2, .ref a3, .ref a4, .ref a5, .ref a6, .ref a7, .ref a8, .ref a9, .int (nI tp), .int (nI mn), .ref b1, .int (nI bl), .ref b2, .ref b3, .int (nI jn), .int (nI sn), .ref b4, .ref b5, .ref b6, .ref b7, .ref b8, .int (nI wt), .int (nI wm), .int (nI wg), .long (lN wo), .int (nI wd), .ref b9])), (b4, .inl (cI, 256, .inl (upd scr i v)))] := hD
      have hP := hP.sub (ws' := [(rm, .inr (4, [.int (nI 0), .ref a1, .ref a2, .ref a3, .ref a4, .ref a5, .ref a6, .ref a7, .ref a8, .ref a9, .int (nI tp), .int (nI mn), .ref b1, .int (nI bl), .ref b2, .ref b3, .int (nI jn), .int (nI sn), .ref b4, .ref b5, .ref b6, .ref b7, .ref b8, .int (nI wt), .int (nI wm), .int (nI wg), .long (lN wo), .int (nI wd), .ref b9])), (b4, .inl (cI, 256, .inl (upd scr i v)))]) [0, 1] rfl
      have hD := hD.sub (ws' := [(rm, .inr (4, [.int (nI 0), .ref a1, .ref a2, .ref a3, .ref a4, .ref a5, .ref a6, .ref a7, .ref a8, .ref a9, .int (nI tp), .int (nI mn), .ref b1, .int (nI bl), .ref b2, .ref b3, .int (nI jn), .int (nI sn), .ref b4, .ref b5, .ref b6, .ref b7, .ref b8, .int (nI wt), .int (nI wm), .int (nI wg), .long (lN wo), .int (nI wd), .ref b9])), (b4, .inl (cI, 256, .inl (upd scr i v)))]) [0, 1] rfl rfl
      refine W.widen (k := 0) (n := 0) (by first | exact Nat.le_refl _ | omega) (by first | exact Nat.le_refl _ | omega) ?_
      exact k_retV (sz := 0) hx hb hr hlocks hAe hS hP hD () (rfl) (trivial) dX4_load_35
set_option maxHeartbeats 4000000 in
set_option maxRecDepth 100000 in
theorem c_X4_load_e (l : Launch) (g : va_G) (cI cJ cZ : ClassId) (rm a1 a2 a3 a4 a5 a6 a7 a8 a9 b1 b2 b3 b4 b5 b6 b7 b8 b9 : Nat) (cd tp mn bl jn sn wt wm wg wo wd : Nat) (v v2 : Int32) (hv : v < 0 ∨ ¬ v < nI 256) : kV l g (kty cI cJ cZ) yX4_load wsX4_load ({ frames := 1, cells := 0, slots := 0, locals := 25 }) [.ref rm, .int v, .int v2] [(rm, .inr (4, [.int (nI cd), .ref a1, .ref a2, .ref a3, .ref a4, .ref a5, .ref a6, .ref a7, .ref a8, .ref a9, .int (nI tp), .int (nI mn), .ref b1, .int (nI bl), .ref b2, .ref b3, .int (nI jn), .int (nI sn), .ref b4, .ref b5, .ref b6, .ref b7, .ref b8, .int (nI wt), .int (nI wm), .int (nI wg), .long (lN wo), .int (nI wd), .ref b9]))] (S := Unit) (fun _ => True) (fun u => [(rm, .inr (4, [.int (nI 1), .ref a1, .ref a2, .ref a3, .ref a4, .ref a5, .ref a6, .ref a7, .ref a8, .ref a9, .int (nI tp), .int (nI mn), .ref b1, .int (nI bl), .ref b2, .ref b3, .int (nI jn), .int (nI sn), .ref b4, .ref b5, .ref b6, .ref b7, .ref b8, .int (nI wt), .int (nI wm), .int (nI wg), .long (lN wo), .int (nI wd), .ref b9]))]) 0 0 := by
  intro sz
  refine Met.ofW (cc := cX4_load) (maxL := 3) (ret := none) (by decide) rfl ?_
  intro p e s m args below meth c s₁ B hml hv
  obtain ⟨rfl, hsz, hP, hk, hD0⟩ := hv
  subst hsz
  have hx := B.exec
  have hb := B.bytes
  have hr := B.returns
  have hts := atoms_spec (ws := wsX4_load) B.pre
  have hown : s.vm.findClass RX4 = some m.cls := findClass_of_methodNamed B.named
  have hlocks := B.notSynchronized
  have hK := hk.1
  have hinX4 : ∀ w ∈ wsX40, w ∈ wsX4_load := by decide +kernel
  obtain ⟨A, hAe⟩ : ∃ A, va_A [(rm, .inr (4, [.int (nI cd), .ref a1, .ref a2, .ref a3, .ref a4, .ref a5, .ref a6, .ref a7, .ref a8, .ref a9, .int (nI tp), .int (nI mn), .ref b1, .int (nI bl), .ref b2, .ref b3, .int (nI jn), .int (nI sn), .ref b4, .ref b5, .ref b6, .ref b7, .ref b8, .int (nI wt), .int (nI wm), .int (nI wg), .long (lN wo), .int (nI wd), .ref b9]))] s.heap.size = A := ⟨_, rfl⟩
  have hD := hD0.self (sz := s.heap.size)
  rw [hAe] at hD
  have hA : ∀ q : Nat, s.heap.size ≤ q → A q := fun q h => by rw [← hAe]; exact Or.inr h
  have hS : va_S A s.heap s.heap [] := va_S.rf
  have hl := lv_entry ([.ref rm, .int v, .int v2]) (n := 3) (Nat.le_of_ble_eq_true rfl)
  rw [lg_entry_eq]
  generalize (lg_sl ([.ref rm, .int v, .int v2]) ++ List.replicate (3 - (lg_sl ([.ref rm, .int v, .int v2])).length) Slot.unset).toArray = ls at hl ⊢
  have hl : lv_has ls 3 [(0, .ref rm), (1, .int v), (2, .int v2)] := hl
  refine lv_aload_n hx hb dX4_load_0 rfl (lv_at hl 0 rfl) ?_
  refine lv_iload_n hx hb dX4_load_1 rfl (lv_at hl 1 rfl) ?_
  refine lv_i2l hx hb dX4_load_2 rfl ?_
  refine lv_lconst (v := lN 0) hx hb dX4_load_3 (by decide) ?_
  refine lv_ldc2 hx hb (v := 255) hown (hts (.constantLong RX4 175 255) (by decide +kernel)) dX4_load_4 ?_
  refine n_topl _ (lN 255) (by decide) ?_
  refine k_goR (W.runS (As := [.long ((v).toInt64), .long (lN 0), .long (lN 255)]) (rest := [.ref rm]) ⟨hx, hb, hml, hown, hts⟩ (c_X4_in l g cI cJ cZ  (v).toInt64 (lN 0) (lN 255) ) (va_cwS 3 hts gX4_load_X4_in rfl rfl rfl (by decide +kernel) ⟨Nat.le_of_ble_eq_true rfl, Nat.le_of_ble_eq_true rfl⟩) (k_preRS hk hP [] rfl) rfl rfl hl.1 rfl (lv_room (Nat.le_of_ble_eq_true rfl)) dX4_load_7 ⟨by first | exact Nat.zero_le _ | omega, by first | exact Nat.zero_le _ | omega⟩) ?_
  refine n_top _ (bI (nI 0 ≤ v ∧ v ≤ nI 255)) (bI_c (in_i (by decide) (by decide))) ?_
  refine k_ifeq (tgt := 17) hx hb dX4_load_10 (by decide) (fun c1 => ?_) (fun c1 => ?_)
  · skip
    refine lv_iconst (v := nI 1) hx hb dX4_load_17 (by decide) ?_
    refine va_put (D := g) (ci := 4) (v := .int (nI 1)) (ty := .int) (C := RX4) (T := TX4) (N := 29) hx hb hts hinX4 tyX4 tyX4_ok nmX4 hown hK hP hD hS 0 rfl rfl 0 (by decide) (hts (.fieldLink RX4 66 "BuddyRoofModel" "code" "I") (by decide +kernel)) (fun _ h9 => h9) rfl (by decide +kernel) rfl rfl (Nat.le_of_ble_eq_true rfl) dX4_load_18 (fun H locs hP hD hS => ?_)
    have hP : va_P g vwCl [(rm, .inr (4, [.int (nI 1), .ref a1, .ref a2, .ref a3, .ref a4, .ref a5, .ref a6, .ref a7, .ref a8, .ref a9, .int (nI tp), .int (nI mn), .ref b1, .int (nI bl), .ref b2, .ref b3, .int (nI jn), .int (nI sn), .ref b4, .ref b5, .ref b6, .ref b7, .ref b8, .int (nI wt), .int (nI wm), .int (nI wg), .long (lN wo), .int (nI wd), .ref b9]))] H := hP
    have hD : va_D A [(rm, .inr (4, [.int (nI 1), .ref a1, .ref a2, .ref a3, .ref a4, .ref a5, .ref a6, .ref a7, .ref a8, .ref a9, .int (nI tp), .int (nI mn), .ref b1, .int (nI bl), .ref b2, .ref b3, .int (nI jn), .int (nI sn), .ref b4, .ref b5, .ref b6, .ref b7, .ref b8, .int (nI wt), .int (nI wm), .int (nI wg), .long (lN wo), .int (nI wd), .ref b9]))] := hD
    refine lv_aload_n hx hb dX4_load_21 rfl (lv_at hl 0 rfl) ?_
    refine va_get (D := g) (ci := 4) (v := .int (nI 1)) (C := RX4) (T := TX4) (N := 29) hx hb hts hinX4 hown hK hP 0 rfl rfl 0 (by decide) (hts (.fieldLink RX4 66 "BuddyRoofModel" "code" "I") (by decide +kernel)) (fun _ h9 => h9) rfl dX4_load_22 ?_
    refine n_if_ne (tgt := 35) hx hb dX4_load_25 (by decide) (by first | assumption | omega) (fun c2 => ?_) (fun c2 => ?_)
    · skip
      refine W.widen (k := 0) (n := 0) (by first | exact Nat.le_refl _ | omega) (by first | exact Nat.le_refl _ | omega) ?_
      exact k_retV (sz := 0) hx hb hr hlocks hAe hS hP hD () (rfl) (trivial) dX4_load_35
    · exact (by exact absurd c2 (by decide))
  · exact (by exact hv.elim (fun q => absurd q (Int32.not_lt.mpr c1.1)) (fun q => absurd (Int32.lt_of_le_of_lt c1.2 (by decide)) q))
