set_option maxHeartbeats 4000000 in
set_option maxRecDepth 100000 in
theorem c_X1_isBad (l : Launch) (g : va_G) (cI cJ cZ : ClassId) (k r1 r2 r3 r4 : Nat) (sz lf rt tr : Nat → Int32) (i : Nat) (hi : i < 25) : kR l g (kty cI cJ cZ) yX1_isBad wsX1_isBad ({ frames := 1, cells := 0, slots := 0, locals := 20 }) [.ref k, .int (nI i)] [(k, .inr (1, [.ref r1, .ref r2, .ref r3, .ref r4])), (r1, .inl (cI, 25, .inl sz)), (r2, .inl (cI, 25, .inl lf)), (r3, .inl (cI, 25, .inl rt)), (r4, .inl (cI, 25, .inl tr))] (bI (bd sz lf rt i = true)) := by
  refine Met.ofW (cc := cX1_isBad) (maxL := 4) (ret := (some .boolean)) (by decide) rfl ?_
  intro p e s m args below meth c s₁ B hml hv
  obtain ⟨rfl, hP, hk⟩ := hv
  have hx := B.exec
  have hb := B.bytes
  have hr := B.returns
  have hts := atoms_spec (ws := wsX1_isBad) B.pre
  have hown : s.vm.findClass RX1 = some m.cls := findClass_of_methodNamed B.named
  have hlocks := B.notSynchronized
  have hK := hk.1
  have hinX1 : ∀ w ∈ wsX10, w ∈ wsX1_isBad := by decide +kernel
  have hl := lv_entry ([.ref k, .int (nI i)]) (n := 4) (Nat.le_of_ble_eq_true rfl)
  rw [lg_entry_eq]
  generalize (lg_sl ([.ref k, .int (nI i)]) ++ List.replicate (4 - (lg_sl ([.ref k, .int (nI i)])).length) Slot.unset).toArray = ls at hl ⊢
  have hl : lv_has ls 4 [(0, .ref k), (1, .int (nI i))] := hl
  refine lv_aload_n hx hb dX1_isBad_0 rfl (lv_at hl 0 rfl) ?_
  refine va_get (D := g) (ci := 1) (v := .ref r1) (C := RX1) (T := TX1) (N := 4) hx hb hts hinX1 hown hK hP 0 rfl rfl 0 (by decide) (hts (.fieldLink RX1 9 "BuddyRoof$Rule" "size" "[I") (by decide +kernel)) (fun _ h9 => h9) rfl dX1_isBad_1 ?_
  refine lv_iload_n hx hb dX1_isBad_4 rfl (lv_at hl 1 rfl) ?_
  refine n_ald (v := sz i) hx hb hK hP 1 0 rfl rfl (i := i) (by first | assumption | omega) (by first | assumption | omega) rfl dX1_isBad_5 ?_
  refine k_goR (k_run (va_runSN (As := [.int (sz i)]) (rest := []) ⟨hx, hb, hml, hown, hts⟩ (c_X3_isSize l g cI cJ cZ  (sz i) ) ⟨va_cnB 1 hts ggX1_isBad_X3_isSize rfl rfl rfl (hk.2.m (h := "BuddyRoof") (by decide +kernel)) (hts (.initialized RX3) (by decide +kernel)) (by decide +kernel) ⟨Nat.le_of_ble_eq_true rfl, Nat.le_of_ble_eq_true rfl⟩, hts (.static yX3_isSize) (by decide +kernel), trivial⟩ (k_preRS hk hP [] rfl) rfl rfl hl.1 rfl (lv_room (Nat.le_of_ble_eq_true rfl)) dX1_isBad_6 ⟨by first | exact Nat.zero_le _ | omega, by first | exact Nat.zero_le _ | omega⟩)) ?_
  refine k_ifne (tgt := 14) hx hb dX1_isBad_9 (by decide) (fun c1 => ?_) (fun c1 => ?_)
  · skip
    refine lv_aload_n hx hb dX1_isBad_14 rfl (lv_at hl 0 rfl) ?_
    refine va_get (D := g) (ci := 1) (v := .ref r2) (C := RX1) (T := TX1) (N := 4) hx hb hts hinX1 hown hK hP 0 rfl rfl 1 (by decide) (hts (.fieldLink RX1 15 "BuddyRoof$Rule" "left" "[I") (by decide +kernel)) (fun _ h9 => h9) rfl dX1_isBad_15 ?_
    refine lv_iload_n hx hb dX1_isBad_18 rfl (lv_at hl 1 rfl) ?_
    refine n_ald (v := lf i) hx hb hK hP 2 0 rfl rfl (i := i) (by first | assumption | omega) (by first | assumption | omega) rfl dX1_isBad_19 ?_
    refine lv_if_ne (tgt := 38) hx hb dX1_isBad_20 (by decide) (fun c2 => ?_) (fun c2 => ?_)
    · skip
      refine lv_aload_n hx hb dX1_isBad_38 rfl (lv_at hl 0 rfl) ?_
      refine va_get (D := g) (ci := 1) (v := .ref r2) (C := RX1) (T := TX1) (N := 4) hx hb hts hinX1 hown hK hP 0 rfl rfl 1 (by decide) (hts (.fieldLink RX1 15 "BuddyRoof$Rule" "left" "[I") (by decide +kernel)) (fun _ h9 => h9) rfl dX1_isBad_39 ?_
      refine lv_iload_n hx hb dX1_isBad_42 rfl (lv_at hl 1 rfl) ?_
      refine n_ald (v := lf i) hx hb hK hP 2 0 rfl rfl (i := i) (by first | assumption | omega) (by first | assumption | omega) rfl dX1_isBad_43 ?_
      refine k_goR (k_run (va_runSN (As := [.int (lf i)]) (rest := []) ⟨hx, hb, hml, hown, hts⟩ (c_X3_isClass l g cI cJ cZ  (lf i) ) ⟨va_cnB 1 hts ggX1_isBad_X3_isClass rfl rfl rfl (hk.2.m (h := "BuddyRoof") (by decide +kernel)) (hts (.initialized RX3) (by decide +kernel)) (by decide +kernel) ⟨Nat.le_of_ble_eq_true rfl, Nat.le_of_ble_eq_true rfl⟩, hts (.static yX3_isClass) (by decide +kernel), trivial⟩ (k_preRS hk hP [] rfl) rfl rfl hl.1 rfl (lv_room (Nat.le_of_ble_eq_true rfl)) dX1_isBad_44 ⟨by first | exact Nat.zero_le _ | omega, by first | exact Nat.zero_le _ | omega⟩)) ?_
      refine k_ifeq (tgt := 62) hx hb dX1_isBad_47 (by decide) (fun c3 => ?_) (fun c3 => ?_)
      · skip
        refine lv_iconst (v := nI 1) hx hb dX1_isBad_62 (by decide) ?_
        exact k_retRZ (v := nI 1) hx hb hr hlocks (by decide) (by rw [bI_t]; unfold bd; rw [decide_eq_true_eq]; exact Or.inr (Or.inr ⟨c2, Or.inl c3⟩)) dX1_isBad_63
      · skip
        refine lv_aload_n hx hb dX1_isBad_50 rfl (lv_at hl 0 rfl) ?_
        refine va_get (D := g) (ci := 1) (v := .ref r3) (C := RX1) (T := TX1) (N := 4) hx hb hts hinX1 hown hK hP 0 rfl rfl 2 (by decide) (hts (.fieldLink RX1 18 "BuddyRoof$Rule" "right" "[I") (by decide +kernel)) (fun _ h9 => h9) rfl dX1_isBad_51 ?_
        refine lv_iload_n hx hb dX1_isBad_54 rfl (lv_at hl 1 rfl) ?_
        refine n_ald (v := rt i) hx hb hK hP 3 0 rfl rfl (i := i) (by first | assumption | omega) (by first | assumption | omega) rfl dX1_isBad_55 ?_
        refine k_goR (k_run (va_runSN (As := [.int (rt i)]) (rest := []) ⟨hx, hb, hml, hown, hts⟩ (c_X3_isClass l g cI cJ cZ  (rt i) ) ⟨va_cnB 1 hts ggX1_isBad_X3_isClass rfl rfl rfl (hk.2.m (h := "BuddyRoof") (by decide +kernel)) (hts (.initialized RX3) (by decide +kernel)) (by decide +kernel) ⟨Nat.le_of_ble_eq_true rfl, Nat.le_of_ble_eq_true rfl⟩, hts (.static yX3_isClass) (by decide +kernel), trivial⟩ (k_preRS hk hP [] rfl) rfl rfl hl.1 rfl (lv_room (Nat.le_of_ble_eq_true rfl)) dX1_isBad_56 ⟨by first | exact Nat.zero_le _ | omega, by first | exact Nat.zero_le _ | omega⟩)) ?_
        refine k_ifne (tgt := 64) hx hb dX1_isBad_59 (by decide) (fun c4 => ?_) (fun c4 => ?_)
        · skip
          obtain ⟨a, a1, a2, a3, a4⟩ := cls_of c3
          obtain ⟨b, b1, b2, b3, b4⟩ := cls_of c4
          refine lv_aload_n hx hb dX1_isBad_64 rfl (lv_at hl 0 rfl) ?_
          refine va_get (D := g) (ci := 1) (v := .ref r1) (C := RX1) (T := TX1) (N := 4) hx hb hts hinX1 hown hK hP 0 rfl rfl 0 (by decide) (hts (.fieldLink RX1 9 "BuddyRoof$Rule" "size" "[I") (by decide +kernel)) (fun _ h9 => h9) rfl dX1_isBad_65 ?_
          refine lv_aload_n hx hb dX1_isBad_68 rfl (lv_at hl 0 rfl) ?_
          refine va_get (D := g) (ci := 1) (v := .ref r2) (C := RX1) (T := TX1) (N := 4) hx hb hts hinX1 hown hK hP 0 rfl rfl 1 (by decide) (hts (.fieldLink RX1 15 "BuddyRoof$Rule" "left" "[I") (by decide +kernel)) (fun _ h9 => h9) rfl dX1_isBad_69 ?_
          refine lv_iload_n hx hb dX1_isBad_72 rfl (lv_at hl 1 rfl) ?_
          refine n_ald (v := nI a) hx hb hK hP 2 0 rfl rfl (i := i) (by first | assumption | omega) (by first | assumption | omega) (by exact a3) dX1_isBad_73 ?_
          refine n_ald (v := sz a) hx hb hK hP 1 0 rfl rfl (i := a) (by first | assumption | omega) (by first | assumption | omega) rfl dX1_isBad_74 ?_
          refine lv_istore_n (lv' := [(2, .int (sz a)), (0, .ref k), (1, .int (nI i))]) hx hb dX1_isBad_75 rfl hl (by decide) rfl (fun ls hl => ?_)
          refine lv_aload_n hx hb dX1_isBad_76 rfl (lv_at hl 1 rfl) ?_
          refine va_get (D := g) (ci := 1) (v := .ref r1) (C := RX1) (T := TX1) (N := 4) hx hb hts hinX1 hown hK hP 0 rfl rfl 0 (by decide) (hts (.fieldLink RX1 9 "BuddyRoof$Rule" "size" "[I") (by decide +kernel)) (fun _ h9 => h9) rfl dX1_isBad_77 ?_
          refine lv_aload_n hx hb dX1_isBad_80 rfl (lv_at hl 1 rfl) ?_
          refine va_get (D := g) (ci := 1) (v := .ref r3) (C := RX1) (T := TX1) (N := 4) hx hb hts hinX1 hown hK hP 0 rfl rfl 2 (by decide) (hts (.fieldLink RX1 18 "BuddyRoof$Rule" "right" "[I") (by decide +kernel)) (fun _ h9 => h9) rfl dX1_isBad_81 ?_
          refine lv_iload_n hx hb dX1_isBad_84 rfl (lv_at hl 2 rfl) ?_
          refine n_ald (v := nI b) hx hb hK hP 3 0 rfl rfl (i := i) (by first | assumption | omega) (by first | assumption | omega) (by exact b3) dX1_isBad_85 ?_
          refine n_ald (v := sz b) hx hb hK hP 1 0 rfl rfl (i := b) (by first | assumption | omega) (by first | assumption | omega) rfl dX1_isBad_86 ?_
          refine lv_istore_n (lv' := [(3, .int (sz b)), (2, .int (sz a)), (0, .ref k), (1, .int (nI i))]) hx hb dX1_isBad_87 rfl hl (by decide) rfl (fun ls hl => ?_)
          refine lv_iload_n hx hb dX1_isBad_88 rfl (lv_at hl 1 rfl) ?_
          refine lv_aload_n hx hb dX1_isBad_89 rfl (lv_at hl 2 rfl) ?_
          refine va_get (D := g) (ci := 1) (v := .ref r1) (C := RX1) (T := TX1) (N := 4) hx hb hts hinX1 hown hK hP 0 rfl rfl 0 (by decide) (hts (.fieldLink RX1 9 "BuddyRoof$Rule" "size" "[I") (by decide +kernel)) (fun _ h9 => h9) rfl dX1_isBad_90 ?_
          refine lv_iload_n hx hb dX1_isBad_93 rfl (lv_at hl 3 rfl) ?_
          refine n_ald (v := sz i) hx hb hK hP 1 0 rfl rfl (i := i) (by first | assumption | omega) (by first | assumption | omega) rfl dX1_isBad_94 ?_
          refine lv_icmp_ge (tgt := 124) hx hb dX1_isBad_95 (by decide) (fun c5 => ?_) (fun c5 => ?_)
          · skip
            refine lv_iconst (v := nI 1) hx hb dX1_isBad_124 (by decide) ?_
            refine lv_goto (tgt := 129) hx hb dX1_isBad_125 (by decide) ?_
            exact k_retRZ (v := nI 1) hx hb hr hlocks (by decide) (by rw [bI_t]; unfold bd; rw [decide_eq_true_eq]; exact Or.inr (Or.inr ⟨c2, Or.inr (Or.inr (Or.inl (by rw [a4]; exact c5)))⟩)) dX1_isBad_129
          · skip
            refine lv_iload_n hx hb dX1_isBad_98 rfl (lv_at hl 0 rfl) ?_
            refine lv_aload_n hx hb dX1_isBad_99 rfl (lv_at hl 2 rfl) ?_
            refine va_get (D := g) (ci := 1) (v := .ref r1) (C := RX1) (T := TX1) (N := 4) hx hb hts hinX1 hown hK hP 0 rfl rfl 0 (by decide) (hts (.fieldLink RX1 9 "BuddyRoof$Rule" "size" "[I") (by decide +kernel)) (fun _ h9 => h9) rfl dX1_isBad_100 ?_
            refine lv_iload_n hx hb dX1_isBad_103 rfl (lv_at hl 3 rfl) ?_
            refine n_ald (v := sz i) hx hb hK hP 1 0 rfl rfl (i := i) (by first | assumption | omega) (by first | assumption | omega) rfl dX1_isBad_104 ?_
            refine lv_icmp_ge (tgt := 124) hx hb dX1_isBad_105 (by decide) (fun c6 => ?_) (fun c6 => ?_)
            · skip
              refine lv_iconst (v := nI 1) hx hb dX1_isBad_124 (by decide) ?_
              refine lv_goto (tgt := 129) hx hb dX1_isBad_125 (by decide) ?_
              exact k_retRZ (v := nI 1) hx hb hr hlocks (by decide) (by rw [bI_t]; unfold bd; rw [decide_eq_true_eq]; exact Or.inr (Or.inr ⟨c2, Or.inr (Or.inr (Or.inr (Or.inl (by rw [b4]; exact c6))))⟩)) dX1_isBad_129
            · skip
              refine lv_iload_n hx hb dX1_isBad_108 rfl (lv_at hl 1 rfl) ?_
              refine lv_i2l hx hb dX1_isBad_109 rfl ?_
              refine lv_iload_n hx hb dX1_isBad_110 rfl (lv_at hl 0 rfl) ?_
              refine lv_i2l hx hb dX1_isBad_111 rfl ?_
              refine lv_ladd hx hb dX1_isBad_112 ?_
              refine lv_aload_n hx hb dX1_isBad_113 rfl (lv_at hl 2 rfl) ?_
              refine va_get (D := g) (ci := 1) (v := .ref r1) (C := RX1) (T := TX1) (N := 4) hx hb hts hinX1 hown hK hP 0 rfl rfl 0 (by decide) (hts (.fieldLink RX1 9 "BuddyRoof$Rule" "size" "[I") (by decide +kernel)) (fun _ h9 => h9) rfl dX1_isBad_114 ?_
              refine lv_iload_n hx hb dX1_isBad_117 rfl (lv_at hl 3 rfl) ?_
              refine n_ald (v := sz i) hx hb hK hP 1 0 rfl rfl (i := i) (by first | assumption | omega) (by first | assumption | omega) rfl dX1_isBad_118 ?_
              refine lv_i2l hx hb dX1_isBad_119 rfl ?_
              refine W.lcmp hx hb dX1_isBad_120 ?_
              refine lv_if_eq (tgt := 128) hx hb dX1_isBad_121 (by decide) (fun c7 => ?_) (fun c7 => ?_)
              · skip
                refine lv_iconst (v := nI 0) hx hb dX1_isBad_128 (by decide) ?_
                exact k_retRZ (v := nI 0) hx hb hr hlocks (by decide) (by rw [bI_f]; unfold bd; rw [decide_eq_true_eq]; rw [a4, b4]; rintro (q | q | ⟨q, q | q | q | q | q⟩); exact q c1; exact c2 q.1; exact q c3; exact q c4; exact c5 q; exact c6 q; exact q ((lcmp0 _ _).mp c7)) dX1_isBad_129
              · skip
                refine lv_iconst (v := nI 1) hx hb dX1_isBad_124 (by decide) ?_
                refine lv_goto (tgt := 129) hx hb dX1_isBad_125 (by decide) ?_
                exact k_retRZ (v := nI 1) hx hb hr hlocks (by decide) (by rw [bI_t]; unfold bd; rw [decide_eq_true_eq]; exact Or.inr (Or.inr ⟨c2, Or.inr (Or.inr (Or.inr (Or.inr (by rw [a4, b4]; exact fun q => c7 ((lcmp0 _ _).mpr q)))))⟩)) dX1_isBad_129
        · skip
          refine lv_iconst (v := nI 1) hx hb dX1_isBad_62 (by decide) ?_
          exact k_retRZ (v := nI 1) hx hb hr hlocks (by decide) (by rw [bI_t]; unfold bd; rw [decide_eq_true_eq]; exact Or.inr (Or.inr ⟨c2, Or.inr (Or.inl c4)⟩)) dX1_isBad_63
    · skip
      refine lv_aload_n hx hb dX1_isBad_23 rfl (lv_at hl 0 rfl) ?_
      refine va_get (D := g) (ci := 1) (v := .ref r3) (C := RX1) (T := TX1) (N := 4) hx hb hts hinX1 hown hK hP 0 rfl rfl 2 (by decide) (hts (.fieldLink RX1 18 "BuddyRoof$Rule" "right" "[I") (by decide +kernel)) (fun _ h9 => h9) rfl dX1_isBad_24 ?_
      refine lv_iload_n hx hb dX1_isBad_27 rfl (lv_at hl 1 rfl) ?_
      refine n_ald (v := rt i) hx hb hK hP 3 0 rfl rfl (i := i) (by first | assumption | omega) (by first | assumption | omega) rfl dX1_isBad_28 ?_
      refine lv_if_eq (tgt := 36) hx hb dX1_isBad_29 (by decide) (fun c8 => ?_) (fun c8 => ?_)
      · skip
        refine lv_iconst (v := nI 0) hx hb dX1_isBad_36 (by decide) ?_
        exact k_retRZ (v := nI 0) hx hb hr hlocks (by decide) (by rw [bI_f]; unfold bd; rw [decide_eq_true_eq]; rintro (q | q | q); exact q c1; exact q.2 c8; exact q.1 c2) dX1_isBad_37
      · skip
        refine lv_iconst (v := nI 1) hx hb dX1_isBad_32 (by decide) ?_
        refine lv_goto (tgt := 37) hx hb dX1_isBad_33 (by decide) ?_
        exact k_retRZ (v := nI 1) hx hb hr hlocks (by decide) (by rw [bI_t]; unfold bd; rw [decide_eq_true_eq]; exact Or.inr (Or.inl ⟨c2, c8⟩)) dX1_isBad_37
  · skip
    refine lv_iconst (v := nI 1) hx hb dX1_isBad_12 (by decide) ?_
    exact k_retRZ (v := nI 1) hx hb hr hlocks (by decide) (by rw [bI_t]; unfold bd; rw [decide_eq_true_eq]; exact Or.inl c1) dX1_isBad_13
