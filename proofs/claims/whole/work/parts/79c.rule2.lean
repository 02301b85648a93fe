set_option maxHeartbeats 4000000 in
set_option maxRecDepth 100000 in
theorem c_J6_numberOfTrailingZeros_0f7a4 (l : Launch) (g : va_G) (cI cJ cZ : ClassId) (v : Int32) (t : Nat) (ht : t < 25) (hv : (v ^^^ (-1)) &&& (v - nI 1) = nI (2 ^ t - 1)) : kR l g (kty cI cJ cZ) yJ6_numberOfTrailingZeros_0f7a4 wsJ6_numberOfTrailingZeros_0f7a4 ({ frames := 0, cells := 0, slots := 0, locals := 0 }) [.int v] [] (nI t) := by
  refine Met.ofW (cc := cJ6_numberOfTrailingZeros_0f7a4) (maxL := 2) (ret := (some .int)) (by decide) rfl ?_
  intro p e s m args below meth c s₁ B hml hv
  obtain ⟨rfl, hP, hk⟩ := hv
  have hx := B.exec
  have hb := B.bytes
  have hr := B.returns
  have hts := atoms_spec (ws := wsJ6_numberOfTrailingZeros_0f7a4) B.pre
  have hown : s.vm.findClass RJ6 = some m.cls := findClass_of_methodNamed B.named
  have hlocks := B.notSynchronized
  have hK := hk.1
  have hl := lv_entry ([.int v]) (n := 2) (Nat.le_of_ble_eq_true rfl)
  rw [lg_entry_eq]
  generalize (lg_sl ([.int v]) ++ List.replicate (2 - (lg_sl ([.int v])).length) Slot.unset).toArray = ls at hl ⊢
  have hl : lv_has ls 2 [(0, .int v)] := hl
  obtain ⟨T, hT⟩ : ∃ T, 2 ^ t - 1 = T := ⟨_, rfl⟩
  have hDj : (t = 0 ∧ T = 0) ∨ (t = 1 ∧ T = 1) ∨ (t = 2 ∧ T = 3) ∨ (t = 3 ∧ T = 7) ∨ (t = 4 ∧ T = 15) ∨ (t = 5 ∧ T = 31) ∨ (t = 6 ∧ T = 63) ∨ (t = 7 ∧ T = 127) ∨ (t = 8 ∧ T = 255) ∨ (t = 9 ∧ T = 511) ∨ (t = 10 ∧ T = 1023) ∨ (t = 11 ∧ T = 2047) ∨ (t = 12 ∧ T = 4095) ∨ (t = 13 ∧ T = 8191) ∨ (t = 14 ∧ T = 16383) ∨ (t = 15 ∧ T = 32767) ∨ (t = 16 ∧ T = 65535) ∨ (t = 17 ∧ T = 131071) ∨ (t = 18 ∧ T = 262143) ∨ (t = 19 ∧ T = 524287) ∨ (t = 20 ∧ T = 1048575) ∨ (t = 21 ∧ T = 2097151) ∨ (t = 22 ∧ T = 4194303) ∨ (t = 23 ∧ T = 8388607) ∨ (t = 24 ∧ T = 16777215) := by
    subst hT; rcases (show t = 0 ∨ t = 1 ∨ t = 2 ∨ t = 3 ∨ t = 4 ∨ t = 5 ∨ t = 6 ∨ t = 7 ∨ t = 8 ∨ t = 9 ∨ t = 10 ∨ t = 11 ∨ t = 12 ∨ t = 13 ∨ t = 14 ∨ t = 15 ∨ t = 16 ∨ t = 17 ∨ t = 18 ∨ t = 19 ∨ t = 20 ∨ t = 21 ∨ t = 22 ∨ t = 23 ∨ t = 24 by omega) with rfl | rfl | rfl | rfl | rfl | rfl | rfl | rfl | rfl | rfl | rfl | rfl | rfl | rfl | rfl | rfl | rfl | rfl | rfl | rfl | rfl | rfl | rfl | rfl | rfl <;> simp
  have hBd : T < 33554432 := by omega
  refine lv_iload_n hx hb dJ6_numberOfTrailingZeros_0f7a4_0 rfl (lv_at hl 0 rfl) ?_
  refine lv_iconst (v := (-1)) hx hb dJ6_numberOfTrailingZeros_0f7a4_1 (by decide) ?_
  refine lv_ixor hx hb dJ6_numberOfTrailingZeros_0f7a4_2 ?_
  refine lv_iload_n hx hb dJ6_numberOfTrailingZeros_0f7a4_3 rfl (lv_at hl 0 rfl) ?_
  refine lv_iconst (v := nI 1) hx hb dJ6_numberOfTrailingZeros_0f7a4_4 (by decide) ?_
  refine lv_isub hx hb dJ6_numberOfTrailingZeros_0f7a4_5 ?_
  refine lv_iand hx hb dJ6_numberOfTrailingZeros_0f7a4_6 ?_
  refine n_top _ (nI T) (by rw [← hT]; exact hv) ?_
  refine lv_istore_n (lv' := [(0, .int (nI T))]) hx hb dJ6_numberOfTrailingZeros_0f7a4_7 rfl hl (by decide) rfl (fun ls hl => ?_)
  refine lv_iload_n hx hb dJ6_numberOfTrailingZeros_0f7a4_8 rfl (lv_at hl 0 rfl) ?_
  refine n_if_gt (tgt := 17) hx hb dJ6_numberOfTrailingZeros_0f7a4_9 (by decide) (by first | assumption | omega) (fun c1 => ?_) (fun c1 => ?_)
  · skip
    refine lv_iconst (v := nI 1) hx hb dJ6_numberOfTrailingZeros_0f7a4_17 (by decide) ?_
    refine lv_istore_n (lv' := [(1, .int (nI 1)), (0, .int (nI T))]) hx hb dJ6_numberOfTrailingZeros_0f7a4_18 rfl hl (by decide) rfl (fun ls hl => ?_)
    refine lv_iload_n hx hb dJ6_numberOfTrailingZeros_0f7a4_19 rfl (lv_at hl 1 rfl) ?_
    refine lv_ldcw hx hb (v := 65536) hown (hts (.constant RJ6 264 65536) (by decide +kernel)) dJ6_numberOfTrailingZeros_0f7a4_20 ?_
    refine n_top _ (nI 65536) (by decide) ?_
    refine n_icmp_le (tgt := 34) hx hb dJ6_numberOfTrailingZeros_0f7a4_23 (by decide) (by first | assumption | omega) (by first | assumption | omega) (fun c2 => ?_) (fun c2 => ?_)
    · skip
      refine lv_iload_n hx hb dJ6_numberOfTrailingZeros_0f7a4_34 rfl (lv_at hl 1 rfl) ?_
      refine lv_sipush (v := nI 256) hx hb dJ6_numberOfTrailingZeros_0f7a4_35 (by decide) ?_
      refine n_icmp_le (tgt := 49) hx hb dJ6_numberOfTrailingZeros_0f7a4_38 (by decide) (by first | assumption | omega) (by first | assumption | omega) (fun c3 => ?_) (fun c3 => ?_)
      · skip
        refine lv_iload_n hx hb dJ6_numberOfTrailingZeros_0f7a4_49 rfl (lv_at hl 1 rfl) ?_
        refine lv_bipush (v := nI 16) hx hb dJ6_numberOfTrailingZeros_0f7a4_50 (by decide) ?_
        refine n_icmp_le (tgt := 62) hx hb dJ6_numberOfTrailingZeros_0f7a4_52 (by decide) (by first | assumption | omega) (by first | assumption | omega) (fun c4 => ?_) (fun c4 => ?_)
        · skip
          refine lv_iload_n hx hb dJ6_numberOfTrailingZeros_0f7a4_62 rfl (lv_at hl 1 rfl) ?_
          refine lv_iconst (v := nI 4) hx hb dJ6_numberOfTrailingZeros_0f7a4_63 (by decide) ?_
          refine n_icmp_le (tgt := 74) hx hb dJ6_numberOfTrailingZeros_0f7a4_64 (by decide) (by first | assumption | omega) (by first | assumption | omega) (fun c5 => ?_) (fun c5 => ?_)
          · skip
            refine lv_iload_n hx hb dJ6_numberOfTrailingZeros_0f7a4_74 rfl (lv_at hl 0 rfl) ?_
            refine lv_iload_n hx hb dJ6_numberOfTrailingZeros_0f7a4_75 rfl (lv_at hl 1 rfl) ?_
            refine lv_iconst (v := nI 1) hx hb dJ6_numberOfTrailingZeros_0f7a4_76 (by decide) ?_
            refine lv_iushr hx hb dJ6_numberOfTrailingZeros_0f7a4_77 (pk_ushrN (n := T) (by first | assumption | omega) _ 1 (by decide)) ?_
            refine n_iadd hx hb dJ6_numberOfTrailingZeros_0f7a4_78 ?_
            exact k_retR (v := nI (1 + (T / 2 ^ 1))) hx hb hr hlocks (by exact congrArg nI (by omega)) dJ6_numberOfTrailingZeros_0f7a4_79
          · skip
            refine lv_iinc (v := nI (1 + 2)) (lv' := [(1, .int (nI (1 + 2))), (0, .int (nI T))]) hx hb dJ6_numberOfTrailingZeros_0f7a4_67 hl (k := 0) rfl (n_inc _ 2) (by decide) rfl (fun ls hl => ?_)
            refine lv_iload_n hx hb dJ6_numberOfTrailingZeros_0f7a4_70 rfl (lv_at hl 1 rfl) ?_
            refine lv_iconst (v := nI 2) hx hb dJ6_numberOfTrailingZeros_0f7a4_71 (by decide) ?_
            refine lv_iushr hx hb dJ6_numberOfTrailingZeros_0f7a4_72 (pk_ushrN (n := T) (by first | assumption | omega) _ 2 (by decide)) ?_
            refine lv_istore_n (lv' := [(0, .int (nI (T / 2 ^ 2))), (1, .int (nI (1 + 2)))]) hx hb dJ6_numberOfTrailingZeros_0f7a4_73 rfl hl (by decide) rfl (fun ls hl => ?_)
            refine lv_iload_n hx hb dJ6_numberOfTrailingZeros_0f7a4_74 rfl (lv_at hl 1 rfl) ?_
            refine lv_iload_n hx hb dJ6_numberOfTrailingZeros_0f7a4_75 rfl (lv_at hl 0 rfl) ?_
            refine lv_iconst (v := nI 1) hx hb dJ6_numberOfTrailingZeros_0f7a4_76 (by decide) ?_
            refine lv_iushr hx hb dJ6_numberOfTrailingZeros_0f7a4_77 (pk_ushrN (n := T / 2 ^ 2) (by first | assumption | omega) _ 1 (by decide)) ?_
            refine n_iadd hx hb dJ6_numberOfTrailingZeros_0f7a4_78 ?_
            exact k_retR (v := nI ((1 + 2) + ((T / 2 ^ 2) / 2 ^ 1))) hx hb hr hlocks (by exact congrArg nI (by omega)) dJ6_numberOfTrailingZeros_0f7a4_79
        · skip
          refine lv_iinc (v := nI (1 + 4)) (lv' := [(1, .int (nI (1 + 4))), (0, .int (nI T))]) hx hb dJ6_numberOfTrailingZeros_0f7a4_55 hl (k := 0) rfl (n_inc _ 4) (by decide) rfl (fun ls hl => ?_)
          refine lv_iload_n hx hb dJ6_numberOfTrailingZeros_0f7a4_58 rfl (lv_at hl 1 rfl) ?_
          refine lv_iconst (v := nI 4) hx hb dJ6_numberOfTrailingZeros_0f7a4_59 (by decide) ?_
          refine lv_iushr hx hb dJ6_numberOfTrailingZeros_0f7a4_60 (pk_ushrN (n := T) (by first | assumption | omega) _ 4 (by decide)) ?_
          refine lv_istore_n (lv' := [(0, .int (nI (T / 2 ^ 4))), (1, .int (nI (1 + 4)))]) hx hb dJ6_numberOfTrailingZeros_0f7a4_61 rfl hl (by decide) rfl (fun ls hl => ?_)
          refine lv_iload_n hx hb dJ6_numberOfTrailingZeros_0f7a4_62 rfl (lv_at hl 0 rfl) ?_
          refine lv_iconst (v := nI 4) hx hb dJ6_numberOfTrailingZeros_0f7a4_63 (by decide) ?_
          refine n_icmp_le (tgt := 74) hx hb dJ6_numberOfTrailingZeros_0f7a4_64 (by decide) (by first | assumption | omega) (by first | assumption | omega) (fun c6 => ?_) (fun c6 => ?_)
          · skip
            refine lv_iload_n hx hb dJ6_numberOfTrailingZeros_0f7a4_74 rfl (lv_at hl 1 rfl) ?_
            refine lv_iload_n hx hb dJ6_numberOfTrailingZeros_0f7a4_75 rfl (lv_at hl 0 rfl) ?_
            refine lv_iconst (v := nI 1) hx hb dJ6_numberOfTrailingZeros_0f7a4_76 (by decide) ?_
            refine lv_iushr hx hb dJ6_numberOfTrailingZeros_0f7a4_77 (pk_ushrN (n := T / 2 ^ 4) (by first | assumption | omega) _ 1 (by decide)) ?_
            refine n_iadd hx hb dJ6_numberOfTrailingZeros_0f7a4_78 ?_
            exact k_retR (v := nI ((1 + 4) + ((T / 2 ^ 4) / 2 ^ 1))) hx hb hr hlocks (by exact congrArg nI (by omega)) dJ6_numberOfTrailingZeros_0f7a4_79
          · skip
            refine lv_iinc (v := nI (1 + 4 + 2)) (lv' := [(1, .int (nI (1 + 4 + 2))), (0, .int (nI (T / 2 ^ 4)))]) hx hb dJ6_numberOfTrailingZeros_0f7a4_67 hl (k := 1) rfl (n_inc _ 2) (by decide) rfl (fun ls hl => ?_)
            refine lv_iload_n hx hb dJ6_numberOfTrailingZeros_0f7a4_70 rfl (lv_at hl 1 rfl) ?_
            refine lv_iconst (v := nI 2) hx hb dJ6_numberOfTrailingZeros_0f7a4_71 (by decide) ?_
            refine lv_iushr hx hb dJ6_numberOfTrailingZeros_0f7a4_72 (pk_ushrN (n := T / 2 ^ 4) (by first | assumption | omega) _ 2 (by decide)) ?_
            refine lv_istore_n (lv' := [(0, .int (nI ((T / 2 ^ 4) / 2 ^ 2))), (1, .int (nI (1 + 4 + 2)))]) hx hb dJ6_numberOfTrailingZeros_0f7a4_73 rfl hl (by decide) rfl (fun ls hl => ?_)
            refine lv_iload_n hx hb dJ6_numberOfTrailingZeros_0f7a4_74 rfl (lv_at hl 1 rfl) ?_
            refine lv_iload_n hx hb dJ6_numberOfTrailingZeros_0f7a4_75 rfl (lv_at hl 0 rfl) ?_
            refine lv_iconst (v := nI 1) hx hb dJ6_numberOfTrailingZeros_0f7a4_76 (by decide) ?_
            refine lv_iushr hx hb dJ6_numberOfTrailingZeros_0f7a4_77 (pk_ushrN (n := (T / 2 ^ 4) / 2 ^ 2) (by first | assumption | omega) _ 1 (by decide)) ?_
            refine n_iadd hx hb dJ6_numberOfTrailingZeros_0f7a4_78 ?_
            exact k_retR (v := nI ((1 + 4 + 2) + (((T / 2 ^ 4) / 2 ^ 2) / 2 ^ 1))) hx hb hr hlocks (by exact congrArg nI (by omega)) dJ6_numberOfTrailingZeros_0f7a4_79
      · skip
        refine lv_iinc (v := nI (1 + 8)) (lv' := [(1, .int (nI (1 + 8))), (0, .int (nI T))]) hx hb dJ6_numberOfTrailingZeros_0f7a4_41 hl (k := 0) rfl (n_inc _ 8) (by decide) rfl (fun ls hl => ?_)
        refine lv_iload_n hx hb dJ6_numberOfTrailingZeros_0f7a4_44 rfl (lv_at hl 1 rfl) ?_
        refine lv_bipush (v := nI 8) hx hb dJ6_numberOfTrailingZeros_0f7a4_45 (by decide) ?_
        refine lv_iushr hx hb dJ6_numberOfTrailingZeros_0f7a4_47 (pk_ushrN (n := T) (by first | assumption | omega) _ 8 (by decide)) ?_
        refine lv_istore_n (lv' := [(0, .int (nI (T / 2 ^ 8))), (1, .int (nI (1 + 8)))]) hx hb dJ6_numberOfTrailingZeros_0f7a4_48 rfl hl (by decide) rfl (fun ls hl => ?_)
        refine lv_iload_n hx hb dJ6_numberOfTrailingZeros_0f7a4_49 rfl (lv_at hl 0 rfl) ?_
        refine lv_bipush (v := nI 16) hx hb dJ6_numberOfTrailingZeros_0f7a4_50 (by decide) ?_
        refine n_icmp_le (tgt := 62) hx hb dJ6_numberOfTrailingZeros_0f7a4_52 (by decide) (by first | assumption | omega) (by first | assumption | omega) (fun c7 => ?_) (fun c7 => ?_)
        · skip
          refine lv_iload_n hx hb dJ6_numberOfTrailingZeros_0f7a4_62 rfl (lv_at hl 0 rfl) ?_
          refine lv_iconst (v := nI 4) hx hb dJ6_numberOfTrailingZeros_0f7a4_63 (by decide) ?_
          refine n_icmp_le (tgt := 74) hx hb dJ6_numberOfTrailingZeros_0f7a4_64 (by decide) (by first | assumption | omega) (by first | assumption | omega) (fun c8 => ?_) (fun c8 => ?_)
          · skip
            refine lv_iload_n hx hb dJ6_numberOfTrailingZeros_0f7a4_74 rfl (lv_at hl 1 rfl) ?_
            refine lv_iload_n hx hb dJ6_numberOfTrailingZeros_0f7a4_75 rfl (lv_at hl 0 rfl) ?_
            refine lv_iconst (v := nI 1) hx hb dJ6_numberOfTrailingZeros_0f7a4_76 (by decide) ?_
            refine lv_iushr hx hb dJ6_numberOfTrailingZeros_0f7a4_77 (pk_ushrN (n := T / 2 ^ 8) (by first | assumption | omega) _ 1 (by decide)) ?_
            refine n_iadd hx hb dJ6_numberOfTrailingZeros_0f7a4_78 ?_
            exact k_retR (v := nI ((1 + 8) + ((T / 2 ^ 8) / 2 ^ 1))) hx hb hr hlocks (by exact congrArg nI (by omega)) dJ6_numberOfTrailingZeros_0f7a4_79
          · skip
            refine lv_iinc (v := nI (1 + 8 + 2)) (lv' := [(1, .int (nI (1 + 8 + 2))), (0, .int (nI (T / 2 ^ 8)))]) hx hb dJ6_numberOfTrailingZeros_0f7a4_67 hl (k := 1) rfl (n_inc _ 2) (by decide) rfl (fun ls hl => ?_)
            refine lv_iload_n hx hb dJ6_numberOfTrailingZeros_0f7a4_70 rfl (lv_at hl 1 rfl) ?_
            refine lv_iconst (v := nI 2) hx hb dJ6_numberOfTrailingZeros_0f7a4_71 (by decide) ?_
            refine lv_iushr hx hb dJ6_numberOfTrailingZeros_0f7a4_72 (pk_ushrN (n := T / 2 ^ 8) (by first | assumption | omega) _ 2 (by decide)) ?_
            refine lv_istore_n (lv' := [(0, .int (nI ((T / 2 ^ 8) / 2 ^ 2))), (1, .int (nI (1 + 8 + 2)))]) hx hb dJ6_numberOfTrailingZeros_0f7a4_73 rfl hl (by decide) rfl (fun ls hl => ?_)
            refine lv_iload_n hx hb dJ6_numberOfTrailingZeros_0f7a4_74 rfl (lv_at hl 1 rfl) ?_
            refine lv_iload_n hx hb dJ6_numberOfTrailingZeros_0f7a4_75 rfl (lv_at hl 0 rfl) ?_
            refine lv_iconst (v := nI 1) hx hb dJ6_numberOfTrailingZeros_0f7a4_76 (by decide) ?_
            refine lv_iushr hx hb dJ6_numberOfTrailingZeros_0f7a4_77 (pk_ushrN (n := (T / 2 ^ 8) / 2 ^ 2) (by first | assumption | omega) _ 1 (by decide)) ?_
            refine n_iadd hx hb dJ6_numberOfTrailingZeros_0f7a4_78 ?_
            exact k_retR (v := nI ((1 + 8 + 2) + (((T / 2 ^ 8) / 2 ^ 2) / 2 ^ 1))) hx hb hr hlocks (by exact congrArg nI (by omega)) dJ6_numberOfTrailingZeros_0f7a4_79
        · skip
          refine lv_iinc (v := nI (1 + 8 + 4)) (lv' := [(1, .int (nI (1 + 8 + 4))), (0, .int (nI (T / 2 ^ 8)))]) hx hb dJ6_numberOfTrailingZeros_0f7a4_55 hl (k := 1) rfl (n_inc _ 4) (by decide) rfl (fun ls hl => ?_)
          refine lv_iload_n hx hb dJ6_numberOfTrailingZeros_0f7a4_58 rfl (lv_at hl 1 rfl) ?_
          refine lv_iconst (v := nI 4) hx hb dJ6_numberOfTrailingZeros_0f7a4_59 (by decide) ?_
          refine lv_iushr hx hb dJ6_numberOfTrailingZeros_0f7a4_60 (pk_ushrN (n := T / 2 ^ 8) (by first | assumption | omega) _ 4 (by decide)) ?_
          refine lv_istore_n (lv' := [(0, .int (nI ((T / 2 ^ 8) / 2 ^ 4))), (1, .int (nI (1 + 8 + 4)))]) hx hb dJ6_numberOfTrailingZeros_0f7a4_61 rfl hl (by decide) rfl (fun ls hl => ?_)
          refine lv_iload_n hx hb dJ6_numberOfTrailingZeros_0f7a4_62 rfl (lv_at hl 0 rfl) ?_
          refine lv_iconst (v := nI 4) hx hb dJ6_numberOfTrailingZeros_0f7a4_63 (by decide) ?_
          refine n_icmp_le (tgt := 74) hx hb dJ6_numberOfTrailingZeros_0f7a4_64 (by decide) (by first | assumption | omega) (by first | assumption | omega) (fun c9 => ?_) (fun c9 => ?_)
          · skip
            refine lv_iload_n hx hb dJ6_numberOfTrailingZeros_0f7a4_74 rfl (lv_at hl 1 rfl) ?_
            refine lv_iload_n hx hb dJ6_numberOfTrailingZeros_0f7a4_75 rfl (lv_at hl 0 rfl) ?_
            refine lv_iconst (v := nI 1) hx hb dJ6_numberOfTrailingZeros_0f7a4_76 (by decide) ?_
            refine lv_iushr hx hb dJ6_numberOfTrailingZeros_0f7a4_77 (pk_ushrN (n := (T / 2 ^ 8) / 2 ^ 4) (by first | assumption | omega) _ 1 (by decide)) ?_
            refine n_iadd hx hb dJ6_numberOfTrailingZeros_0f7a4_78 ?_
            exact k_retR (v := nI ((1 + 8 + 4) + (((T / 2 ^ 8) / 2 ^ 4) / 2 ^ 1))) hx hb hr hlocks (by exact congrArg nI (by omega)) dJ6_numberOfTrailingZeros_0f7a4_79
          · skip
            refine lv_iinc (v := nI (1 + 8 + 4 + 2)) (lv' := [(1, .int (nI (1 + 8 + 4 + 2))), (0, .int (nI ((T / 2 ^ 8) / 2 ^ 4)))]) hx hb dJ6_numberOfTrailingZeros_0f7a4_67 hl (k := 1) rfl (n_inc _ 2) (by decide) rfl (fun ls hl => ?_)
            refine lv_iload_n hx hb dJ6_numberOfTrailingZeros_0f7a4_70 rfl (lv_at hl 1 rfl) ?_
            refine lv_iconst (v := nI 2) hx hb dJ6_numberOfTrailingZeros_0f7a4_71 (by decide) ?_
            refine lv_iushr hx hb dJ6_numberOfTrailingZeros_0f7a4_72 (pk_ushrN (n := (T / 2 ^ 8) / 2 ^ 4) (by first | assumption | omega) _ 2 (by decide)) ?_
            refine lv_istore_n (lv' := [(0, .int (nI (((T / 2 ^ 8) / 2 ^ 4) / 2 ^ 2))), (1, .int (nI (1 + 8 + 4 + 2)))]) hx hb dJ6_numberOfTrailingZeros_0f7a4_73 rfl hl (by decide) rfl (fun ls hl => ?_)
            refine lv_iload_n hx hb dJ6_numberOfTrailingZeros_0f7a4_74 rfl (lv_at hl 1 rfl) ?_
            refine lv_iload_n hx hb dJ6_numberOfTrailingZeros_0f7a4_75 rfl (lv_at hl 0 rfl) ?_
            refine lv_iconst (v := nI 1) hx hb dJ6_numberOfTrailingZeros_0f7a4_76 (by decide) ?_
            refine lv_iushr hx hb dJ6_numberOfTrailingZeros_0f7a4_77 (pk_ushrN (n := ((T / 2 ^ 8) / 2 ^ 4) / 2 ^ 2) (by first | assumption | omega) _ 1 (by decide)) ?_
            refine n_iadd hx hb dJ6_numberOfTrailingZeros_0f7a4_78 ?_
            exact k_retR (v := nI ((1 + 8 + 4 + 2) + ((((T / 2 ^ 8) / 2 ^ 4) / 2 ^ 2) / 2 ^ 1))) hx hb hr hlocks (by exact congrArg nI (by omega)) dJ6_numberOfTrailingZeros_0f7a4_79
    · skip
      refine lv_iinc (v := nI (1 + 16)) (lv' := [(1, .int (nI (1 + 16))), (0, .int (nI T))]) hx hb dJ6_numberOfTrailingZeros_0f7a4_26 hl (k := 0) rfl (n_inc _ 16) (by decide) rfl (fun ls hl => ?_)
      refine lv_iload_n hx hb dJ6_numberOfTrailingZeros_0f7a4_29 rfl (lv_at hl 1 rfl) ?_
      refine lv_bipush (v := nI 16) hx hb dJ6_numberOfTrailingZeros_0f7a4_30 (by decide) ?_
      refine lv_iushr hx hb dJ6_numberOfTrailingZeros_0f7a4_32 (pk_ushrN (n := T) (by first | assumption | omega) _ 16 (by decide)) ?_
      refine lv_istore_n (lv' := [(0, .int (nI (T / 2 ^ 16))), (1, .int (nI (1 + 16)))]) hx hb dJ6_numberOfTrailingZeros_0f7a4_33 rfl hl (by decide) rfl (fun ls hl => ?_)
      refine lv_iload_n hx hb dJ6_numberOfTrailingZeros_0f7a4_34 rfl (lv_at hl 0 rfl) ?_
      refine lv_sipush (v := nI 256) hx hb dJ6_numberOfTrailingZeros_0f7a4_35 (by decide) ?_
      refine n_icmp_le (tgt := 49) hx hb dJ6_numberOfTrailingZeros_0f7a4_38 (by decide) (by first | assumption | omega) (by first | assumption | omega) (fun c10 => ?_) (fun c10 => ?_)
      · skip
        refine lv_iload_n hx hb dJ6_numberOfTrailingZeros_0f7a4_49 rfl (lv_at hl 0 rfl) ?_
        refine lv_bipush (v := nI 16) hx hb dJ6_numberOfTrailingZeros_0f7a4_50 (by decide) ?_
        refine n_icmp_le (tgt := 62) hx hb dJ6_numberOfTrailingZeros_0f7a4_52 (by decide) (by first | assumption | omega) (by first | assumption | omega) (fun c11 => ?_) (fun c11 => ?_)
        · skip
          refine lv_iload_n hx hb dJ6_numberOfTrailingZeros_0f7a4_62 rfl (lv_at hl 0 rfl) ?_
          refine lv_iconst (v := nI 4) hx hb dJ6_numberOfTrailingZeros_0f7a4_63 (by decide) ?_
          refine n_icmp_le (tgt := 74) hx hb dJ6_numberOfTrailingZeros_0f7a4_64 (by decide) (by first | assumption | omega) (by first | assumption | omega) (fun c12 => ?_) (fun c12 => ?_)
          · skip
            refine lv_iload_n hx hb dJ6_numberOfTrailingZeros_0f7a4_74 rfl (lv_at hl 1 rfl) ?_
            refine lv_iload_n hx hb dJ6_numberOfTrailingZeros_0f7a4_75 rfl (lv_at hl 0 rfl) ?_
            refine lv_iconst (v := nI 1) hx hb dJ6_numberOfTrailingZeros_0f7a4_76 (by decide) ?_
            refine lv_iushr hx hb dJ6_numberOfTrailingZeros_0f7a4_77 (pk_ushrN (n := T / 2 ^ 16) (by first | assumption | omega) _ 1 (by decide)) ?_
            refine n_iadd hx hb dJ6_numberOfTrailingZeros_0f7a4_78 ?_
            exact k_retR (v := nI ((1 + 16) + ((T / 2 ^ 16) / 2 ^ 1))) hx hb hr hlocks (by exact congrArg nI (by omega)) dJ6_numberOfTrailingZeros_0f7a4_79
          · skip
            refine lv_iinc (v := nI (1 + 16 + 2)) (lv' := [(1, .int (nI (1 + 16 + 2))), (0, .int (nI (T / 2 ^ 16)))]) hx hb dJ6_numberOfTrailingZeros_0f7a4_67 hl (k := 1) rfl (n_inc _ 2) (by decide) rfl (fun ls hl => ?_)
            refine lv_iload_n hx hb dJ6_numberOfTrailingZeros_0f7a4_70 rfl (lv_at hl 1 rfl) ?_
            refine lv_iconst (v := nI 2) hx hb dJ6_numberOfTrailingZeros_0f7a4_71 (by decide) ?_
            refine lv_iushr hx hb dJ6_numberOfTrailingZeros_0f7a4_72 (pk_ushrN (n := T / 2 ^ 16) (by first | assumption | omega) _ 2 (by decide)) ?_
            refine lv_istore_n (lv' := [(0, .int (nI ((T / 2 ^ 16) / 2 ^ 2))), (1, .int (nI (1 + 16 + 2)))]) hx hb dJ6_numberOfTrailingZeros_0f7a4_73 rfl hl (by decide) rfl (fun ls hl => ?_)
            refine lv_iload_n hx hb dJ6_numberOfTrailingZeros_0f7a4_74 rfl (lv_at hl 1 rfl) ?_
            refine lv_iload_n hx hb dJ6_numberOfTrailingZeros_0f7a4_75 rfl (lv_at hl 0 rfl) ?_
            refine lv_iconst (v := nI 1) hx hb dJ6_numberOfTrailingZeros_0f7a4_76 (by decide) ?_
            refine lv_iushr hx hb dJ6_numberOfTrailingZeros_0f7a4_77 (pk_ushrN (n := (T / 2 ^ 16) / 2 ^ 2) (by first | assumption | omega) _ 1 (by decide)) ?_
            refine n_iadd hx hb dJ6_numberOfTrailingZeros_0f7a4_78 ?_
            exact k_retR (v := nI ((1 + 16 + 2) + (((T / 2 ^ 16) / 2 ^ 2) / 2 ^ 1))) hx hb hr hlocks (by exact congrArg nI (by omega)) dJ6_numberOfTrailingZeros_0f7a4_79
        · skip
          refine lv_iinc (v := nI (1 + 16 + 4)) (lv' := [(1, .int (nI (1 + 16 + 4))), (0, .int (nI (T / 2 ^ 16)))]) hx hb dJ6_numberOfTrailingZeros_0f7a4_55 hl (k := 1) rfl (n_inc _ 4) (by decide) rfl (fun ls hl => ?_)
          refine lv_iload_n hx hb dJ6_numberOfTrailingZeros_0f7a4_58 rfl (lv_at hl 1 rfl) ?_
          refine lv_iconst (v := nI 4) hx hb dJ6_numberOfTrailingZeros_0f7a4_59 (by decide) ?_
          refine lv_iushr hx hb dJ6_numberOfTrailingZeros_0f7a4_60 (pk_ushrN (n := T / 2 ^ 16) (by first | assumption | omega) _ 4 (by decide)) ?_
          refine lv_istore_n (lv' := [(0, .int (nI ((T / 2 ^ 16) / 2 ^ 4))), (1, .int (nI (1 + 16 + 4)))]) hx hb dJ6_numberOfTrailingZeros_0f7a4_61 rfl hl (by decide) rfl (fun ls hl => ?_)
          refine lv_iload_n hx hb dJ6_numberOfTrailingZeros_0f7a4_62 rfl (lv_at hl 0 rfl) ?_
          refine lv_iconst (v := nI 4) hx hb dJ6_numberOfTrailingZeros_0f7a4_63 (by decide) ?_
          refine n_icmp_le (tgt := 74) hx hb dJ6_numberOfTrailingZeros_0f7a4_64 (by decide) (by first | assumption | omega) (by first | assumption | omega) (fun c13 => ?_) (fun c13 => ?_)
          · skip
            refine lv_iload_n hx hb dJ6_numberOfTrailingZeros_0f7a4_74 rfl (lv_at hl 1 rfl) ?_
            refine lv_iload_n hx hb dJ6_numberOfTrailingZeros_0f7a4_75 rfl (lv_at hl 0 rfl) ?_
            refine lv_iconst (v := nI 1) hx hb dJ6_numberOfTrailingZeros_0f7a4_76 (by decide) ?_
            refine lv_iushr hx hb dJ6_numberOfTrailingZeros_0f7a4_77 (pk_ushrN (n := (T / 2 ^ 16) / 2 ^ 4) (by first | assumption | omega) _ 1 (by decide)) ?_
            refine n_iadd hx hb dJ6_numberOfTrailingZeros_0f7a4_78 ?_
            exact k_retR (v := nI ((1 + 16 + 4) + (((T / 2 ^ 16) / 2 ^ 4) / 2 ^ 1))) hx hb hr hlocks (by exact congrArg nI (by omega)) dJ6_numberOfTrailingZeros_0f7a4_79
          · skip
            refine lv_iinc (v := nI (1 + 16 + 4 + 2)) (lv' := [(1, .int (nI (1 + 16 + 4 + 2))), (0, .int (nI ((T / 2 ^ 16) / 2 ^ 4)))]) hx hb dJ6_numberOfTrailingZeros_0f7a4_67 hl (k := 1) rfl (n_inc _ 2) (by decide) rfl (fun ls hl => ?_)
            refine lv_iload_n hx hb dJ6_numberOfTrailingZeros_0f7a4_70 rfl (lv_at hl 1 rfl) ?_
            refine lv_iconst (v := nI 2) hx hb dJ6_numberOfTrailingZeros_0f7a4_71 (by decide) ?_
            refine lv_iushr hx hb dJ6_numberOfTrailingZeros_0f7a4_72 (pk_ushrN (n := (T / 2 ^ 16) / 2 ^ 4) (by first | assumption | omega) _ 2 (by decide)) ?_
            refine lv_istore_n (lv' := [(0, .int (nI (((T / 2 ^ 16) / 2 ^ 4) / 2 ^ 2))), (1, .int (nI (1 + 16 + 4 + 2)))]) hx hb dJ6_numberOfTrailingZeros_0f7a4_73 rfl hl (by decide) rfl (fun ls hl => ?_)
            refine lv_iload_n hx hb dJ6_numberOfTrailingZeros_0f7a4_74 rfl (lv_at hl 1 rfl) ?_
            refine lv_iload_n hx hb dJ6_numberOfTrailingZeros_0f7a4_75 rfl (lv_at hl 0 rfl) ?_
            refine lv_iconst (v := nI 1) hx hb dJ6_numberOfTrailingZeros_0f7a4_76 (by decide) ?_
            refine lv_iushr hx hb dJ6_numberOfTrailingZeros_0f7a4_77 (pk_ushrN (n := ((T / 2 ^ 16) / 2 ^ 4) / 2 ^ 2) (by first | assumption | omega) _ 1 (by decide)) ?_
            refine n_iadd hx hb dJ6_numberOfTrailingZeros_0f7a4_78 ?_
            exact k_retR (v := nI ((1 + 16 + 4 + 2) + ((((T / 2 ^ 16) / 2 ^ 4) / 2 ^ 2) / 2 ^ 1))) hx hb hr hlocks (by exact congrArg nI (by omega)) dJ6_numberOfTrailingZeros_0f7a4_79
      · skip
        refine lv_iinc (v := nI (1 + 16 + 8)) (lv' := [(1, .int (nI (1 + 16 + 8))), (0, .int (nI (T / 2 ^ 16)))]) hx hb dJ6_numberOfTrailingZeros_0f7a4_41 hl (k := 1) rfl (n_inc _ 8) (by decide) rfl (fun ls hl => ?_)
        refine lv_iload_n hx hb dJ6_numberOfTrailingZeros_0f7a4_44 rfl (lv_at hl 1 rfl) ?_
        refine lv_bipush (v := nI 8) hx hb dJ6_numberOfTrailingZeros_0f7a4_45 (by decide) ?_
        refine lv_iushr hx hb dJ6_numberOfTrailingZeros_0f7a4_47 (pk_ushrN (n := T / 2 ^ 16) (by first | assumption | omega) _ 8 (by decide)) ?_
        refine lv_istore_n (lv' := [(0, .int (nI ((T / 2 ^ 16) / 2 ^ 8))), (1, .int (nI (1 + 16 + 8)))]) hx hb dJ6_numberOfTrailingZeros_0f7a4_48 rfl hl (by decide) rfl (fun ls hl => ?_)
        refine lv_iload_n hx hb dJ6_numberOfTrailingZeros_0f7a4_49 rfl (lv_at hl 0 rfl) ?_
        refine lv_bipush (v := nI 16) hx hb dJ6_numberOfTrailingZeros_0f7a4_50 (by decide) ?_
        refine n_icmp_le (tgt := 62) hx hb dJ6_numberOfTrailingZeros_0f7a4_52 (by decide) (by first | assumption | omega) (by first | assumption | omega) (fun c14 => ?_) (fun c14 => ?_)
        · skip
          refine lv_iload_n hx hb dJ6_numberOfTrailingZeros_0f7a4_62 rfl (lv_at hl 0 rfl) ?_
          refine lv_iconst (v := nI 4) hx hb dJ6_numberOfTrailingZeros_0f7a4_63 (by decide) ?_
          refine n_icmp_le (tgt := 74) hx hb dJ6_numberOfTrailingZeros_0f7a4_64 (by decide) (by first | assumption | omega) (by first | assumption | omega) (fun c15 => ?_) (fun c15 => ?_)
          · skip
            refine lv_iload_n hx hb dJ6_numberOfTrailingZeros_0f7a4_74 rfl (lv_at hl 1 rfl) ?_
            refine lv_iload_n hx hb dJ6_numberOfTrailingZeros_0f7a4_75 rfl (lv_at hl 0 rfl) ?_
            refine lv_iconst (v := nI 1) hx hb dJ6_numberOfTrailingZeros_0f7a4_76 (by decide) ?_
            refine lv_iushr hx hb dJ6_numberOfTrailingZeros_0f7a4_77 (pk_ushrN (n := (T / 2 ^ 16) / 2 ^ 8) (by first | assumption | omega) _ 1 (by decide)) ?_
            refine n_iadd hx hb dJ6_numberOfTrailingZeros_0f7a4_78 ?_
            exact k_retR (v := nI ((1 + 16 + 8) + (((T / 2 ^ 16) / 2 ^ 8) / 2 ^ 1))) hx hb hr hlocks (by exact congrArg nI (by omega)) dJ6_numberOfTrailingZeros_0f7a4_79
          · skip
            refine lv_iinc (v := nI (1 + 16 + 8 + 2)) (lv' := [(1, .int (nI (1 + 16 + 8 + 2))), (0, .int (nI ((T / 2 ^ 16) / 2 ^ 8)))]) hx hb dJ6_numberOfTrailingZeros_0f7a4_67 hl (k := 1) rfl (n_inc _ 2) (by decide) rfl (fun ls hl => ?_)
            refine lv_iload_n hx hb dJ6_numberOfTrailingZeros_0f7a4_70 rfl (lv_at hl 1 rfl) ?_
            refine lv_iconst (v := nI 2) hx hb dJ6_numberOfTrailingZeros_0f7a4_71 (by decide) ?_
            refine lv_iushr hx hb dJ6_numberOfTrailingZeros_0f7a4_72 (pk_ushrN (n := (T / 2 ^ 16) / 2 ^ 8) (by first | assumption | omega) _ 2 (by decide)) ?_
            refine lv_istore_n (lv' := [(0, .int (nI (((T / 2 ^ 16) / 2 ^ 8) / 2 ^ 2))), (1, .int (nI (1 + 16 + 8 + 2)))]) hx hb dJ6_numberOfTrailingZeros_0f7a4_73 rfl hl (by decide) rfl (fun ls hl => ?_)
            refine lv_iload_n hx hb dJ6_numberOfTrailingZeros_0f7a4_74 rfl (lv_at hl 1 rfl) ?_
            refine lv_iload_n hx hb dJ6_numberOfTrailingZeros_0f7a4_75 rfl (lv_at hl 0 rfl) ?_
            refine lv_iconst (v := nI 1) hx hb dJ6_numberOfTrailingZeros_0f7a4_76 (by decide) ?_
            refine lv_iushr hx hb dJ6_numberOfTrailingZeros_0f7a4_77 (pk_ushrN (n := ((T / 2 ^ 16) / 2 ^ 8) / 2 ^ 2) (by first | assumption | omega) _ 1 (by decide)) ?_
            refine n_iadd hx hb dJ6_numberOfTrailingZeros_0f7a4_78 ?_
            exact k_retR (v := nI ((1 + 16 + 8 + 2) + ((((T / 2 ^ 16) / 2 ^ 8) / 2 ^ 2) / 2 ^ 1))) hx hb hr hlocks (by exact congrArg nI (by omega)) dJ6_numberOfTrailingZeros_0f7a4_79
        · skip
          refine lv_iinc (v := nI (1 + 16 + 8 + 4)) (lv' := [(1, .int (nI (1 + 16 + 8 + 4))), (0, .int (nI ((T / 2 ^ 16) / 2 ^ 8)))]) hx hb dJ6_numberOfTrailingZeros_0f7a4_55 hl (k := 1) rfl (n_inc _ 4) (by decide) rfl (fun ls hl => ?_)
          refine lv_iload_n hx hb dJ6_numberOfTrailingZeros_0f7a4_58 rfl (lv_at hl 1 rfl) ?_
          refine lv_iconst (v := nI 4) hx hb dJ6_numberOfTrailingZeros_0f7a4_59 (by decide) ?_
          refine lv_iushr hx hb dJ6_numberOfTrailingZeros_0f7a4_60 (pk_ushrN (n := (T / 2 ^ 16) / 2 ^ 8) (by first | assumption | omega) _ 4 (by decide)) ?_
          refine lv_istore_n (lv' := [(0, .int (nI (((T / 2 ^ 16) / 2 ^ 8) / 2 ^ 4))), (1, .int (nI (1 + 16 + 8 + 4)))]) hx hb dJ6_numberOfTrailingZeros_0f7a4_61 rfl hl (by decide) rfl (fun ls hl => ?_)
          refine lv_iload_n hx hb dJ6_numberOfTrailingZeros_0f7a4_62 rfl (lv_at hl 0 rfl) ?_
          refine lv_iconst (v := nI 4) hx hb dJ6_numberOfTrailingZeros_0f7a4_63 (by decide) ?_
          refine n_icmp_le (tgt := 74) hx hb dJ6_numberOfTrailingZeros_0f7a4_64 (by decide) (by first | assumption | omega) (by first | assumption | omega) (fun c16 => ?_) (fun c16 => ?_)
          · skip
            refine lv_iload_n hx hb dJ6_numberOfTrailingZeros_0f7a4_74 rfl (lv_at hl 1 rfl) ?_
            refine lv_iload_n hx hb dJ6_numberOfTrailingZeros_0f7a4_75 rfl (lv_at hl 0 rfl) ?_
            refine lv_iconst (v := nI 1) hx hb dJ6_numberOfTrailingZeros_0f7a4_76 (by decide) ?_
            refine lv_iushr hx hb dJ6_numberOfTrailingZeros_0f7a4_77 (pk_ushrN (n := ((T / 2 ^ 16) / 2 ^ 8) / 2 ^ 4) (by first | assumption | omega) _ 1 (by decide)) ?_
            refine n_iadd hx hb dJ6_numberOfTrailingZeros_0f7a4_78 ?_
            exact k_retR (v := nI ((1 + 16 + 8 + 4) + ((((T / 2 ^ 16) / 2 ^ 8) / 2 ^ 4) / 2 ^ 1))) hx hb hr hlocks (by exact congrArg nI (by omega)) dJ6_numberOfTrailingZeros_0f7a4_79
          · skip
            refine lv_iinc (v := nI (1 + 16 + 8 + 4 + 2)) (lv' := [(1, .int (nI (1 + 16 + 8 + 4 + 2))), (0, .int (nI (((T / 2 ^ 16) / 2 ^ 8) / 2 ^ 4)))]) hx hb dJ6_numberOfTrailingZeros_0f7a4_67 hl (k := 1) rfl (n_inc _ 2) (by decide) rfl (fun ls hl => ?_)
            refine lv_iload_n hx hb dJ6_numberOfTrailingZeros_0f7a4_70 rfl (lv_at hl 1 rfl) ?_
            refine lv_iconst (v := nI 2) hx hb dJ6_numberOfTrailingZeros_0f7a4_71 (by decide) ?_
            refine lv_iushr hx hb dJ6_numberOfTrailingZeros_0f7a4_72 (pk_ushrN (n := ((T / 2 ^ 16) / 2 ^ 8) / 2 ^ 4) (by first | assumption | omega) _ 2 (by decide)) ?_
            refine lv_istore_n (lv' := [(0, .int (nI ((((T / 2 ^ 16) / 2 ^ 8) / 2 ^ 4) / 2 ^ 2))), (1, .int (nI (1 + 16 + 8 + 4 + 2)))]) hx hb dJ6_numberOfTrailingZeros_0f7a4_73 rfl hl (by decide) rfl (fun ls hl => ?_)
            refine lv_iload_n hx hb dJ6_numberOfTrailingZeros_0f7a4_74 rfl (lv_at hl 1 rfl) ?_
            refine lv_iload_n hx hb dJ6_numberOfTrailingZeros_0f7a4_75 rfl (lv_at hl 0 rfl) ?_
            refine lv_iconst (v := nI 1) hx hb dJ6_numberOfTrailingZeros_0f7a4_76 (by decide) ?_
            refine lv_iushr hx hb dJ6_numberOfTrailingZeros_0f7a4_77 (pk_ushrN (n := (((T / 2 ^ 16) / 2 ^ 8) / 2 ^ 4) / 2 ^ 2) (by first | assumption | omega) _ 1 (by decide)) ?_
            refine n_iadd hx hb dJ6_numberOfTrailingZeros_0f7a4_78 ?_
            exact k_retR (v := nI ((1 + 16 + 8 + 4 + 2) + (((((T / 2 ^ 16) / 2 ^ 8) / 2 ^ 4) / 2 ^ 2) / 2 ^ 1))) hx hb hr hlocks (by exact congrArg nI (by omega)) dJ6_numberOfTrailingZeros_0f7a4_79
  · skip
    refine lv_iload_n hx hb dJ6_numberOfTrailingZeros_0f7a4_12 rfl (lv_at hl 0 rfl) ?_
    refine lv_bipush (v := nI 32) hx hb dJ6_numberOfTrailingZeros_0f7a4_13 (by decide) ?_
    refine n_iand hx hb dJ6_numberOfTrailingZeros_0f7a4_15 ?_
    exact k_retR (v := nI (T &&& 32)) hx hb hr hlocks (by rw [show T = 0 by omega, show t = 0 by omega]; decide) dJ6_numberOfTrailingZeros_0f7a4_16
set_option maxHeartbeats 4000000 in
set_option maxRecDepth 100000 in
theorem c_J6_bitCount_0f7a4 (l : Launch) (g : va_G) (cI cJ cZ : ClassId) (X : Nat) (hX : X < 33554432) : kR l g (kty cI cJ cZ) yJ6_bitCount_0f7a4 wsJ6_bitCount_0f7a4 ({ frames := 0, cells := 0, slots := 0, locals := 0 }) [.int (nI X)] [] (nI (cnt (fun j => X.testBit j) 25)) := by
  refine Met.ofW (cc := cJ6_bitCount_0f7a4) (maxL := 1) (ret := (some .int)) (by decide) rfl ?_
  intro p e s m args below meth c s₁ B hml hv
  obtain ⟨rfl, hP, hk⟩ := hv
  have hx := B.exec
  have hb := B.bytes
  have hr := B.returns
  have hts := atoms_spec (ws := wsJ6_bitCount_0f7a4) B.pre
  have hown : s.vm.findClass RJ6 = some m.cls := findClass_of_methodNamed B.named
  have hlocks := B.notSynchronized
  have hK := hk.1
  have hl := lv_entry ([.int (nI X)]) (n := 1) (Nat.le_of_ble_eq_true rfl)
  rw [lg_entry_eq]
  generalize (lg_sl ([.int (nI X)]) ++ List.replicate (1 - (lg_sl ([.int (nI X)])).length) Slot.unset).toArray = ls at hl ⊢
  have hl : lv_has ls 1 [(0, .int (nI X))] := hl
  obtain ⟨hb1, hb2, hb3, hb4⟩ := bs_b hX
  refine lv_iload_n hx hb dJ6_bitCount_0f7a4_0 rfl (lv_at hl 0 rfl) ?_
  refine lv_iload_n hx hb dJ6_bitCount_0f7a4_1 rfl (lv_at hl 0 rfl) ?_
  refine lv_iconst (v := nI 1) hx hb dJ6_bitCount_0f7a4_2 (by decide) ?_
  refine lv_iushr hx hb dJ6_bitCount_0f7a4_3 (pk_ushrN (n := X) (by omega) _ 1 (by decide)) ?_
  refine lv_ldcw hx hb (v := 1431655765) hown (hts (.constant RJ6 265 1431655765) (by decide +kernel)) dJ6_bitCount_0f7a4_4 ?_
  refine n_top _ (nI 1431655765) (by decide) ?_
  refine n_iand hx hb dJ6_bitCount_0f7a4_7 ?_
  refine n_isub hx hb dJ6_bitCount_0f7a4_8 (by exact bs_b1 X) ?_
  refine n_top _ (nI (bs1 X)) (by exact rfl) ?_
  refine lv_istore_n (lv' := [(0, .int (nI (bs1 X)))]) hx hb dJ6_bitCount_0f7a4_9 rfl hl (by decide) rfl (fun ls hl => ?_)
  refine lv_iload_n hx hb dJ6_bitCount_0f7a4_10 rfl (lv_at hl 0 rfl) ?_
  refine lv_ldcw hx hb (v := 858993459) hown (hts (.constant RJ6 266 858993459) (by decide +kernel)) dJ6_bitCount_0f7a4_11 ?_
  refine n_top _ (nI 858993459) (by decide) ?_
  refine n_iand hx hb dJ6_bitCount_0f7a4_14 ?_
  refine lv_iload_n hx hb dJ6_bitCount_0f7a4_15 rfl (lv_at hl 0 rfl) ?_
  refine lv_iconst (v := nI 2) hx hb dJ6_bitCount_0f7a4_16 (by decide) ?_
  refine lv_iushr hx hb dJ6_bitCount_0f7a4_17 (pk_ushrN (n := bs1 X) (by exact hb1) _ 2 (by decide)) ?_
  refine lv_ldcw hx hb (v := 858993459) hown (hts (.constant RJ6 266 858993459) (by decide +kernel)) dJ6_bitCount_0f7a4_18 ?_
  refine n_top _ (nI 858993459) (by decide) ?_
  refine n_iand hx hb dJ6_bitCount_0f7a4_21 ?_
  refine n_iadd hx hb dJ6_bitCount_0f7a4_22 ?_
  refine n_top _ (nI (bs2 (bs1 X))) (by exact rfl) ?_
  refine lv_istore_n (lv' := [(0, .int (nI (bs2 (bs1 X))))]) hx hb dJ6_bitCount_0f7a4_23 rfl hl (by decide) rfl (fun ls hl => ?_)
  refine lv_iload_n hx hb dJ6_bitCount_0f7a4_24 rfl (lv_at hl 0 rfl) ?_
  refine lv_iload_n hx hb dJ6_bitCount_0f7a4_25 rfl (lv_at hl 0 rfl) ?_
  refine lv_iconst (v := nI 4) hx hb dJ6_bitCount_0f7a4_26 (by decide) ?_
  refine lv_iushr hx hb dJ6_bitCount_0f7a4_27 (pk_ushrN (n := bs2 (bs1 X)) (by exact hb2) _ 4 (by decide)) ?_
  refine n_iadd hx hb dJ6_bitCount_0f7a4_28 ?_
  refine lv_ldcw hx hb (v := 252645135) hown (hts (.constant RJ6 267 252645135) (by decide +kernel)) dJ6_bitCount_0f7a4_29 ?_
  refine n_top _ (nI 252645135) (by decide) ?_
  refine n_iand hx hb dJ6_bitCount_0f7a4_32 ?_
  refine n_top _ (nI (bs3 (bs2 (bs1 X)))) (by exact rfl) ?_
  refine lv_istore_n (lv' := [(0, .int (nI (bs3 (bs2 (bs1 X)))))]) hx hb dJ6_bitCount_0f7a4_33 rfl hl (by decide) rfl (fun ls hl => ?_)
  refine lv_iload_n hx hb dJ6_bitCount_0f7a4_34 rfl (lv_at hl 0 rfl) ?_
  refine lv_iload_n hx hb dJ6_bitCount_0f7a4_35 rfl (lv_at hl 0 rfl) ?_
  refine lv_bipush (v := nI 8) hx hb dJ6_bitCount_0f7a4_36 (by decide) ?_
  refine lv_iushr hx hb dJ6_bitCount_0f7a4_38 (pk_ushrN (n := bs3 (bs2 (bs1 X))) (by exact hb3) _ 8 (by decide)) ?_
  refine n_iadd hx hb dJ6_bitCount_0f7a4_39 ?_
  refine n_top _ (nI (bs4 (bs3 (bs2 (bs1 X))))) (by exact rfl) ?_
  refine lv_istore_n (lv' := [(0, .int (nI (bs4 (bs3 (bs2 (bs1 X))))))]) hx hb dJ6_bitCount_0f7a4_40 rfl hl (by decide) rfl (fun ls hl => ?_)
  refine lv_iload_n hx hb dJ6_bitCount_0f7a4_41 rfl (lv_at hl 0 rfl) ?_
  refine lv_iload_n hx hb dJ6_bitCount_0f7a4_42 rfl (lv_at hl 0 rfl) ?_
  refine lv_bipush (v := nI 16) hx hb dJ6_bitCount_0f7a4_43 (by decide) ?_
  refine lv_iushr hx hb dJ6_bitCount_0f7a4_45 (pk_ushrN (n := bs4 (bs3 (bs2 (bs1 X)))) (by exact hb4) _ 16 (by decide)) ?_
  refine n_iadd hx hb dJ6_bitCount_0f7a4_46 ?_
  refine n_top _ (nI (bs5 (bs4 (bs3 (bs2 (bs1 X)))))) (by exact rfl) ?_
  refine lv_istore_n (lv' := [(0, .int (nI (bs5 (bs4 (bs3 (bs2 (bs1 X)))))))]) hx hb dJ6_bitCount_0f7a4_47 rfl hl (by decide) rfl (fun ls hl => ?_)
  refine lv_iload_n hx hb dJ6_bitCount_0f7a4_48 rfl (lv_at hl 0 rfl) ?_
  refine lv_bipush (v := nI 63) hx hb dJ6_bitCount_0f7a4_49 (by decide) ?_
  refine n_iand hx hb dJ6_bitCount_0f7a4_51 ?_
  exact k_retR (v := nI ((bs5 (bs4 (bs3 (bs2 (bs1 X))))) &&& 63)) hx hb hr hlocks (by exact congrArg nI (bs_cnt hX)) dJ6_bitCount_0f7a4_52
set_option maxHeartbeats 4000000 in
set_option maxRecDepth 100000 in
theorem lp_X1_lowestBad_2 {p : Program} {e : Env} {s : State} {m : MethodId} {args : Array Value} {below : List Frame} {meth : Method} {c : Code} {Q : State → Prop} (l : Launch) (g : va_G) (cI cJ cZ : ClassId) (k r1 r2 r3 r4 : Nat) (sz lf rt tr : Nat → Int32) (M : Nat) (hM : M < 33554432)  (C0 : cM p s m args meth c cX1_lowestBad 3 (some .int) wsX1_lowestBad RX1) (hk : kK g (kty cI cJ cZ) s) {H : Heap} {locs : List Loc} (hP : va_P g vwCl [(k, .inr (1, [.ref r1, .ref r2, .ref r3, .ref r4])), (r1, .inl (cI, 25, .inl sz)), (r2, .inl (cI, 25, .inl lf)), (r3, .inl (cI, 25, .inl rt)), (r4, .inl (cI, 25, .inl tr))] H) (kk0 : (lwb (fun j => M.testBit j && bd sz lf rt j) = 0) → ∀ (ls : Array Slot), lv_has ls 3 [(0, .ref k)] → W p l e (headSpec wsX1_lowestBad ({ frames := 2, cells := 0, slots := 0, locals := 43 })).room s m args below meth c H locs 0 0 Q (F0 m 33 ls [])) (kk1 : ∀ (j : Nat), (lwb (fun j => M.testBit j && bd sz lf rt j) = j) → ∀ (ls : Array Slot), lv_has ls 3 [(0, .ref k), (2, .int (nI j))] → W p l e (headSpec wsX1_lowestBad ({ frames := 2, cells := 0, slots := 0, locals := 43 })).room s m args below meth c H locs 0 0 Q (F0 m 25 ls [])) :
    ∀ (K : Nat) (j : Nat), (25 - j) < K → (1 ≤ j ∧ j ≤ 25) → (lwb (fun j => M.testBit j && bd sz lf rt j) = lwF (fun j => M.testBit j && bd sz lf rt j) (25 - j) j) → ∀ (ls : Array Slot), lv_has ls 3 [(0, .ref k), (1, .int (nI M)), (2, .int (nI j))] → W p l e (headSpec wsX1_lowestBad ({ frames := 2, cells := 0, slots := 0, locals := 43 })).room s m args below meth c H locs 0 0 Q (F0 m 2 ls []) := by
  obtain ⟨hx, hb, hr, hml, hown, hts, hlocks⟩ := C0
  have hK := hk.1
  intro K
  induction K with
  | zero =>
    intro j h0
    exact absurd h0 (Nat.not_lt_zero _)
  | succ K ih =>
    intro j hmu hj hlw ls hl
    refine lv_iload_n hx hb dX1_lowestBad_2 rfl (lv_at hl 2 rfl) ?_
    refine lv_bipush (v := nI 24) hx hb dX1_lowestBad_3 (by decide) ?_
    refine n_icmp_gt (tgt := 33) hx hb dX1_lowestBad_5 (by decide) (by first | assumption | omega) (by first | assumption | omega) (fun c4 => ?_) (fun c4 => ?_)
    · skip
      exact kk0  (by rw [hlw, show 25 - j = 0 by omega]; rfl) ls (lv_sub hl [0] rfl)
    · skip
      refine lv_iload_n hx hb dX1_lowestBad_8 rfl (lv_at hl 1 rfl) ?_
      refine lv_iload_n hx hb dX1_lowestBad_9 rfl (lv_at hl 2 rfl) ?_
      refine n_ishr hx hb dX1_lowestBad_10 (by first | assumption | omega) (by first | assumption | omega) ?_
      refine lv_iconst (v := nI 1) hx hb dX1_lowestBad_11 (by decide) ?_
      refine n_iand hx hb dX1_lowestBad_12 ?_
      refine lv_iconst (v := nI 1) hx hb dX1_lowestBad_13 (by decide) ?_
      refine n_icmp_ne (tgt := 27) hx hb dX1_lowestBad_14 (by decide) (by exact Nat.lt_of_le_of_lt Nat.and_le_right (by decide)) (by first | assumption | omega) (fun c5 => ?_) (fun c5 => ?_)
      · skip
        refine lv_iinc (v := nI (j + 1)) (lv' := [(2, .int (nI (j + 1))), (0, .ref k), (1, .int (nI M))]) hx hb dX1_lowestBad_27 hl (k := 2) rfl (n_inc _ 1) (by decide) rfl (fun ls hl => ?_)
        refine lv_goto (tgt := 2) hx hb dX1_lowestBad_30 (by decide) ?_
        exact ih (j + 1) (by omega) (by omega) (by rw [hlw, show 25 - j = (25 - (j + 1)) + 1 by omega, lwF_s]; simp only [Bool.and_eq_false_iff]; exact Or.inl (Bool.eq_false_iff.mpr (fun q => c5 ((bit_div M j).mpr q)))) ls (lv_sub hl [1, 2, 0] rfl)
      · skip
        refine lv_aload_n hx hb dX1_lowestBad_17 rfl (lv_at hl 0 rfl) ?_
        refine lv_iload_n hx hb dX1_lowestBad_18 rfl (lv_at hl 2 rfl) ?_
        refine k_goR (W.runV (As := [.int (nI j)]) (rest := []) ⟨hx, hb, hml, hown, hts⟩ (c_X1_isBad l g cI cJ cZ k r1 r2 r3 r4 sz lf rt tr j (by omega)) (cwV 1 hts gX1_lowestBad_X1_isBad rfl rfl rfl (by decide +kernel) ⟨Nat.le_of_ble_eq_true rfl, Nat.le_of_ble_eq_true rfl⟩) (k_preRV hk hP [0, 1, 2, 3, 4] rfl (ci := 1) (q0 := 0) rfl rfl) rfl rfl hl.1 rfl (lv_room (Nat.le_of_ble_eq_true rfl)) dX1_lowestBad_19 ⟨by first | exact Nat.zero_le _ | omega, by first | exact Nat.zero_le _ | omega⟩) ?_
        refine k_ifeq (tgt := 27) hx hb dX1_lowestBad_22 (by decide) (fun c6 => ?_) (fun c6 => ?_)
        · skip
          refine lv_iinc (v := nI (j + 1)) (lv' := [(2, .int (nI (j + 1))), (0, .ref k), (1, .int (nI M))]) hx hb dX1_lowestBad_27 hl (k := 2) rfl (n_inc _ 1) (by decide) rfl (fun ls hl => ?_)
          refine lv_goto (tgt := 2) hx hb dX1_lowestBad_30 (by decide) ?_
          exact ih (j + 1) (by omega) (by omega) (by rw [hlw, show 25 - j = (25 - (j + 1)) + 1 by omega, lwF_s]; simp only [Bool.and_eq_false_iff]; exact Or.inr (Bool.eq_false_iff.mpr c6)) ls (lv_sub hl [1, 2, 0] rfl)
        · skip
          exact kk1 j (by rw [hlw, show 25 - j = (25 - (j + 1)) + 1 by omega]; exact lwF_e (by simp only [Bool.and_eq_true]; exact ⟨(bit_div M j).mp c5, c6⟩)) ls (lv_sub hl [0, 2] rfl)

set_option maxHeartbeats 4000000 in
set_option maxRecDepth 100000 in
theorem c_X1_lowestBad (l : Launch) (g : va_G) (cI cJ cZ : ClassId) (k r1 r2 r3 r4 : Nat) (sz lf rt tr : Nat → Int32) (M : Nat) (hM : M < 33554432) : kR l g (kty cI cJ cZ) yX1_lowestBad wsX1_lowestBad ({ frames := 2, cells := 0, slots := 0, locals := 43 }) [.ref k, .int (nI M)] [(k, .inr (1, [.ref r1, .ref r2, .ref r3, .ref r4])), (r1, .inl (cI, 25, .inl sz)), (r2, .inl (cI, 25, .inl lf)), (r3, .inl (cI, 25, .inl rt)), (r4, .inl (cI, 25, .inl tr))] (nI (lwb (fun j => M.testBit j && bd sz lf rt j))) := by
  refine Met.ofW (cc := cX1_lowestBad) (maxL := 3) (ret := (some .int)) (by decide) rfl ?_
  intro p e s m args below meth c s₁ B hml hv
  obtain ⟨rfl, hP, hk⟩ := hv
  have hx := B.exec
  have hb := B.bytes
  have hr := B.returns
  have hts := atoms_spec (ws := wsX1_lowestBad) B.pre
  have hown : s.vm.findClass RX1 = some m.cls := findClass_of_methodNamed B.named
  have hlocks := B.notSynchronized
  have hK := hk.1
  have hl := lv_entry ([.ref k, .int (nI M)]) (n := 3) (Nat.le_of_ble_eq_true rfl)
  rw [lg_entry_eq]
  generalize (lg_sl ([.ref k, .int (nI M)]) ++ List.replicate (3 - (lg_sl ([.ref k, .int (nI M)])).length) Slot.unset).toArray = ls at hl ⊢
  have hl : lv_has ls 3 [(0, .ref k), (1, .int (nI M))] := hl
  refine lv_iconst (v := nI 1) hx hb dX1_lowestBad_0 (by decide) ?_
  refine lv_istore_n (lv' := [(2, .int (nI 1)), (0, .ref k), (1, .int (nI M))]) hx hb dX1_lowestBad_1 rfl hl (by decide) rfl (fun ls hl => ?_)
  refine lp_X1_lowestBad_2 l g cI cJ cZ k r1 r2 r3 r4 sz lf rt tr M hM  ⟨hx, hb, hr, hml, hown, hts, hlocks⟩ hk hP (fun  hz ls hl => ?_) (fun j hz ls hl => ?_) _ 1 (Nat.lt_succ_self _) (by decide) rfl ls (lv_sub hl [1, 2, 0] rfl)
  · skip
    refine lv_iconst (v := nI 0) hx hb dX1_lowestBad_33 (by decide) ?_
    exact k_retR (v := nI 0) hx hb hr hlocks (by rw [hz]) dX1_lowestBad_34
  · skip
    refine lv_iload_n hx hb dX1_lowestBad_25 rfl (lv_at hl 1 rfl) ?_
    exact k_retR (v := nI j) hx hb hr hlocks (by rw [hz]) dX1_lowestBad_26
set_option maxHeartbeats 4000000 in
set_option maxRecDepth 100000 in
theorem lp_X1_reachedFrom_9 {p : Program} {e : Env} {s : State} {m : MethodId} {args : Array Value} {below : List Frame} {meth : Method} {c : Code} {Q : State → Prop} (l : Launch) (g : va_G) (cI cJ cZ : ClassId) (k r1 r2 r3 r4 : Nat) (sz lf rt tr : Nat → Int32) (t : Nat) (ht : 1 ≤ t ∧ t ≤ 24)  (C0 : cM p s m args meth c cX1_reachedFrom 6 (some .int) wsX1_reachedFrom RX1) (hk : kK g (kty cI cJ cZ) s) {H : Heap} {locs : List Loc} (hP : va_P g vwCl [(k, .inr (1, [.ref r1, .ref r2, .ref r3, .ref r4])), (r1, .inl (cI, 25, .inl sz)), (r2, .inl (cI, 25, .inl lf)), (r3, .inl (cI, 25, .inl rt)), (r4, .inl (cI, 25, .inl tr))] H) (kk0 : ∀ (M : Nat), (M < 33554432 ∧ RS sz lf rt t (fun j => M.testBit j)) → ∀ (ls : Array Slot), lv_has ls 6 [(2, .int (nI M))] → W p l e (headSpec wsX1_reachedFrom ({ frames := 2, cells := 0, slots := 0, locals := 43 })).room s m args below meth c H locs 0 0 Q (F0 m 87 ls [])) :
    ∀ (K : Nat) (M Sn n : Nat), (25 - n) < K → (rI sz lf rt t M Sn n) → ∀ (ls : Array Slot), lv_has ls 6 [(0, .ref k), (2, .int (nI M)), (3, .int (nI Sn)), (4, .int (nI n))] → W p l e (headSpec wsX1_reachedFrom ({ frames := 2, cells := 0, slots := 0, locals := 43 })).room s m args below meth c H locs 0 0 Q (F0 m 9 ls []) := by
  obtain ⟨hx, hb, hr, hml, hown, hts, hlocks⟩ := C0
  have hK := hk.1
  have hinX1 : ∀ w ∈ wsX10, w ∈ wsX1_reachedFrom := by decide +kernel
  intro K
  induction K with
  | zero =>
    intro M Sn n h0
    exact absurd h0 (Nat.not_lt_zero _)
  | succ K ih =>
    intro M Sn n hmu hI ls hl
    have hn9 := hI.2.2.2.2.2.2.2.2
    have hm9 := hI.1
    have hs9 := hI.2.1
    refine lv_iload hx hb dX1_reachedFrom_9 (lv_at hl 3 rfl) ?_
    refine lv_bipush (v := nI 24) hx hb dX1_reachedFrom_11 (by decide) ?_
    refine n_icmp_ge (tgt := 87) hx hb dX1_reachedFrom_13 (by decide) (by first | assumption | omega) (by first | assumption | omega) (fun c5 => ?_) (fun c5 => ?_)
    · skip
      exact kk0 M (⟨hI.1, rI_full hI c5⟩) ls (lv_sub hl [1] rfl)
    · skip
      refine lv_iload_n hx hb dX1_reachedFrom_16 rfl (lv_at hl 2 rfl) ?_
      refine lv_iload_n hx hb dX1_reachedFrom_17 rfl (lv_at hl 1 rfl) ?_
      refine n_icmp_eq (tgt := 87) hx hb dX1_reachedFrom_18 (by decide) (by first | assumption | omega) (by first | assumption | omega) (fun c6 => ?_) (fun c6 => ?_)
      · skip
        exact kk0 M (⟨hI.1, rI_same hI c6⟩) ls (lv_sub hl [1] rfl)
      · skip
        obtain ⟨kk, kk1, kk2, kk3, kk4⟩ := rI_nx hI c6
        refine lv_iload_n hx hb dX1_reachedFrom_21 rfl (lv_at hl 1 rfl) ?_
        refine lv_iload_n hx hb dX1_reachedFrom_22 rfl (lv_at hl 2 rfl) ?_
        refine lv_iconst (v := (-1)) hx hb dX1_reachedFrom_23 (by decide) ?_
        refine lv_ixor hx hb dX1_reachedFrom_24 ?_
        refine lv_iand hx hb dX1_reachedFrom_25 ?_
        refine n_top _ (nI (bdf M Sn)) (by exact n_andn M Sn) ?_
        refine k_goR (W.runS (As := [.int (nI (bdf M Sn))]) (rest := []) ⟨hx, hb, hml, hown, hts⟩ (c_J6_numberOfTrailingZeros_0f7a4 l g cI cJ cZ  (nI (bdf M Sn)) kk (by omega) (n_low kk1 kk2)) (va_cwS 1 hts gX1_reachedFrom_J6_numberOfTrailingZeros_0f7a4 rfl rfl rfl (by decide +kernel) ⟨Nat.le_of_ble_eq_true rfl, Nat.le_of_ble_eq_true rfl⟩) (k_preRS hk hP [] rfl) rfl rfl hl.1 rfl (lv_room (Nat.le_of_ble_eq_true rfl)) dX1_reachedFrom_26 ⟨by first | exact Nat.zero_le _ | omega, by first | exact Nat.zero_le _ | omega⟩) ?_
        refine lv_istore (lv' := [(5, .int (nI kk)), (0, .ref k), (2, .int (nI M)), (3, .int (nI Sn)), (4, .int (nI n))]) hx hb dX1_reachedFrom_29 hl (by decide) rfl (fun ls hl => ?_)
        refine lv_iload_n hx hb dX1_reachedFrom_31 rfl (lv_at hl 3 rfl) ?_
        refine lv_iconst (v := nI 1) hx hb dX1_reachedFrom_32 (by decide) ?_
        refine lv_iload hx hb dX1_reachedFrom_33 (lv_at hl 0 rfl) ?_
        refine n_ishl hx hb dX1_reachedFrom_35 (by exact Nat.lt_of_le_of_lt (Nat.mul_le_mul_left 1 (Nat.pow_le_pow_right (by decide) kk4)) (by decide)) (by first | assumption | omega) ?_
        refine n_ior hx hb dX1_reachedFrom_36 ?_
        refine lv_istore_n (lv' := [(3, .int (nI (Sn ||| (1 * 2 ^ kk)))), (5, .int (nI kk)), (0, .ref k), (2, .int (nI M)), (4, .int (nI n))]) hx hb dX1_reachedFrom_37 rfl hl (by decide) rfl (fun ls hl => ?_)
        refine lv_aload_n hx hb dX1_reachedFrom_38 rfl (lv_at hl 2 rfl) ?_
        refine lv_iload hx hb dX1_reachedFrom_39 (lv_at hl 1 rfl) ?_
        refine k_goR (W.runV (As := [.int (nI kk)]) (rest := []) ⟨hx, hb, hml, hown, hts⟩ (c_X1_isBad l g cI cJ cZ k r1 r2 r3 r4 sz lf rt tr kk (by omega)) (cwV 1 hts gX1_reachedFrom_X1_isBad rfl rfl rfl (by decide +kernel) ⟨Nat.le_of_ble_eq_true rfl, Nat.le_of_ble_eq_true rfl⟩) (k_preRV hk hP [0, 1, 2, 3, 4] rfl (ci := 1) (q0 := 0) rfl rfl) rfl rfl hl.1 rfl (lv_room (Nat.le_of_ble_eq_true rfl)) dX1_reachedFrom_41 ⟨by first | exact Nat.zero_le _ | omega, by first | exact Nat.zero_le _ | omega⟩) ?_
        refine k_ifne (tgt := 81) hx hb dX1_reachedFrom_44 (by decide) (fun c7 => ?_) (fun c7 => ?_)
        · skip
          refine lv_iinc (v := nI (n + 1)) (lv' := [(4, .int (nI (n + 1))), (3, .int (nI (Sn ||| (1 * 2 ^ kk)))), (5, .int (nI kk)), (0, .ref k), (2, .int (nI M))]) hx hb dX1_reachedFrom_81 hl (k := 4) rfl (n_inc _ 1) (by decide) rfl (fun ls hl => ?_)
          refine lv_goto (tgt := 9) hx hb dX1_reachedFrom_84 (by decide) ?_
          exact ih M (Sn ||| 1 * 2 ^ kk) (n + 1) (by omega) (rI_A hI kk1 kk4 (Or.inl c7)) ls (lv_sub hl [3, 4, 1, 0] rfl)
        · skip
          refine lv_aload_n hx hb dX1_reachedFrom_47 rfl (lv_at hl 2 rfl) ?_
          refine va_get (D := g) (ci := 1) (v := .ref r2) (C := RX1) (T := TX1) (N := 4) hx hb hts hinX1 hown hK hP 0 rfl rfl 1 (by decide) (hts (.fieldLink RX1 15 "BuddyRoof$Rule" "left" "[I") (by decide +kernel)) (fun _ h9 => h9) rfl dX1_reachedFrom_48 ?_
          refine lv_iload hx hb dX1_reachedFrom_51 (lv_at hl 1 rfl) ?_
          refine n_ald (v := lf kk) hx hb hK hP 2 0 rfl rfl (i := kk) (by first | assumption | omega) (by first | assumption | omega) rfl dX1_reachedFrom_53 ?_
          refine lv_if_eq (tgt := 81) hx hb dX1_reachedFrom_54 (by decide) (fun c8 => ?_) (fun c8 => ?_)
          · skip
            refine lv_iinc (v := nI (n + 1)) (lv' := [(4, .int (nI (n + 1))), (3, .int (nI (Sn ||| (1 * 2 ^ kk)))), (5, .int (nI kk)), (0, .ref k), (2, .int (nI M))]) hx hb dX1_reachedFrom_81 hl (k := 4) rfl (n_inc _ 1) (by decide) rfl (fun ls hl => ?_)
            refine lv_goto (tgt := 9) hx hb dX1_reachedFrom_84 (by decide) ?_
            exact ih M (Sn ||| 1 * 2 ^ kk) (n + 1) (by omega) (rI_A hI kk1 kk4 (Or.inr c8)) ls (lv_sub hl [3, 4, 1, 0] rfl)
          · skip
            have hbd := Bool.eq_false_iff.mpr c7
            have hok := (bd_ok hbd).2.resolve_left (fun q => c8 q.1)
            obtain ⟨aa, aa1, aa2, aa3, aa4⟩ := cls_of hok.2.1
            obtain ⟨bb, bb1, bb2, bb3, bb4⟩ := cls_of hok.2.2.1
            refine lv_iload_n hx hb dX1_reachedFrom_57 rfl (lv_at hl 3 rfl) ?_
            refine lv_iconst (v := nI 1) hx hb dX1_reachedFrom_58 (by decide) ?_
            refine lv_aload_n hx hb dX1_reachedFrom_59 rfl (lv_at hl 2 rfl) ?_
            refine va_get (D := g) (ci := 1) (v := .ref r2) (C := RX1) (T := TX1) (N := 4) hx hb hts hinX1 hown hK hP 0 rfl rfl 1 (by decide) (hts (.fieldLink RX1 15 "BuddyRoof$Rule" "left" "[I") (by decide +kernel)) (fun _ h9 => h9) rfl dX1_reachedFrom_60 ?_
            refine lv_iload hx hb dX1_reachedFrom_63 (lv_at hl 1 rfl) ?_
            refine n_ald (v := nI aa) hx hb hK hP 2 0 rfl rfl (i := kk) (by first | assumption | omega) (by first | assumption | omega) (by exact aa3) dX1_reachedFrom_65 ?_
            refine n_ishl hx hb dX1_reachedFrom_66 (by exact Nat.lt_of_le_of_lt (Nat.mul_le_mul_left 1 (Nat.pow_le_pow_right (by decide) aa2)) (by decide)) (by first | assumption | omega) ?_
            refine n_ior hx hb dX1_reachedFrom_67 ?_
            refine lv_istore_n (lv' := [(2, .int (nI (M ||| (1 * 2 ^ aa)))), (3, .int (nI (Sn ||| (1 * 2 ^ kk)))), (5, .int (nI kk)), (0, .ref k), (4, .int (nI n))]) hx hb dX1_reachedFrom_68 rfl hl (by decide) rfl (fun ls hl => ?_)
            refine lv_iload_n hx hb dX1_reachedFrom_69 rfl (lv_at hl 0 rfl) ?_
            refine lv_iconst (v := nI 1) hx hb dX1_reachedFrom_70 (by decide) ?_
            refine lv_aload_n hx hb dX1_reachedFrom_71 rfl (lv_at hl 3 rfl) ?_
            refine va_get (D := g) (ci := 1) (v := .ref r3) (C := RX1) (T := TX1) (N := 4) hx hb hts hinX1 hown hK hP 0 rfl rfl 2 (by decide) (hts (.fieldLink RX1 18 "BuddyRoof$Rule" "right" "[I") (by decide +kernel)) (fun _ h9 => h9) rfl dX1_reachedFrom_72 ?_
            refine lv_iload hx hb dX1_reachedFrom_75 (lv_at hl 2 rfl) ?_
            refine n_ald (v := nI bb) hx hb hK hP 3 0 rfl rfl (i := kk) (by first | assumption | omega) (by first | assumption | omega) (by exact bb3) dX1_reachedFrom_77 ?_
            refine n_ishl hx hb dX1_reachedFrom_78 (by exact Nat.lt_of_le_of_lt (Nat.mul_le_mul_left 1 (Nat.pow_le_pow_right (by decide) bb2)) (by decide)) (by first | assumption | omega) ?_
            refine n_ior hx hb dX1_reachedFrom_79 ?_
            refine lv_istore_n (lv' := [(2, .int (nI ((M ||| (1 * 2 ^ aa)) ||| (1 * 2 ^ bb)))), (3, .int (nI (Sn ||| (1 * 2 ^ kk)))), (5, .int (nI kk)), (0, .ref k), (4, .int (nI n))]) hx hb dX1_reachedFrom_80 rfl hl (by decide) rfl (fun ls hl => ?_)
            refine lv_iinc (v := nI (n + 1)) (lv' := [(4, .int (nI (n + 1))), (2, .int (nI ((M ||| (1 * 2 ^ aa)) ||| (1 * 2 ^ bb)))), (3, .int (nI (Sn ||| (1 * 2 ^ kk)))), (5, .int (nI kk)), (0, .ref k)]) hx hb dX1_reachedFrom_81 hl (k := 4) rfl (n_inc _ 1) (by decide) rfl (fun ls hl => ?_)
            refine lv_goto (tgt := 9) hx hb dX1_reachedFrom_84 (by decide) ?_
            exact ih ((M ||| 1 * 2 ^ aa) ||| 1 * 2 ^ bb) (Sn ||| 1 * 2 ^ kk) (n + 1) (by omega) (rI_B hI kk1 kk4 hbd c8 aa4 bb4 ⟨aa1, aa2⟩ ⟨bb1, bb2⟩) ls (lv_sub hl [4, 1, 2, 0] rfl)

set_option maxHeartbeats 4000000 in
set_option maxRecDepth 100000 in
theorem c_X1_reachedFrom (l : Launch) (g : va_G) (cI cJ cZ : ClassId) (k r1 r2 r3 r4 : Nat) (sz lf rt tr : Nat → Int32) (t : Nat) (ht : 1 ≤ t ∧ t ≤ 24) : kI l g (kty cI cJ cZ) yX1_reachedFrom wsX1_reachedFrom ({ frames := 2, cells := 0, slots := 0, locals := 43 }) [.ref k, .int (nI t)] [(k, .inr (1, [.ref r1, .ref r2, .ref r3, .ref r4])), (r1, .inl (cI, 25, .inl sz)), (r2, .inl (cI, 25, .inl lf)), (r3, .inl (cI, 25, .inl rt)), (r4, .inl (cI, 25, .inl tr))] (S := Nat) (fun x u => x = nI u ∧ u < 33554432 ∧ RS sz lf rt t (fun j => u.testBit j)) (fun u => [(k, .inr (1, [.ref r1, .ref r2, .ref r3, .ref r4])), (r1, .inl (cI, 25, .inl sz)), (r2, .inl (cI, 25, .inl lf)), (r3, .inl (cI, 25, .inl rt)), (r4, .inl (cI, 25, .inl tr))]) 0 0 := by
  intro sz
  refine Met.ofW (cc := cX1_reachedFrom) (maxL := 6) (ret := (some .int)) (by decide) rfl ?_
  intro p e s m args below meth c s₁ B hml hv
  obtain ⟨rfl, hsz, hP, hk, hD0⟩ := hv
  subst hsz
  have hx := B.exec
  have hb := B.bytes
  have hr := B.returns
  have hts := atoms_spec (ws := wsX1_reachedFrom) B.pre
  have hown : s.vm.findClass RX1 = some m.cls := findClass_of_methodNamed B.named
  have hlocks := B.notSynchronized
  have hK := hk.1
  have hinX1 : ∀ w ∈ wsX10, w ∈ wsX1_reachedFrom := by decide +kernel
  obtain ⟨A, hAe⟩ : ∃ A, va_A [(k, .inr (1, [.ref r1, .ref r2, .ref r3, .ref r4])), (r1, .inl (cI, 25, .inl sz)), (r2, .inl (cI, 25, .inl lf)), (r3, .inl (cI, 25, .inl rt)), (r4, .inl (cI, 25, .inl tr))] s.heap.size = A := ⟨_, rfl⟩
  have hD := hD0.self (sz := s.heap.size)
  rw [hAe] at hD
  have hA : ∀ q : Nat, s.heap.size ≤ q → A q := fun q h => by rw [← hAe]; exact Or.inr h
  have hS : va_S A s.heap s.heap [] := va_S.rf
  have hl := lv_entry ([.ref k, .int (nI t)]) (n := 6) (Nat.le_of_ble_eq_true rfl)
  rw [lg_entry_eq]
  generalize (lg_sl ([.ref k, .int (nI t)]) ++ List.replicate (6 - (lg_sl ([.ref k, .int (nI t)])).length) Slot.unset).toArray = ls at hl ⊢
  have hl : lv_has ls 6 [(0, .ref k), (1, .int (nI t))] := hl
  refine lv_iconst (v := nI 1) hx hb dX1_reachedFrom_0 (by decide) ?_
  refine lv_iload_n hx hb dX1_reachedFrom_1 rfl (lv_at hl 1 rfl) ?_
  refine n_ishl hx hb dX1_reachedFrom_2 (by exact Nat.lt_of_le_of_lt (Nat.mul_le_mul_left 1 (Nat.pow_le_pow_right (by decide) ht.2)) (by decide)) (by first | assumption | omega) ?_
  refine lv_istore_n (lv' := [(2, .int (nI (1 * 2 ^ t))), (0, .ref k), (1, .int (nI t))]) hx hb dX1_reachedFrom_3 rfl hl (by decide) rfl (fun ls hl => ?_)
  refine lv_iconst (v := nI 0) hx hb dX1_reachedFrom_4 (by decide) ?_
  refine lv_istore_n (lv' := [(3, .int (nI 0)), (2, .int (nI (1 * 2 ^ t))), (0, .ref k), (1, .int (nI t))]) hx hb dX1_reachedFrom_5 rfl hl (by decide) rfl (fun ls hl => ?_)
  refine lv_iconst (v := nI 0) hx hb dX1_reachedFrom_6 (by decide) ?_
  refine lv_istore (lv' := [(4, .int (nI 0)), (3, .int (nI 0)), (2, .int (nI (1 * 2 ^ t))), (0, .ref k), (1, .int (nI t))]) hx hb dX1_reachedFrom_7 hl (by decide) rfl (fun ls hl => ?_)
  refine lp_X1_reachedFrom_9 l g cI cJ cZ k r1 r2 r3 r4 sz lf rt tr t ht  ⟨hx, hb, hr, hml, hown, hts, hlocks⟩ hk hP (fun M hI ls hl => ?_) _ (1 * 2 ^ t) 0 0 (Nat.lt_succ_self _) (rI_0 ht.1 ht.2) ls (lv_sub hl [3, 2, 1, 0] rfl)
  · skip
    refine lv_iload_n hx hb dX1_reachedFrom_87 rfl (lv_at hl 0 rfl) ?_
    refine W.widen (k := 0) (n := 0) (by first | exact Nat.le_refl _ | omega) (by first | exact Nat.le_refl _ | omega) ?_
    exact k_retI (sz := 0) (v := nI M) hx hb hr hlocks hAe hS hP hD M (rfl) (⟨rfl, hI⟩) dX1_reachedFrom_88
