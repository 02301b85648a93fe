/-! What holds at the law's entry. -/
set_option maxHeartbeats 4000000 in
set_option maxRecDepth 100000 in
theorem law_xT {b : Nat} {s : State} (hts : ∀ w ∈ lw_tbl, w.before #[Value.ref b] s = true) (hg : (Jvm.Cond.and given_1 narrow_1).before #[Value.ref b] s = true) : xT s := by
  have hs := flat_of_before _ hg
  refine ⟨fun t ht => ?_, fun w hw => ?_⟩
  · simp only [xStr, List.mem_cons, List.not_mem_nil, or_false] at ht
    rcases ht with rfl | rfl | rfl | rfl | rfl | rfl | rfl | rfl | rfl | rfl | rfl | rfl | rfl | rfl | rfl
    · obtain ⟨a, c9, cA, kA, q1, -⟩ := Cond.exactly_spec (args := #[Value.ref b]) (first := s) (o := none) (s := s) (idx := []) (t := .string "BuddyRoof" 219) (cls := "java/lang/String") (hs (.exactly (.string "BuddyRoof" 219) "java/lang/String") (by decide +kernel))
      exact ⟨a, vk_R.of (hts (.stringRef "BuddyRoof" 219 "classes are 1 to 24") (by decide +kernel)) q1⟩
    · obtain ⟨a, c9, cA, kA, q1, -⟩ := Cond.exactly_spec (args := #[Value.ref b]) (first := s) (o := none) (s := s) (idx := []) (t := .string "BuddyRoof" 44) (cls := "java/lang/String") (hs (.exactly (.string "BuddyRoof" 44) "java/lang/String") (by decide +kernel))
      exact ⟨a, vk_R.of (hts (.stringRef "BuddyRoof" 44 "no such kind of family") (by decide +kernel)) q1⟩
    · obtain ⟨a, c9, cA, kA, q1, -⟩ := Cond.exactly_spec (args := #[Value.ref b]) (first := s) (o := none) (s := s) (idx := []) (t := .string "BuddyRoof" 53) (cls := "java/lang/String") (hs (.exactly (.string "BuddyRoof" 53) "java/lang/String") (by decide +kernel))
      exact ⟨a, vk_R.of (hts (.stringRef "BuddyRoof" 53 "a leaf's size is out of bounds") (by decide +kernel)) q1⟩
    · obtain ⟨a, c9, cA, kA, q1, -⟩ := Cond.exactly_spec (args := #[Value.ref b]) (first := s) (o := none) (s := s) (idx := []) (t := .string "BuddyRoof" 59) (cls := "java/lang/String") (hs (.exactly (.string "BuddyRoof" 59) "java/lang/String") (by decide +kernel))
      exact ⟨a, vk_R.of (hts (.stringRef "BuddyRoof" 59 "a size of the family is too great") (by decide +kernel)) q1⟩
    · obtain ⟨a, c9, cA, kA, q1, -⟩ := Cond.exactly_spec (args := #[Value.ref b]) (first := s) (o := none) (s := s) (idx := []) (t := .string "BuddyRoof" 204) (cls := "java/lang/String") (hs (.exactly (.string "BuddyRoof" 204) "java/lang/String") (by decide +kernel))
      exact ⟨a, vk_R.of (hts (.stringRef "BuddyRoof" 204 "there is no memory") (by decide +kernel)) q1⟩
    · obtain ⟨a, c9, cA, kA, q1, -⟩ := Cond.exactly_spec (args := #[Value.ref b]) (first := s) (o := none) (s := s) (idx := []) (t := .string "BuddyRoof" 86) (cls := "java/lang/String") (hs (.exactly (.string "BuddyRoof" 86) "java/lang/String") (by decide +kernel))
      exact ⟨a, vk_R.of (hts (.stringRef "BuddyRoof" 86 "there are 256 blocks") (by decide +kernel)) q1⟩
    · obtain ⟨a, c9, cA, kA, q1, -⟩ := Cond.exactly_spec (args := #[Value.ref b]) (first := s) (o := none) (s := s) (idx := []) (t := .string "BuddyRoof" 221) (cls := "java/lang/String") (hs (.exactly (.string "BuddyRoof" 221) "java/lang/String") (by decide +kernel))
      exact ⟨a, vk_R.of (hts (.stringRef "BuddyRoof" 221 "a request is of 1 word at least") (by decide +kernel)) q1⟩
    · obtain ⟨a, c9, cA, kA, q1, -⟩ := Cond.exactly_spec (args := #[Value.ref b]) (first := s) (o := none) (s := s) (idx := []) (t := .string "BuddyRoof" 209) (cls := "java/lang/String") (hs (.exactly (.string "BuddyRoof" 209) "java/lang/String") (by decide +kernel))
      exact ⟨a, vk_R.of (hts (.stringRef "BuddyRoof" 209 "no block begins there") (by decide +kernel)) q1⟩
    · obtain ⟨a, c9, cA, kA, q1, -⟩ := Cond.exactly_spec (args := #[Value.ref b]) (first := s) (o := none) (s := s) (idx := []) (t := .string "BuddyRoof" 126) (cls := "java/lang/String") (hs (.exactly (.string "BuddyRoof" 126) "java/lang/String") (by decide +kernel))
      exact ⟨a, vk_R.of (hts (.stringRef "BuddyRoof" 126 "no such thing is known of a block") (by decide +kernel)) q1⟩
    · obtain ⟨a, c9, cA, kA, q1, -⟩ := Cond.exactly_spec (args := #[Value.ref b]) (first := s) (o := none) (s := s) (idx := []) (t := .string "BuddyRoof" 128) (cls := "java/lang/String") (hs (.exactly (.string "BuddyRoof" 128) "java/lang/String") (by decide +kernel))
      exact ⟨a, vk_R.of (hts (.stringRef "BuddyRoof" 128 "a depth is 0 at least") (by decide +kernel)) q1⟩
    · obtain ⟨a, c9, cA, kA, q1, -⟩ := Cond.exactly_spec (args := #[Value.ref b]) (first := s) (o := none) (s := s) (idx := []) (t := .string "BuddyRoof" 217) (cls := "java/lang/String") (hs (.exactly (.string "BuddyRoof" 217) "java/lang/String") (by decide +kernel))
      exact ⟨a, vk_R.of (hts (.stringRef "BuddyRoof" 217 "the class isn't reached") (by decide +kernel)) q1⟩
    · obtain ⟨a, c9, cA, kA, q1, -⟩ := Cond.exactly_spec (args := #[Value.ref b]) (first := s) (o := none) (s := s) (idx := []) (t := .string "BuddyRoof" 137) (cls := "java/lang/String") (hs (.exactly (.string "BuddyRoof" 137) "java/lang/String") (by decide +kernel))
      exact ⟨a, vk_R.of (hts (.stringRef "BuddyRoof" 137 "so many can't be kept") (by decide +kernel)) q1⟩
    · obtain ⟨a, c9, cA, kA, q1, -⟩ := Cond.exactly_spec (args := #[Value.ref b]) (first := s) (o := none) (s := s) (idx := []) (t := .string "BuddyRoof" 152) (cls := "java/lang/String") (hs (.exactly (.string "BuddyRoof" 152) "java/lang/String") (by decide +kernel))
      exact ⟨a, vk_R.of (hts (.stringRef "BuddyRoof" 152 "no such thing is known of free nodes") (by decide +kernel)) q1⟩
    · obtain ⟨a, c9, cA, kA, q1, -⟩ := Cond.exactly_spec (args := #[Value.ref b]) (first := s) (o := none) (s := s) (idx := []) (t := .string "BuddyRoof" 188) (cls := "java/lang/String") (hs (.exactly (.string "BuddyRoof" 188) "java/lang/String") (by decide +kernel))
      exact ⟨a, vk_R.of (hts (.stringRef "BuddyRoof" 188 "the script has entries 0 to 255") (by decide +kernel)) q1⟩
    · obtain ⟨a, c9, cA, kA, q1, -⟩ := Cond.exactly_spec (args := #[Value.ref b]) (first := s) (o := none) (s := s) (idx := []) (t := .string "BuddyRoof" 190) (cls := "java/lang/String") (hs (.exactly (.string "BuddyRoof" 190) "java/lang/String") (by decide +kernel))
      exact ⟨a, vk_R.of (hts (.stringRef "BuddyRoof" 190 "the script has 256 entries") (by decide +kernel)) q1⟩
  · simp only [xB, List.mem_cons, List.not_mem_nil, or_false] at hw
    rcases hw with rfl | rfl | rfl | rfl | rfl
    · exact va_Nw.of rfl (hts _ (by decide +kernel))
    · exact va_Nw.of rfl (hts _ (by decide +kernel))
    · exact va_Nw.of rfl (hts _ (by decide +kernel))
    · exact va_Nw.of rfl (hts _ (by decide +kernel))
    · exact va_Nw.of rfl (hts _ (by decide +kernel))
theorem law_xZ {b : Nat} {s : State} {A : Nat → Prop} (hts : ∀ w ∈ lw_tbl, w.before #[Value.ref b] s = true) (hg : (Jvm.Cond.and given_1 narrow_1).before #[Value.ref b] s = true) (hA : ∀ a : Nat, a < s.heap.size → ¬ A a) : xZ A s s.heap := by
  have hs := flat_of_before _ hg
  exact ⟨vx_Zqof (hts (.laysStatic "java/lang/Throwable" "UNASSIGNED_STACK" "[Ljava/lang/StackTraceElement;") (by decide +kernel)) (hts (.initialized "java/lang/Throwable") (by decide +kernel)) (hs (.isRef (.static "java/lang/Throwable" "UNASSIGNED_STACK" "[Ljava/lang/StackTraceElement;")) (by decide +kernel)) hA,
    vx_Zqof (hts (.laysStatic "java/lang/Throwable" "SUPPRESSED_SENTINEL" "Ljava/util/List;") (by decide +kernel)) (hts (.initialized "java/lang/Throwable") (by decide +kernel)) (hs (.isRef (.static "java/lang/Throwable" "SUPPRESSED_SENTINEL" "Ljava/util/List;")) (by decide +kernel)) hA⟩
theorem law_xC {b : Nat} {s : State} (hg : (Jvm.Cond.and given_1 narrow_1).before #[Value.ref b] s = true) : va_Nc xA xI s :=
  va_Nc.of (flat_of_before _ hg (.not (.castable "java/lang/IllegalArgumentException" "java/lang/IllegalStateException")) (by decide +kernel))
theorem law_arr {args : Array Value} {s : State} {ty : FieldType} (h : (Cond.arrayClass ty).before args s = true) (hr : ∀ c, s.vm.findClass ("[" ++ ty.toString) = some c → va_RA s c ty) : ∃ c, ArrOfT s c ty ∧ va_RA s c ty := by
  obtain ⟨c, k, comp, h1, h2, h3⟩ := Cond.arrayClass_spec h
  exact ⟨c, fun n z => ⟨fun k h => (by cases h), k, h2, comp, h3⟩, hr c h1⟩
set_option maxHeartbeats 4000000 in
set_option maxRecDepth 100000 in
theorem law_kK {b : Nat} {s : State} (hts : ∀ w ∈ lw_tbl, w.before #[Value.ref b] s = true) : ∃ (g : va_G) (cI cJ cZ : ClassId), kK g (kty cI cJ cZ) s := by
  obtain ⟨c0, i0, k0⟩ := u_known (C := RX0) (T := TX0) (N := 13) (n := 13) hts inX0 (hts (.instantiable RX0 13) (by decide +kernel))
  obtain ⟨c1, i1, k1⟩ := u_known (C := RX1) (T := TX1) (N := 4) (n := 4) hts inX1 (hts (.instantiable RX1 4) (by decide +kernel))
  obtain ⟨c2, i2, k2⟩ := u_known (C := RX2) (T := TX2) (N := 9) (n := 9) hts inX2 (hts (.instantiable RX2 9) (by decide +kernel))
  obtain ⟨c3, i3, k3⟩ := u_known (C := RX3) (T := TX3) (N := 5) (n := 5) hts inX3 (hts (.instantiable RX3 5) (by decide +kernel))
  obtain ⟨c4, i4, k4⟩ := u_known (C := RX4) (T := TX4) (N := 29) (n := 29) hts inX4 (hts (.instantiable RX4 29) (by decide +kernel))
  obtain ⟨cI, hI⟩ := law_arr (hts (.arrayClass .int) (by decide +kernel)) (fun _ h => h)
  obtain ⟨cJ, hJ⟩ := law_arr (hts (.arrayClass .long) (by decide +kernel)) (fun _ h => h)
  obtain ⟨cZ, hZ⟩ := law_arr (hts (.arrayClass .boolean) (by decide +kernel)) (fun _ h => h)
  refine ⟨(fun k => if k = 0 then c0 else if k = 1 then c1 else if k = 2 then c2 else if k = 3 then c3 else c4, fun k => if k = 0 then i0 else if k = 1 then i1 else if k = 2 then i2 else if k = 3 then i3 else i4), cI, cJ, cZ, ⟨fun k q hq => ?_, fun k q hq => ?_⟩, fun t ht => ?_, fun t ht => ?_⟩
  · match k, hq with
    | 0, hq => cases hq; exact k0
    | 1, hq => cases hq; exact k1
    | 2, hq => cases hq; exact k2
    | 3, hq => cases hq; exact k3
    | 4, hq => cases hq; exact k4
    | k + 5, hq => simp [vwCl] at hq
  · match k, hq with
    | 0, hq => cases hq; exact hI
    | 1, hq => cases hq; exact hJ
    | 2, hq => cases hq; exact hZ
    | k + 3, hq => simp [kty] at hq
  · have h9 : ∀ t ∈ nl_F, Cond.fieldLinkNest t.1 t.2.1 t.2.2.1 t.2.2.2.1 t.2.2.2.2.1 t.2.2.2.2.2 ∈ lw_tbl := by decide +kernel
    exact va_Nw.of rfl (hts _ (h9 t ht))
  · have h9 : ∀ t ∈ nl_M, Cond.methodLinkNest t.1 t.2.1 t.2.2.1 t.2.2.2 ∈ lw_tbl := by decide +kernel
    exact va_Nw.of rfl (hts _ (h9 t ht))
theorem nzs_0 : ∀ n, nzs (fun _ => nI 0) n = 0
  | 0 => rfl
  | n + 1 => by rw [nzs, nzs_0 n, if_pos nI_0]
theorem LN_start : LN false 0 0 0 0 0 0 (fun _ => nI 0) (fun _ => nI 0) := ⟨by decide, by decide, by rw [nzs_0]; exact Nat.le_refl _, Or.inl (fun _ => nI_0), fun h => by cases h⟩
theorem LB_start : LB 64 (fun _ => 0) (fun _ => 0) (fun _ => 0) (fun _ => 0) (fun _ => 0) (fun _ => 0) (fun _ => 0) (fun _ => 0) (fun _ => 0) (fun _ => 0) (fun _ => 0) (fun _ => nI 0) (fun _ => nI 0) (fun _ => nI 0) (fun _ => nI 0) (fun _ => nI 0) (fun _ => nI 0) (fun _ => false) (fun _ => false) :=
  ⟨⟨nI_0, nI_0, nI_0⟩, ⟨fun _ => show 0 < 64 by decide, fun _ => show 0 + 1 < 64 by decide, fun _ => rfl, fun _ => show 0 ≤ 24 by decide, fun _ => show 0 < 2 ^ 31 by decide, fun _ => show 0 < 2 ^ 31 by decide, fun _ => show 0 < 2 ^ 31 by decide, fun _ => show 0 < 2 ^ 31 by decide, fun _ _ => rfl, fun _ _ => rfl, fun _ _ => rfl, fun _ _ => rfl, fun _ _ => rfl, fun _ _ => rfl, fun _ _ => rfl⟩, by decide, fun _ _ => rfl, fun _ _ => rfl, rfl, fun _ _ => rfl, ⟨nI_0, nI_0, nI_0⟩, fun _ _ => rfl, fun _ _ => rfl⟩
