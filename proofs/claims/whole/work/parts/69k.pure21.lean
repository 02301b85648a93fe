/-! Bits: the lowest one; counts. -/
def cnt (f : Nat → Bool) : Nat → Nat
  | 0 => 0
  | n + 1 => cnt f n + (if f n then 1 else 0)
theorem cnt_le (f : Nat → Bool) : ∀ n, cnt f n ≤ n
  | 0 => Nat.le_refl _
  | n + 1 => by have := cnt_le f n; rw [cnt]; split <;> omega
theorem cnt_congr {f g : Nat → Bool} : ∀ n, (∀ j, j < n → f j = g j) → cnt f n = cnt g n
  | 0, _ => rfl
  | n + 1, h => by rw [cnt, cnt, cnt_congr n (fun j hj => h j (by omega)), h n (by omega)]
theorem cnt_up {f g : Nat → Bool} {k : Nat} (hf : f k = false) (hg : g k = true) (h : ∀ j, j ≠ k → f j = g j) : ∀ n, k < n → cnt g n = cnt f n + 1
  | 0, hk => absurd hk (Nat.not_lt_zero _)
  | n + 1, hk => by
    rw [cnt, cnt]
    by_cases e : k = n
    · subst e
      rw [hf, hg, cnt_congr (f := g) (g := f) k (fun j hj => (h j (by omega)).symm)]
      simp
    · rw [cnt_up hf hg h n (by omega), h n (fun q => e q.symm)]
      omega
theorem cnt_all {f : Nat → Bool} (h0 : f 0 = false) (h : 24 ≤ cnt f 25) {j : Nat} (h1 : 1 ≤ j) (h2 : j ≤ 24) : f j = true := by
  apply Classical.byContradiction
  intro e
  have e : f j = false := by simpa using e
  have a := cnt_up (f := f) (g := fun i => if i = j then true else f i) (k := j) e (by simp) (fun i hi => by simp [hi]) 25 (by omega)
  have b := cnt_up (f := fun i => if i = j then true else f i) (g := fun i => if i = 0 then true else if i = j then true else f i) (k := 0) (by rw [if_neg (by omega)]; exact h0) (by simp) (fun i hi => by simp [hi]) 25 (by omega)
  have c := cnt_le (fun i => if i = 0 then true else if i = j then true else f i) 25
  omega
/-- the bits of a number less 1 -/
theorem pre_bit : ∀ (t X : Nat), X.testBit t = true → (∀ j, j < t → X.testBit j = false) → ∀ i, (X - 1).testBit i = if i < t then true else if i = t then false else X.testBit i
  | 0, X, h, _, i => by
    have h1 : X % 2 = 1 := by simpa [Nat.testBit_zero] using h
    cases i with
    | zero => simp [Nat.testBit_zero]; omega
    | succ i =>
      rw [Nat.testBit_succ, Nat.testBit_succ, show (X - 1) / 2 = X / 2 by omega]
      simp
  | t + 1, X, h, hl, i => by
    have h0 : X % 2 = 0 := by
      have := hl 0 (by omega)
      simp [Nat.testBit_zero] at this
      omega
    have hp : X ≠ 0 := fun e => by subst e; simp at h
    rw [Nat.testBit_succ] at h
    have ih := pre_bit t (X / 2) h (fun j hj => by rw [← Nat.testBit_succ]; exact hl (j + 1) (by omega))
    cases i with
    | zero => simp [Nat.testBit_zero]; omega
    | succ i =>
      rw [Nat.testBit_succ, show (X - 1) / 2 = X / 2 - 1 by omega, ih i, Nat.testBit_succ]
      simp
theorem low_bit {X : Nat} (h : X ≠ 0) : ∃ t, X.testBit t = true ∧ ∀ j, j < t → X.testBit j = false := by
  obtain ⟨i, hi⟩ := Nat.exists_testBit_of_ne_zero h
  induction i using Nat.strongRecOn with
  | _ i ih =>
    by_cases e : ∀ j, j < i → X.testBit j = false
    · exact ⟨i, hi, e⟩
    · obtain ⟨j, hj⟩ := Classical.not_forall.mp e
      obtain ⟨hj1, hj2⟩ := Classical.not_imp.mp hj
      exact ih j hj1 (by simpa using hj2)
theorem nI_ext {x y : Int32} (h : ∀ i, i < 32 → x.toBitVec.getLsbD i = y.toBitVec.getLsbD i) : x = y := by
  apply Int32.toBitVec_inj.1
  exact BitVec.eq_of_getLsbD_eq h
theorem nI_bit (n i : Nat) : (nI n).toBitVec.getLsbD i = (decide (i < 32) && n.testBit i) := by
  show (BitVec.ofNat 32 n).getLsbD i = _
  rw [BitVec.getLsbD_ofNat]
theorem m1_bit (i : Nat) (h : i < 32) : (-1 : Int32).toBitVec.getLsbD i = true := by
  have : ∀ i, i < 32 → (-1 : Int32).toBitVec.getLsbD i = true := by decide
  exact this i h
/-- what is in one set of bits and not in another -/
def bdf (M s : Nat) : Nat := M ^^^ (M &&& s)
theorem bdf_bit (M s i : Nat) : (bdf M s).testBit i = (M.testBit i && !s.testBit i) := by
  unfold bdf
  rw [Nat.testBit_xor, Nat.testBit_and]
  cases M.testBit i <;> cases s.testBit i <;> rfl
theorem n_andn (M s : Nat) : nI M &&& (nI s ^^^ (-1)) = nI (bdf M s) := by
  apply nI_ext
  intro i hi
  rw [Int32.toBitVec_and, BitVec.getLsbD_and, Int32.toBitVec_xor, BitVec.getLsbD_xor, nI_bit, nI_bit, nI_bit, m1_bit i hi, bdf_bit]
  simp [hi]
theorem n_low {X t : Nat} (h : X.testBit t = true) (hl : ∀ j, j < t → X.testBit j = false) : (nI X ^^^ (-1)) &&& (nI X - nI 1) = nI (2 ^ t - 1) := by
  have hp : X ≠ 0 := fun e => by subst e; simp at h
  rw [pk_sub (by omega)]
  apply nI_ext
  intro i hi
  rw [Int32.toBitVec_and, BitVec.getLsbD_and, Int32.toBitVec_xor, BitVec.getLsbD_xor, nI_bit, nI_bit, nI_bit, m1_bit i hi, pre_bit t X h hl i, Nat.testBit_two_pow_sub_one]
  by_cases e : i < t
  · simp [hi, e, hl i e]
  · by_cases e2 : i = t
    · simp [e2]
    · simp [hi, e, e2]
