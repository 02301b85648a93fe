/-! The walk that reaches classes. -/
theorem or_bit (M k j : Nat) : (M ||| 1 * 2 ^ k).testBit j = (M.testBit j || decide (j = k)) := by
  rw [Nat.testBit_or, Nat.one_mul, Nat.testBit_two_pow]
  by_cases e : j = k
  · subst e; simp
  · have : ¬ k = j := fun q => e q.symm
    simp [e, this]
theorem or_lt {M k : Nat} (h : M < 33554432) (hk : k ≤ 24) : M ||| 1 * 2 ^ k < 33554432 := by
  have : 1 * 2 ^ k < 2 ^ 25 := by rw [Nat.one_mul]; exact Nat.pow_lt_pow_right (by decide) (by omega)
  exact Nat.or_lt_two_pow (n := 25) h this
def rI (sz lf rt : Nat → Int32) (t M Sn n : Nat) : Prop :=
  M < 33554432 ∧ Sn < 33554432 ∧ M.testBit t = true ∧ (∀ j, Sn.testBit j = true → M.testBit j = true) ∧ (∀ j, M.testBit j = true → 1 ≤ j ∧ j ≤ 24) ∧
  (∀ k, Sn.testBit k = true → bd sz lf rt k = false → ¬ lf k = 0 → M.testBit (lf k).toNatClampNeg = true ∧ M.testBit (rt k).toNatClampNeg = true) ∧
  (∀ P : Nat → Bool, P t = true → clo sz lf rt P → ∀ k, M.testBit k = true → P k = true) ∧ cnt (fun j => Sn.testBit j) 25 = n ∧ n ≤ 25
theorem rI_0 {sz lf rt : Nat → Int32} {t : Nat} (h1 : 1 ≤ t) (h2 : t ≤ 24) : rI sz lf rt t (1 * 2 ^ t) 0 0 := by
  have hb : ∀ j, (1 * 2 ^ t).testBit j = decide (j = t) := fun j => by
    have := or_bit 0 t j
    rw [Nat.zero_or, Nat.zero_testBit, Bool.false_or] at this
    exact this
  refine ⟨?_, by decide, by rw [hb]; simp, fun j h => by simp at h, fun j h => ?_, fun k h => by simp at h, fun P h _ k hk => ?_, ?_, by decide⟩
  · rw [Nat.one_mul]; exact Nat.pow_lt_pow_right (n := 25) (by decide) (by omega)
  · rw [hb] at h; have := of_decide_eq_true h; omega
  · rw [hb] at hk; rw [of_decide_eq_true hk]; exact h
  · simp [cnt]
theorem rI_same {sz lf rt : Nat → Int32} {t M Sn n : Nat} (h : rI sz lf rt t M Sn n) (e : Sn = M) : RS sz lf rt t (fun j => M.testBit j) := by
  subst e
  exact ⟨h.2.2.1, h.2.2.2.2.2.1, h.2.2.2.2.2.2.1⟩
theorem rI_full {sz lf rt : Nat → Int32} {t M Sn n : Nat} (h : rI sz lf rt t M Sn n) (e : 24 ≤ n) : RS sz lf rt t (fun j => M.testBit j) := by
  refine rI_same h ?_
  obtain ⟨-, -, -, h3, h4, -, -, h7, -⟩ := h
  apply Nat.eq_of_testBit_eq
  intro j
  have h0 : Sn.testBit 0 = false := by
    cases q : Sn.testBit 0
    · rfl
    · have := h4 0 (h3 0 q); omega
  cases q : M.testBit j
  · cases q2 : Sn.testBit j
    · rfl
    · rw [h3 j q2] at q; exact absurd q (by decide)
  · exact cnt_all (f := fun j => Sn.testBit j) h0 (by omega) (h4 j q).1 (h4 j q).2
theorem rI_nx {sz lf rt : Nat → Int32} {t M Sn n : Nat} (h : rI sz lf rt t M Sn n) (e : ¬ Sn = M) : ∃ k, (bdf M Sn).testBit k = true ∧ (∀ j, j < k → (bdf M Sn).testBit j = false) ∧ 1 ≤ k ∧ k ≤ 24 := by
  have hne : bdf M Sn ≠ 0 := fun q => e (by
    apply Nat.eq_of_testBit_eq
    intro j
    have hj := bdf_bit M Sn j
    rw [q, Nat.zero_testBit] at hj
    cases a : M.testBit j
    · cases b : Sn.testBit j
      · rfl
      · rw [h.2.2.2.1 j b] at a; exact absurd a (by decide)
    · rw [a] at hj
      cases b : Sn.testBit j
      · rw [b] at hj; exact absurd hj (by decide)
      · rfl)
  obtain ⟨k, k1, k2⟩ := low_bit hne
  have k3 := k1
  rw [bdf_bit] at k3
  have k4 := h.2.2.2.2.1 k (by cases a : M.testBit k; simp [a] at k3; rfl)
  exact ⟨k, k1, k2, k4⟩
theorem rI_in {M Sn k : Nat} (hk : (bdf M Sn).testBit k = true) : M.testBit k = true ∧ Sn.testBit k = false := by
  rw [bdf_bit] at hk
  cases a : M.testBit k <;> cases b : Sn.testBit k <;> rw [a, b] at hk <;> first | exact absurd hk (by decide) | exact ⟨rfl, rfl⟩
theorem rI_cnt {sz lf rt : Nat → Int32} {t M Sn n : Nat} (h : rI sz lf rt t M Sn n) {k : Nat} (hk : (bdf M Sn).testBit k = true) (k2 : k ≤ 24) : cnt (fun j => (Sn ||| 1 * 2 ^ k).testBit j) 25 = n + 1 := by
  rw [← h.2.2.2.2.2.2.2.1]
  refine cnt_up (f := fun j => Sn.testBit j) (k := k) (rI_in hk).2 ?_ (fun j hj => ?_) 25 (by omega)
  · simp only [or_bit]; simp
  · simp only [or_bit]; simp [hj]
theorem rI_A {sz lf rt : Nat → Int32} {t M Sn n : Nat} (h : rI sz lf rt t M Sn n) {k : Nat} (hk : (bdf M Sn).testBit k = true) (k2 : k ≤ 24) (hb : bd sz lf rt k = true ∨ lf k = 0) : rI sz lf rt t M (Sn ||| 1 * 2 ^ k) (n + 1) := by
  have hc := rI_cnt h hk k2
  have h1 := cnt_le (fun j => (Sn ||| 1 * 2 ^ k).testBit j) 25
  have hi := rI_in hk
  obtain ⟨a1, a2, a3, a4, a5, a6, a7, a8, a9⟩ := h
  refine ⟨a1, or_lt a2 k2, a3, fun j hj => ?_, a5, fun j hj b1 b2 => ?_, a7, hc, by omega⟩
  · rw [or_bit] at hj
    by_cases e : j = k
    · rw [e]; exact hi.1
    · exact a4 j (by simpa [e] using hj)
  · rw [or_bit] at hj
    by_cases e : j = k
    · subst e
      rcases hb with q | q
      · rw [b1] at q; exact absurd q (by decide)
      · exact absurd q b2
    · exact a6 j (by simpa [e] using hj) b1 b2
theorem rI_B {sz lf rt : Nat → Int32} {t M Sn n : Nat} (h : rI sz lf rt t M Sn n) {k a b : Nat} (hk : (bdf M Sn).testBit k = true) (k2 : k ≤ 24) (hb : bd sz lf rt k = false) (hl : ¬ lf k = 0) (ha : (lf k).toNatClampNeg = a) (hb' : (rt k).toNatClampNeg = b) (a1 : 1 ≤ a ∧ a ≤ 24) (b1 : 1 ≤ b ∧ b ≤ 24) : rI sz lf rt t ((M ||| 1 * 2 ^ a) ||| 1 * 2 ^ b) (Sn ||| 1 * 2 ^ k) (n + 1) := by
  have hc := rI_cnt h hk k2
  have h1 := cnt_le (fun j => (Sn ||| 1 * 2 ^ k).testBit j) 25
  have hi := rI_in hk
  obtain ⟨c1, c2, c3, c4, c5, c6, c7, c8, c9⟩ := h
  have up : ∀ j, M.testBit j = true → ((M ||| 1 * 2 ^ a) ||| 1 * 2 ^ b).testBit j = true := fun j q => by rw [or_bit, or_bit, q]; simp
  refine ⟨or_lt (or_lt c1 a1.2) b1.2, or_lt c2 k2, up _ c3, fun j hj => up _ ?_, fun j hj => ?_, fun j hj q1 q2 => ?_, fun P p1 p2 j hj => ?_, hc, by omega⟩
  · rw [or_bit] at hj
    by_cases e : j = k
    · rw [e]; exact hi.1
    · exact c4 j (by simpa [e] using hj)
  · rw [or_bit, or_bit] at hj
    by_cases e : j = b
    · omega
    · by_cases e2 : j = a
      · omega
      · exact c5 j (by simpa [e, e2] using hj)
  · rw [or_bit] at hj
    by_cases e : j = k
    · subst e
      rw [ha, hb', or_bit, or_bit, or_bit, or_bit]
      simp
    · have := c6 j (by simpa [e] using hj) q1 q2
      exact ⟨up _ this.1, up _ this.2⟩
  · rw [or_bit, or_bit] at hj
    have hc := p2 k (c7 P p1 p2 k hi.1) hb hl
    rw [ha, hb'] at hc
    by_cases e : j = b
    · rw [e]; exact hc.2
    · by_cases e2 : j = a
      · rw [e2]; exact hc.1
      · exact c7 P p1 p2 j (by simpa [e, e2] using hj)
/-- the lowest number from 1 to 24 with a property, 0 if there is none -/
def lwF (f : Nat → Bool) : Nat → Nat → Nat
  | 0, _ => 0
  | n + 1, k => if f k then k else lwF f n (k + 1)
def lwb (f : Nat → Bool) : Nat := lwF f 24 1
theorem lwF_s {f : Nat → Bool} {n k : Nat} (h : f k = false) : lwF f (n + 1) k = lwF f n (k + 1) := by rw [lwF, h]; simp
theorem lwF_e {f : Nat → Bool} {n k : Nat} (h : f k = true) : lwF f (n + 1) k = k := by rw [lwF, h]; simp
theorem lwF_z (f : Nat → Bool) : ∀ n k, lwF f n k = 0 → 1 ≤ k → ∀ j, k ≤ j → j < k + n → f j = false
  | 0, k, _, _, j, a, b => by omega
  | n + 1, k, h, hk, j, a, b => by
    rw [lwF] at h
    cases e : f k
    · rw [e] at h
      by_cases q : j = k
      · rw [q]; exact e
      · exact lwF_z f n (k + 1) (by simpa using h) (by omega) j (by omega) (by omega)
    · rw [e] at h; simp at h; omega
theorem lwb_z {f : Nat → Bool} (h : lwb f = 0) {j : Nat} (h1 : 1 ≤ j) (h2 : j ≤ 24) : f j = false := lwF_z f 24 1 h (by decide) j h1 (by omega)
/-! Integer.bitCount -/
def bs1 (X : Nat) : Nat := X - (X / 2 ^ 1 &&& 1431655765)
def bs2 (X : Nat) : Nat := (X &&& 858993459) + (X / 2 ^ 2 &&& 858993459)
def bs3 (X : Nat) : Nat := (X + X / 2 ^ 4) &&& 252645135
def bs4 (X : Nat) : Nat := X + X / 2 ^ 8
def bs5 (X : Nat) : Nat := X + X / 2 ^ 16
theorem and_256 {a b c d : Nat} (ha : a < 256) (hc : c < 256) : (a + 256 * b) &&& (c + 256 * d) = (a &&& c) + 256 * (b &&& d) := by
  have h1 : ((a + 256 * b) &&& (c + 256 * d)) % 2 ^ 8 = a &&& c := by
    rw [Nat.and_mod_two_pow]
    rw [show (a + 256 * b) % 2 ^ 8 = a by omega, show (c + 256 * d) % 2 ^ 8 = c by omega]
  have h2 : ((a + 256 * b) &&& (c + 256 * d)) / 2 ^ 8 = b &&& d := by
    rw [Nat.and_div_two_pow]
    rw [show (a + 256 * b) / 2 ^ 8 = b by omega, show (c + 256 * d) / 2 ^ 8 = d by omega]
  omega
theorem and_4 {a b c d x : Nat} (ha : a < 256) (hb : b < 256) (hc : c < 256) (hx : x < 256) : (a + 256 * (b + 256 * (c + 256 * d))) &&& (x + 256 * (x + 256 * (x + 256 * x))) = (a &&& x) + 256 * ((b &&& x) + 256 * ((c &&& x) + 256 * (d &&& x))) := by
  rw [and_256 ha hx, and_256 hb hx, and_256 hc hx]
def pa1 (a : Nat) : Nat := a - (a / 2 &&& 85)
def pa2 (a : Nat) : Nat := (a &&& 51) + (a / 4 &&& 51)
def pa3 (a : Nat) : Nat := (a + a / 16) &&& 15
theorem pa1_f : ∀ a, a < 256 → (a / 2 &&& 85) ≤ a ∧ (a / 2 + 128 &&& 85) = (a / 2 &&& 85) := by decide +kernel
theorem pa2_f : ∀ a, a < 256 → (∀ x, x < 4 → (a / 4 + 64 * x &&& 51) = (a / 4 &&& 51)) ∧ pa2 a ≤ 102 := by decide +kernel
theorem pa3_f : ∀ a, a < 256 → pa3 (pa2 (pa1 a)) = cnt (fun j => a.testBit j) 8 ∧ pa2 (pa1 a) ≤ 68 ∧ pa2 (pa1 a) % 16 ≤ 4 := by decide +kernel
theorem bs1_l {a b c d : Nat} (ha : a < 256) (hb : b < 256) (hc : c < 256) (hd : d < 256) : bs1 (a + 256 * (b + 256 * (c + 256 * d))) = pa1 a + 256 * (pa1 b + 256 * (pa1 c + 256 * pa1 d)) := by
  unfold bs1
  have e : (a + 256 * (b + 256 * (c + 256 * d))) / 2 ^ 1 = (a / 2 + 128 * (b % 2)) + 256 * ((b / 2 + 128 * (c % 2)) + 256 * ((c / 2 + 128 * (d % 2)) + 256 * (d / 2))) := by omega
  have q : ∀ x y : Nat, x < 256 → (x / 2 + 128 * (y % 2) &&& 85) = (x / 2 &&& 85) := fun x y hx => by
    rcases Nat.mod_two_eq_zero_or_one y with e | e <;> rw [e]
    · simp
    · exact (pa1_f x hx).2
  rw [e, show (1431655765 : Nat) = 85 + 256 * (85 + 256 * (85 + 256 * 85)) by decide, and_4 (by omega) (by omega) (by omega) (by decide), q a b ha, q b c hb, q c d hc]
  have := (pa1_f a ha).1
  have := (pa1_f b hb).1
  have := (pa1_f c hc).1
  have := (pa1_f d hd).1
  unfold pa1
  omega
theorem bs2_l {a b c d : Nat} (ha : a < 256) (hb : b < 256) (hc : c < 256) : bs2 (a + 256 * (b + 256 * (c + 256 * d))) = pa2 a + 256 * (pa2 b + 256 * (pa2 c + 256 * pa2 d)) := by
  unfold bs2
  have e : (a + 256 * (b + 256 * (c + 256 * d))) / 2 ^ 2 = (a / 4 + 64 * (b % 4)) + 256 * ((b / 4 + 64 * (c % 4)) + 256 * ((c / 4 + 64 * (d % 4)) + 256 * (d / 4))) := by omega
  have q : ∀ x y : Nat, x < 256 → (x / 4 + 64 * (y % 4) &&& 51) = (x / 4 &&& 51) := fun x y hx => (pa2_f x hx).1 _ (Nat.mod_lt _ (by decide))
  rw [e, show (858993459 : Nat) = 51 + 256 * (51 + 256 * (51 + 256 * 51)) by decide, and_4 ha hb hc (by decide), and_4 (by omega) (by omega) (by omega) (by decide), q a b ha, q b c hb, q c d hc]
  unfold pa2
  omega
theorem bs3_l {a b c d : Nat} (ha : a ≤ 68) (hb : b ≤ 68 ∧ b % 16 ≤ 4) (hc : c ≤ 68 ∧ c % 16 ≤ 4) (hd : d % 16 ≤ 4) : bs3 (a + 256 * (b + 256 * (c + 256 * d))) = pa3 a + 256 * (pa3 b + 256 * (pa3 c + 256 * pa3 d)) := by
  unfold bs3
  have e : (a + 256 * (b + 256 * (c + 256 * d))) + (a + 256 * (b + 256 * (c + 256 * d))) / 2 ^ 4 = (a + a / 16 + 16 * (b % 16)) + 256 * ((b + b / 16 + 16 * (c % 16)) + 256 * ((c + c / 16 + 16 * (d % 16)) + 256 * (d + d / 16))) := by omega
  have q : ∀ x y : Nat, (x + x / 16 + 16 * y &&& 15) = pa3 x := fun x y => by
    unfold pa3
    rw [show (15 : Nat) = 2 ^ 4 - 1 by decide, Nat.and_two_pow_sub_one_eq_mod, Nat.and_two_pow_sub_one_eq_mod]
    omega
  rw [e, show (252645135 : Nat) = 15 + 256 * (15 + 256 * (15 + 256 * 15)) by decide, and_4 (by omega) (by omega) (by omega) (by decide), q, q, q]
  rfl
theorem cnt_add (f : Nat → Bool) (m : Nat) : ∀ n, cnt f (m + n) = cnt f m + cnt (fun j => f (m + j)) n
  | 0 => rfl
  | n + 1 => by rw [← Nat.add_assoc, cnt, cnt, cnt_add f m n]; omega
/-- what bitCount answers -/
theorem bs_cnt {X : Nat} (h : X < 33554432) : bs5 (bs4 (bs3 (bs2 (bs1 X)))) &&& 63 = cnt (fun j => X.testBit j) 25 := by
  obtain ⟨a, ea⟩ : ∃ a, a = X % 256 := ⟨_, rfl⟩
  obtain ⟨b, eb⟩ : ∃ b, b = X / 256 % 256 := ⟨_, rfl⟩
  obtain ⟨c, ec⟩ : ∃ c, c = X / 65536 % 256 := ⟨_, rfl⟩
  obtain ⟨d, ed⟩ : ∃ d, d = X / 16777216 := ⟨_, rfl⟩
  have e : X = a + 256 * (b + 256 * (c + 256 * d)) := by omega
  have ha : a < 256 := by omega
  have hb : b < 256 := by omega
  have hc : c < 256 := by omega
  have hd : d < 2 := by omega
  have fa := pa3_f a ha
  have fb := pa3_f b hb
  have fc := pa3_f c hc
  have fd := pa3_f d (by omega)
  have ka := cnt_le (fun j => a.testBit j) 8
  have kb := cnt_le (fun j => b.testBit j) 8
  have kc := cnt_le (fun j => c.testBit j) 8
  have kd := cnt_le (fun j => d.testBit j) 8
  have l1 : ∀ x, x < 256 → pa1 x < 256 := fun x hx => by unfold pa1; omega
  have b1 : ∀ j, j < 8 → a.testBit j = X.testBit j := fun j hj => by rw [ea, show (256 : Nat) = 2 ^ 8 by decide, Nat.testBit_mod_two_pow]; simp [hj]
  have b2 : ∀ j, j < 8 → b.testBit j = X.testBit (8 + j) := fun j hj => by rw [eb, show (256 : Nat) = 2 ^ 8 by decide, Nat.testBit_mod_two_pow, Nat.testBit_div_two_pow, Nat.add_comm]; simp [hj]
  have b3 : ∀ j, j < 8 → c.testBit j = X.testBit (8 + (8 + j)) := fun j hj => by rw [ec, show (256 : Nat) = 2 ^ 8 by decide, show (65536 : Nat) = 2 ^ 16 by decide, Nat.testBit_mod_two_pow, Nat.testBit_div_two_pow, show j + 16 = 8 + (8 + j) by omega]; simp [hj]
  have b4 : ∀ j, d.testBit j = X.testBit (8 + (8 + (8 + j))) := fun j => by rw [ed, show (16777216 : Nat) = 2 ^ 24 by decide, Nat.testBit_div_two_pow, show j + 24 = 8 + (8 + (8 + j)) by omega]
  have dd : cnt (fun j => d.testBit j) 8 = cnt (fun j => d.testBit j) 1 := by
    have : ∀ d, d < 2 → cnt (fun j => d.testBit j) 8 = cnt (fun j => d.testBit j) 1 := by decide
    exact this d hd
  rw [show (25 : Nat) = 8 + (8 + (8 + 1)) by decide, cnt_add, cnt_add, cnt_add, ← cnt_congr 8 b1, ← cnt_congr 8 b2, ← cnt_congr 8 b3, ← cnt_congr (f := fun j => d.testBit j) 1 (fun j _ => b4 j), ← dd]
  rw [e, bs1_l ha hb hc (by omega), bs2_l (l1 _ ha) (l1 _ hb) (l1 _ hc), bs3_l fa.2.1 fb.2 fc.2 fd.2.2, fa.1, fb.1, fc.1, fd.1]
  generalize cnt (fun j => a.testBit j) 8 = x1 at *
  generalize cnt (fun j => b.testBit j) 8 = x2 at *
  generalize cnt (fun j => c.testBit j) 8 = x3 at *
  generalize cnt (fun j => d.testBit j) 8 = x4 at *
  unfold bs5 bs4
  clear fa fb fc fd e ea eb ec ed b1 b2 b3 b4 l1 dd ha hb hc hd
  rw [show (63 : Nat) = 2 ^ 6 - 1 by decide, Nat.and_two_pow_sub_one_eq_mod]
  rw [show (x1 + 256 * (x2 + 256 * (x3 + 256 * x4))) / 2 ^ 8 = x2 + 256 * (x3 + 256 * x4) by omega]
  rw [show (x1 + 256 * (x2 + 256 * (x3 + 256 * x4)) + (x2 + 256 * (x3 + 256 * x4))) / 2 ^ 16 = x3 + x4 + 256 * x4 by omega]
  omega
theorem bs_b1 (X : Nat) : (X / 2 ^ 1 &&& 1431655765) ≤ X := Nat.le_trans Nat.and_le_left (Nat.div_le_self _ _)
theorem bs_b {X : Nat} (h : X < 33554432) : bs1 X < 2 ^ 32 ∧ bs2 (bs1 X) < 2 ^ 32 ∧ bs3 (bs2 (bs1 X)) < 2 ^ 32 ∧ bs4 (bs3 (bs2 (bs1 X))) < 2 ^ 32 := by
  have h1 : bs1 X ≤ X := Nat.sub_le _ _
  have h2 : bs2 (bs1 X) ≤ 858993459 + 858993459 := by unfold bs2; exact Nat.add_le_add Nat.and_le_right Nat.and_le_right
  have h3 : bs3 (bs2 (bs1 X)) ≤ 252645135 := by unfold bs3; exact Nat.and_le_right
  have h4 : bs4 (bs3 (bs2 (bs1 X))) ≤ 252645135 + 252645135 := by unfold bs4; have := Nat.div_le_self (bs3 (bs2 (bs1 X))) (2 ^ 8); omega
  omega
