/-! Families. -/
def fR (kd k : Nat) : Nat := if kd < 2 then k - 1 - kd else if k = 4 then 1 else if k % 2 = 1 then k - 3 else k - 4
def fLf (kd a b k : Nat) : Nat := if kd = 1 then (if k = 1 then a else b) else k * a
def fz (kd a b k : Nat) : Nat := if h : k ≤ kd + 1 then fLf kd a b k else fz kd a b (k - 1) + fz kd a b (fR kd k)
termination_by k
decreasing_by
  · omega
  · unfold fR; split
    · omega
    · split
      · omega
      · split <;> omega
theorem fz_l {kd a b k : Nat} (h : k ≤ kd + 1) : fz kd a b k = fLf kd a b k := by rw [fz]; simp [h]
theorem fz_s {kd a b k : Nat} (h : kd + 1 < k) : fz kd a b k = fz kd a b (k - 1) + fz kd a b (fR kd k) := by
  rw [fz, dif_neg (by omega)]
theorem fR_b {kd k : Nat} (hd : kd ≤ 2) (h : kd + 1 < k) : 1 ≤ fR kd k ∧ fR kd k < k := by
  unfold fR
  split
  · omega
  · split
    · omega
    · split <;> omega
/-- no size of the family is too great -/
def fOK (kd a b n : Nat) : Bool := (List.range (n + 1)).all (fun k => decide (k = 0) || decide (fz kd a b k ≤ 4194304))
theorem fOK_t {kd a b n : Nat} : fOK kd a b n = true ↔ ∀ k, 1 ≤ k → k ≤ n → fz kd a b k ≤ 4194304 := by
  unfold fOK
  rw [List.all_eq_true]
  constructor
  · intro h k h1 h2
    have := h k (List.mem_range.mpr (by omega))
    rw [Bool.or_eq_true, decide_eq_true_eq, decide_eq_true_eq] at this
    omega
  · intro h k hk
    have := List.mem_range.mp hk
    rw [Bool.or_eq_true, decide_eq_true_eq, decide_eq_true_eq]
    by_cases e : k = 0
    · exact Or.inl e
    · exact Or.inr (h k (by omega) (by omega))
theorem fOK_f {kd a b n k : Nat} (h1 : 1 ≤ k) (h2 : k ≤ n) (h : 4194304 < fz kd a b k) : fOK kd a b n = false := by
  cases e : fOK kd a b n
  · rfl
  · have := fOK_t.mp e k h1 h2; omega
def fmS (kd a b n : Nat) (f : Nat → Int32) : Nat → Int32 := fun j => if 1 ≤ j ∧ j ≤ 24 then (if j ≤ n then nI (fz kd a b j) else 0) else f j
def fmL (kd n : Nat) (f : Nat → Int32) : Nat → Int32 := fun j => if 1 ≤ j ∧ j ≤ 24 then (if j ≤ n ∧ kd + 1 < j then nI (j - 1) else 0) else f j
def fmR (kd n : Nat) (f : Nat → Int32) : Nat → Int32 := fun j => if 1 ≤ j ∧ j ≤ 24 then (if j ≤ n ∧ kd + 1 < j then nI (fR kd j) else 0) else f j
/-- rows told so far -/
def fmi (f g : Nat → Int32) (j : Nat) : Nat → Int32 := fun i => if 1 ≤ i ∧ i < j then g i else f i
theorem fmi_1 (f g : Nat → Int32) : fmi f g 1 = f := by
  funext i
  unfold fmi
  rw [if_neg (by omega)]
theorem fmi_s {f g : Nat → Int32} {j : Nat} {v : Int32} (h1 : 1 ≤ j) (h : g j = v) : upd (fmi f g j) j v = fmi f g (j + 1) := by
  funext i
  unfold upd fmi
  by_cases e : i = j
  · subst e
    rw [if_pos rfl, if_pos (by omega)]; exact h.symm
  · rw [if_neg e]
    by_cases e2 : 1 ≤ i ∧ i < j
    · rw [if_pos e2, if_pos (by omega)]
    · rw [if_neg e2, if_neg (by omega)]
theorem fmi_in {f g : Nat → Int32} {i j : Nat} (h1 : 1 ≤ i) (h2 : i < j) : fmi f g j i = g i := by
  unfold fmi
  rw [if_pos ⟨h1, h2⟩]
theorem fmi_e {f g : Nat → Int32} {h : Nat → Int32} (q : ∀ i, 1 ≤ i → i ≤ 24 → h i = g i) (r : ∀ i, ¬ (1 ≤ i ∧ i ≤ 24) → h i = f i) : fmi f g 25 = h := by
  funext i
  unfold fmi
  by_cases e : 1 ≤ i ∧ i < 25
  · rw [if_pos e]; exact (q i e.1 (by omega)).symm
  · rw [if_neg e]; exact (r i (by omega)).symm
theorem fz_b {kd a b j : Nat} (hd : kd ≤ 2) (ha : a ≤ 4194304) (hb : kd = 1 → b ≤ 4194304) (h1 : 1 ≤ j) (h : ∀ i, 1 ≤ i → i < j → fz kd a b i ≤ 4194304) : fz kd a b j ≤ 12582912 := by
  by_cases e : j ≤ kd + 1
  · rw [fz_l e]
    unfold fLf
    split
    · split
      · omega
      · have := hb (by assumption); omega
    · have := Nat.mul_le_mul (show j ≤ 3 by omega) ha
      omega
  · have f := fR_b hd (show kd + 1 < j by omega)
    rw [fz_s (by omega)]
    have := h (j - 1) (by omega) (by omega)
    have := h (fR kd j) f.1 f.2
    omega
theorem fm_g {kd a b n j : Nat} {sz lf rt : Nat → Int32} (h1 : 1 ≤ j) (h2 : j ≤ 24) (h : n < j) : fmS kd a b n sz j = nI 0 ∧ fmL kd n lf j = nI 0 ∧ fmR kd n rt j = nI 0 := by
  have h4 : 1 ≤ j ∧ j ≤ 24 := ⟨h1, h2⟩
  have h5 : ¬ j ≤ n := by omega
  refine ⟨?_, ?_, ?_⟩
  · unfold fmS; rw [if_pos h4, if_neg h5]; decide
  · unfold fmL; rw [if_pos h4, if_neg (fun q => h5 q.1)]; decide
  · unfold fmR; rw [if_pos h4, if_neg (fun q => h5 q.1)]; decide
theorem fm_l {kd a b n j : Nat} {sz lf rt : Nat → Int32} (h1 : 1 ≤ j) (h2 : j ≤ 24) (h : j ≤ n) (h3 : j ≤ kd + 1) : fmS kd a b n sz j = nI (fz kd a b j) ∧ fmL kd n lf j = nI 0 ∧ fmR kd n rt j = nI 0 := by
  have h4 : 1 ≤ j ∧ j ≤ 24 := ⟨h1, h2⟩
  refine ⟨?_, ?_, ?_⟩
  · unfold fmS; rw [if_pos h4, if_pos h]
  · unfold fmL; rw [if_pos h4, if_neg (fun q => by omega)]; decide
  · unfold fmR; rw [if_pos h4, if_neg (fun q => by omega)]; decide
theorem fm_s {kd a b n j : Nat} {sz lf rt : Nat → Int32} (h1 : 1 ≤ j) (h2 : j ≤ 24) (h : j ≤ n) (h3 : kd + 1 < j) : fmS kd a b n sz j = nI (fz kd a b j) ∧ fmL kd n lf j = nI (j - 1) ∧ fmR kd n rt j = nI (fR kd j) := by
  have h4 : 1 ≤ j ∧ j ≤ 24 := ⟨h1, h2⟩
  refine ⟨?_, ?_, ?_⟩
  · unfold fmS; rw [if_pos h4, if_pos h]
  · unfold fmL; rw [if_pos h4, if_pos ⟨h, h3⟩]
  · unfold fmR; rw [if_pos h4, if_pos ⟨h, h3⟩]
theorem fm_e (kd a b n : Nat) (sz lf rt : Nat → Int32) : fmi sz (fmS kd a b n sz) 25 = fmS kd a b n sz ∧ fmi lf (fmL kd n lf) 25 = fmL kd n lf ∧ fmi rt (fmR kd n rt) 25 = fmR kd n rt :=
  ⟨fmi_e (fun _ _ _ => rfl) (fun i h => by unfold fmS; rw [if_neg h]), fmi_e (fun _ _ _ => rfl) (fun i h => by unfold fmL; rw [if_neg h]), fmi_e (fun _ _ _ => rfl) (fun i h => by unfold fmR; rw [if_neg h])⟩
