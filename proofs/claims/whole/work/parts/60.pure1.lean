/-! The abstract memory: nodes by heap numbers (the top is 1, the children of p are 2 p and 2 p + 1), split or not, with requests. -/
def ex (sp : Nat → Bool) (p : Nat) : Prop := p = 1 ∨ (2 ≤ p ∧ sp (p / 2) = true)
/-- a rule whose reached numbers rc are all good -/
def RuleOK (S L R : Nat → Nat) (rc : Nat → Bool) (top : Nat) : Prop :=
  rc top = true ∧ (∀ k, rc k = true → 1 ≤ k ∧ k ≤ 24 ∧ 4 ≤ S k ∧ S k ≤ 4194304 ∧ ((L k = 0 ∧ R k = 0) ∨ (rc (L k) = true ∧ rc (R k) = true ∧ S (L k) < S k ∧ S (R k) < S k ∧ S (L k) + S (R k) = S k))) ∧ S 0 = 0 ∧ L 0 = 0 ∧ R 0 = 0
def cls (top : Nat) (L R : Nat → Nat) (p : Nat) : Nat := if p ≤ 1 then top else if p % 2 = 0 then L (cls top L R (p / 2)) else R (cls top L R (p / 2))
termination_by p
decreasing_by all_goals omega
def adr (top : Nat) (S L R : Nat → Nat) (p : Nat) : Nat := if p ≤ 1 then 0 else if p % 2 = 0 then adr top S L R (p / 2) else adr top S L R (p / 2) + S (L (cls top L R (p / 2)))
termination_by p
decreasing_by all_goals omega
def dep (p : Nat) : Nat := if p ≤ 1 then 0 else dep (p / 2) + 1
termination_by p
decreasing_by all_goals omega
section PureA
variable {top : Nat} {S L R : Nat → Nat} {rc : Nat → Bool} {sp : Nat → Bool} {rq : Nat → Nat}
theorem cls_1 : cls top L R 1 = top := by rw [cls]; rfl
theorem cls_e {p : Nat} (h : 1 ≤ p) : cls top L R (2 * p) = L (cls top L R p) := by
  rw [cls, if_neg (by omega), if_pos (by omega), show 2 * p / 2 = p by omega]
theorem cls_o {p : Nat} (h : 1 ≤ p) : cls top L R (2 * p + 1) = R (cls top L R p) := by
  rw [cls, if_neg (by omega), if_neg (by omega), show (2 * p + 1) / 2 = p by omega]
theorem adr_1 : adr top S L R 1 = 0 := by rw [adr]; rfl
theorem adr_e {p : Nat} (h : 1 ≤ p) : adr top S L R (2 * p) = adr top S L R p := by
  rw [adr, if_neg (by omega), if_pos (by omega), show 2 * p / 2 = p by omega]
theorem adr_o {p : Nat} (h : 1 ≤ p) : adr top S L R (2 * p + 1) = adr top S L R p + S (L (cls top L R p)) := by
  rw [adr, if_neg (by omega), if_neg (by omega), show (2 * p + 1) / 2 = p by omega]
theorem dep_1 : dep 1 = 0 := by rw [dep]; rfl
theorem dep_e {p : Nat} (h : 1 ≤ p) : dep (2 * p) = dep p + 1 := by
  rw [dep, if_neg (by omega), show 2 * p / 2 = p by omega]
theorem dep_o {p : Nat} (h : 1 ≤ p) : dep (2 * p + 1) = dep p + 1 := by
  rw [dep, if_neg (by omega), show (2 * p + 1) / 2 = p by omega]
theorem dep_pow : ∀ (d p : Nat), 1 ≤ p → dep p = d → 2 ^ d ≤ p ∧ p < 2 ^ (d + 1) := by
  intro d
  induction d with
  | zero =>
    intro p h1 h2
    rw [dep] at h2
    split at h2
    · have : p = 1 := by omega
      subst this
      decide
    · omega
  | succ d ih =>
    intro p h1 h2
    rw [dep] at h2
    split at h2
    · omega
    · have := ih (p / 2) (by omega) (by omega)
      rw [Nat.pow_succ, Nat.pow_succ]
      rw [Nat.pow_succ] at this
      omega
/-- the tree: what is split hangs together and can be split; requests stand at leaves alone, and fit -/
def TOK (top : Nat) (S L R : Nat → Nat) (sp : Nat → Bool) (rq : Nat → Nat) : Prop :=
  (∀ p, sp p = true → 1 ≤ p ∧ ex sp p ∧ ¬ L (cls top L R p) = 0) ∧ ∀ p, 0 < rq p → ex sp p ∧ sp p = false ∧ rq p ≤ S (cls top L R p)
theorem ex_1 : ex sp 1 := Or.inl rfl
theorem ex_pos {p : Nat} (h : ex sp p) : 1 ≤ p := by
  rcases h with h | h <;> omega
theorem ex_l {p : Nat} (h1 : 1 ≤ p) (h : sp p = true) : ex sp (2 * p) := Or.inr ⟨by omega, by rw [show 2 * p / 2 = p by omega]; exact h⟩
theorem ex_r {p : Nat} (h1 : 1 ≤ p) (h : sp p = true) : ex sp (2 * p + 1) := Or.inr ⟨by omega, by rw [show (2 * p + 1) / 2 = p by omega]; exact h⟩
theorem ex_up (hT : TOK top S L R sp rq) {p : Nat} (h : ex sp p) (h2 : 2 ≤ p) : ex sp (p / 2) ∧ sp (p / 2) = true := by
  rcases h with h | h
  · omega
  · exact ⟨(hT.1 _ h.2).2.1, h.2⟩
/-- going up from a node that is there -/
theorem ex_ind (hT : TOK top S L R sp rq) {P : Nat → Prop} (h1 : P 1) (h2 : ∀ p, 1 ≤ p → ex sp p → sp p = true → P p → P (2 * p) ∧ P (2 * p + 1)) : ∀ p, ex sp p → P p := by
  intro p
  induction p using Nat.strongRecOn with
  | ind p ih =>
    intro hp
    by_cases hq : p = 1
    · rw [hq]; exact h1
    · have hp2 : 2 ≤ p := by have := ex_pos hp; omega
      obtain ⟨hu, hs⟩ := ex_up hT hp hp2
      have := h2 (p / 2) (by omega) hu hs (ih (p / 2) (by omega) hu)
      rcases (show p = 2 * (p / 2) ∨ p = 2 * (p / 2) + 1 by omega) with e | e
      · rw [e]; exact this.1
      · rw [e]; exact this.2
theorem cls_rc (hR : RuleOK S L R rc top) (hT : TOK top S L R sp rq) : ∀ p, ex sp p → rc (cls top L R p) = true := by
  refine ex_ind hT (by rw [cls_1]; exact hR.1) (fun p h1 hx hs hp => ?_)
  have hk := (hR.2.1 _ hp).2.2.2.2
  have hn := (hT.1 p hs).2.2
  rcases hk with hk | hk
  · exact absurd hk.1 hn
  · rw [cls_e h1, cls_o h1]
    exact ⟨hk.1, hk.2.1⟩
/-- what a split node's sides are -/
theorem sp_sides (hR : RuleOK S L R rc top) (hT : TOK top S L R sp rq) {p : Nat} (hs : sp p = true) : rc (L (cls top L R p)) = true ∧ rc (R (cls top L R p)) = true ∧ S (L (cls top L R p)) < S (cls top L R p) ∧ S (R (cls top L R p)) < S (cls top L R p) ∧ S (L (cls top L R p)) + S (R (cls top L R p)) = S (cls top L R p) := by
  have hk := (hR.2.1 _ (cls_rc hR hT p (hT.1 p hs).2.1)).2.2.2.2
  rcases hk with hk | hk
  · exact absurd hk.1 (hT.1 p hs).2.2
  · exact hk
/-- how many reached ones are smaller -/
def rnk (S : Nat → Nat) (rc : Nat → Bool) (k : Nat) : Nat := (List.range 25).countP (fun j => rc j && decide (S j < S k))
theorem cnt_lt {α : Type} (l : List α) (f g : α → Bool) (h : ∀ x ∈ l, f x = true → g x = true) {a : α} (ha : a ∈ l) (hf : f a = false) (hg : g a = true) : l.countP f < l.countP g := by
  induction l with
  | nil => cases ha
  | cons x xs ih =>
    have hx := h x List.mem_cons_self
    have hxs : xs.countP f ≤ xs.countP g := List.countP_mono_left (fun y hy => h y (List.mem_cons_of_mem _ hy))
    rw [List.countP_cons, List.countP_cons]
    rcases List.mem_cons.mp ha with e | e
    · subst e
      rw [hf, hg]
      simp
      omega
    · have := ih (fun y hy => h y (List.mem_cons_of_mem _ hy)) e
      cases hfx : f x
      · simp
        split <;> omega
      · rw [hx hfx]
        simp
        omega
theorem rnk_lt (hR : RuleOK S L R rc top) {j k : Nat} (hj : rc j = true) (h : S j < S k) : rnk S rc j < rnk S rc k := by
  have hb := hR.2.1 j hj
  refine cnt_lt _ _ _ (fun x _ hx => ?_) (a := j) (List.mem_range.mpr (by omega)) (by simp) (by simp [hj, h])
  simp only [Bool.and_eq_true, decide_eq_true_eq] at hx ⊢
  exact ⟨hx.1, by omega⟩
theorem rnk_23 (hR : RuleOK S L R rc top) {k : Nat} (hk : rc k = true) : rnk S rc k ≤ 23 := by
  have h0 : rc 0 = false := by
    cases h : rc 0
    · rfl
    · have := (hR.2.1 0 h).1
      omega
  have hb := hR.2.1 k hk
  have h1 : rnk S rc k < (List.range 25).countP (fun j => decide (0 < j)) := by
    refine cnt_lt _ _ _ (fun x _ hx => ?_) (a := k) (List.mem_range.mpr (by omega)) (by simp) (by simp; omega)
    simp only [Bool.and_eq_true] at hx
    cases x with
    | zero => rw [h0] at hx; exact absurd hx.1 (by decide)
    | succ x => simp
  have h2 : (List.range 25).countP (fun j => decide (0 < j)) = 24 := by decide
  omega
/-- no way is longer than 23 -/
theorem dep_23 (hR : RuleOK S L R rc top) (hT : TOK top S L R sp rq) : ∀ p, ex sp p → dep p + rnk S rc (cls top L R p) ≤ 23 := by
  refine ex_ind hT ?_ (fun p h1 hx hs hp => ?_)
  · rw [dep_1, cls_1, Nat.zero_add]
    exact rnk_23 hR hR.1
  · obtain ⟨a1, a2, a3, a4, a5⟩ := sp_sides hR hT hs
    have b1 := rnk_lt hR a1 a3
    have b2 := rnk_lt hR a2 a4
    rw [dep_e h1, dep_o h1, cls_e h1, cls_o h1]
    omega
theorem ex_lt (hR : RuleOK S L R rc top) (hT : TOK top S L R sp rq) {p : Nat} (h : ex sp p) : p < 16777216 := by
  have h1 := dep_23 hR hT p h
  have h2 := (dep_pow _ p (ex_pos h) rfl).2
  have h3 : 2 ^ (dep p + 1) ≤ 2 ^ 24 := Nat.pow_le_pow_right (by decide) (by omega)
  have h4 : (2 : Nat) ^ 24 = 16777216 := by decide
  omega
end PureA
