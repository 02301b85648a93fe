/-! Ancestors; the summary of a subtree; what a change at one node leaves alone. -/
def ancs (x : Nat) : List Nat := if x ≤ 1 then [] else x / 2 :: ancs (x / 2)
termination_by x
decreasing_by all_goals omega
/-- both children free leaves -/
def isf (sp : Nat → Bool) (rq : Nat → Nat) (p : Nat) : Bool := !sp (2 * p) && !sp (2 * p + 1) && decide (rq (2 * p) = 0) && decide (rq (2 * p + 1) = 0)
def smy (cl : Nat → Nat) (sp : Nat → Bool) (rq : Nat → Nat) (p : Nat) : Nat :=
  if 0 < p ∧ p < 16777216 ∧ sp p = true then (if isf sp rq p then (smy cl sp rq (2 * p) ||| smy cl sp rq (2 * p + 1)) ||| 1 else smy cl sp rq (2 * p) ||| smy cl sp rq (2 * p + 1))
  else if rq p = 0 then 1 * 2 ^ cl p else 33554432
termination_by 33554432 - p
decreasing_by all_goals omega
section PureD
variable {top : Nat} {S L R : Nat → Nat} {rc : Nat → Bool} {sp : Nat → Bool} {rq : Nat → Nat} {cl : Nat → Nat}
theorem ancs_1 : ancs 1 = [] := by rw [ancs]; rfl
theorem ancs_s {x : Nat} (h : 2 ≤ x) : ancs x = x / 2 :: ancs (x / 2) := by rw [ancs, if_neg (by omega)]
theorem ancs_lt : ∀ (x p : Nat), p ∈ ancs x → 1 ≤ p ∧ p < x := by
  intro x
  induction x using Nat.strongRecOn with
  | ind x ih =>
    intro p h
    by_cases h2 : 2 ≤ x
    · rw [ancs_s h2] at h
      rcases List.mem_cons.mp h with e | e
      · omega
      · have := ih (x / 2) (by omega) p e
        omega
    · rw [ancs, if_pos (by omega)] at h
      cases h
/-- a line of ancestors is closed upward -/
theorem ancs_up : ∀ (x q : Nat), q ∈ x :: ancs x → 2 ≤ q → q / 2 ∈ ancs x := by
  intro x
  induction x using Nat.strongRecOn with
  | ind x ih =>
    intro q h h2
    rcases List.mem_cons.mp h with e | e
    · subst e
      rw [ancs_s h2]
      exact List.mem_cons_self
    · have hx : 2 ≤ x := by
        have := ancs_lt x q e
        omega
      rw [ancs_s hx] at e ⊢
      exact List.mem_cons_of_mem _ (ih (x / 2) (by omega) q e h2)
theorem ancs_ex (hT : TOK top S L R sp rq) : ∀ (x : Nat), ex sp x → ∀ p ∈ ancs x, ex sp p ∧ sp p = true := by
  intro x
  induction x using Nat.strongRecOn with
  | ind x ih =>
    intro hx p hp
    by_cases h2 : 2 ≤ x
    · obtain ⟨u1, u2⟩ := ex_up hT hx h2
      rw [ancs_s h2] at hp
      rcases List.mem_cons.mp hp with e | e
      · rw [e]; exact ⟨u1, u2⟩
      · exact ih (x / 2) (by omega) u1 p e
    · rw [ancs, if_pos (by omega)] at hp
      cases hp
theorem lvs_s0 {p : Nat} (h1 : 1 ≤ p) (h2 : p < 16777216) (h : sp p = true) : lvs sp p = lvs sp (2 * p) ++ lvs sp (2 * p + 1) := by rw [lvs, if_pos ⟨h1, h2, h⟩]
theorem lvb_s0 {p : Nat} (h1 : 1 ≤ p) (h2 : p < 16777216) (h : sp p = true) : lvb sp rq p = (lvb sp rq (2 * p) || lvb sp rq (2 * p + 1)) := by rw [lvb, if_pos ⟨h1, h2, h⟩]
theorem smy_s0 {p : Nat} (h1 : 1 ≤ p) (h2 : p < 16777216) (h : sp p = true) : smy cl sp rq p = if isf sp rq p then (smy cl sp rq (2 * p) ||| smy cl sp rq (2 * p + 1)) ||| 1 else smy cl sp rq (2 * p) ||| smy cl sp rq (2 * p + 1) := by rw [smy, if_pos ⟨h1, h2, h⟩]
theorem smy_n {p : Nat} (h : sp p = false) : smy cl sp rq p = if rq p = 0 then 1 * 2 ^ cl p else 33554432 := by
  rw [smy, if_neg (fun q => by rw [h] at q; exact absurd q.2.2 (by decide))]
/-- a change at x alone leaves the subtrees off its line alone -/
theorem off_line (hR : RuleOK S L R rc top) (hT : TOK top S L R sp rq) {sp2 : Nat → Bool} {rq2 : Nat → Nat} {x : Nat} (hs : ∀ y, y ≠ x → sp2 y = sp y) (hq : ∀ y, y ≠ x → rq2 y = rq y) :
    ∀ p, ex sp p → p ∉ x :: ancs x → lvs sp2 p = lvs sp p ∧ lvb sp2 rq2 p = lvb sp rq p ∧ smy cl sp2 rq2 p = smy cl sp rq p := by
  refine dn_ind hR hT (fun p hx h hn => ?_) (fun p h1 hx h i1 i2 hn => ?_)
  · have e : p ≠ x := fun e => hn (by rw [e]; exact List.mem_cons_self)
    have h2 : sp2 p = false := by rw [hs p e]; exact h
    rw [lvs_n h, lvs_n h2, lvb_n h, lvb_n h2, smy_n h, smy_n h2, hq p e]
    exact ⟨rfl, rfl, rfl⟩
  · have e : p ≠ x := fun e => hn (by rw [e]; exact List.mem_cons_self)
    have h2 : sp2 p = true := by rw [hs p e]; exact h
    have hb := ex_lt hR hT hx
    have n1 : 2 * p ∉ x :: ancs x := fun q => hn (List.mem_cons_of_mem _ (by have := ancs_up x _ q (by omega); rwa [show 2 * p / 2 = p by omega] at this))
    have n2 : 2 * p + 1 ∉ x :: ancs x := fun q => hn (List.mem_cons_of_mem _ (by have := ancs_up x _ q (by omega); rwa [show (2 * p + 1) / 2 = p by omega] at this))
    have e1 : 2 * p ≠ x := fun q => n1 (by rw [q]; exact List.mem_cons_self)
    have e2 : 2 * p + 1 ≠ x := fun q => n2 (by rw [q]; exact List.mem_cons_self)
    have hf : isf sp2 rq2 p = isf sp rq p := by unfold isf; rw [hs _ e1, hs _ e2, hq _ e1, hq _ e2]
    obtain ⟨a1, a2, a3⟩ := i1 n1
    obtain ⟨b1, b2, b3⟩ := i2 n2
    rw [lvs_s0 h1 hb h, lvs_s0 h1 hb h2, lvb_s0 h1 hb h, lvb_s0 h1 hb h2, smy_s0 h1 hb h, smy_s0 h1 hb h2, hf, a1, a2, a3, b1, b2, b3]
    exact ⟨rfl, rfl, rfl⟩
theorem isf_iff {p : Nat} (h : sp p = true) : isf sp rq p = true ↔ joi sp rq p := by
  unfold isf joi
  rw [Bool.and_eq_true, Bool.and_eq_true, Bool.and_eq_true, decide_eq_true_eq, decide_eq_true_eq, Bool.not_eq_true', Bool.not_eq_true']
  constructor
  · intro ⟨⟨⟨a, b⟩, c⟩, d⟩
    exact ⟨h, a, b, c, d⟩
  · intro ⟨_, a, b, c, d⟩
    exact ⟨⟨⟨a, b⟩, c⟩, d⟩
/-- the bits of a summary -/
theorem smy_bits (hR : RuleOK S L R rc top) (hT : TOK top S L R sp rq) : ∀ p, ex sp p →
    (∀ k, 1 ≤ k → k ≤ 24 → ((smy (cls top L R) sp rq p).testBit k = true ↔ ∃ q ∈ lvs sp p, rq q = 0 ∧ cls top L R q = k)) ∧ ((smy (cls top L R) sp rq p).testBit 25 = lvb sp rq p) ∧ smy (cls top L R) sp rq p < 2 ^ 26 := by
  have t1 : ∀ k, 1 ≤ k → Nat.testBit 1 k = false := fun k hk => by
    cases k with
    | zero => omega
    | succ k => rw [Nat.testBit_succ]; simp
  refine dn_ind hR hT (fun p hx h => ?_) (fun p h1 hx h i1 i2 => ?_)
  · have hc := S_pos hR hT hx
    rw [smy_n h, lvs_n h, lvb_n h]
    rcases Nat.eq_zero_or_pos (rq p) with e | e
    · rw [if_pos e, Nat.one_mul, e]
      refine ⟨fun k h1 h2 => ?_, ?_, ?_⟩
      · rw [Nat.testBit_two_pow, decide_eq_true_eq]
        constructor
        · intro q; exact ⟨p, List.mem_singleton.mpr rfl, e, q⟩
        · rintro ⟨q, hq, _, hk⟩
          rw [List.mem_singleton.mp hq] at hk
          exact hk
      · rw [Nat.testBit_two_pow]
        simp
        omega
      · exact Nat.pow_lt_pow_right (by decide) (by omega)
    · rw [if_neg (by omega)]
      refine ⟨fun k h1 h2 => ?_, ?_, by decide⟩
      · rw [show (33554432 : Nat) = 2 ^ 25 by decide, Nat.testBit_two_pow, decide_eq_true_eq]
        constructor
        · intro q; omega
        · rintro ⟨q, hq, h9, _⟩
          rw [List.mem_singleton.mp hq] at h9
          omega
      · rw [show (33554432 : Nat) = 2 ^ 25 by decide, Nat.testBit_two_pow]
        simp [e]
  · have hb := ex_lt hR hT hx
    have key : ∀ k, 1 ≤ k → (smy (cls top L R) sp rq p).testBit k = ((smy (cls top L R) sp rq (2 * p)).testBit k || (smy (cls top L R) sp rq (2 * p + 1)).testBit k) := fun k hk => by
      rw [smy_s0 h1 hb h]
      split
      · rw [Nat.testBit_or, Nat.testBit_or, t1 k hk, Bool.or_false]
      · rw [Nat.testBit_or]
    refine ⟨fun k k1 k2 => ?_, ?_, ?_⟩
    · rw [key k k1, Bool.or_eq_true, i1.1 k k1 k2, i2.1 k k1 k2, lvs_s0 h1 hb h]
      constructor
      · rintro (⟨q, a, b⟩ | ⟨q, a, b⟩)
        · exact ⟨q, List.mem_append_left _ a, b⟩
        · exact ⟨q, List.mem_append_right _ a, b⟩
      · rintro ⟨q, a, b⟩
        rcases List.mem_append.mp a with a | a
        · exact Or.inl ⟨q, a, b⟩
        · exact Or.inr ⟨q, a, b⟩
    · rw [key 25 (by omega), i1.2.1, i2.2.1, lvb_s0 h1 hb h]
    · rw [smy_s0 h1 hb h]
      have o1 := Nat.or_lt_two_pow i1.2.2 i2.2.2
      split
      · exact Nat.or_lt_two_pow o1 (by decide)
      · exact o1
/-- bit 0: something can be joined there or below -/
theorem smy_0 (hR : RuleOK S L R rc top) (hT : TOK top S L R sp rq) {p : Nat} (hx : ex sp p) : (smy (cls top L R) sp rq p).testBit 0 = (sp p && (isf sp rq p || (smy (cls top L R) sp rq (2 * p)).testBit 0 || (smy (cls top L R) sp rq (2 * p + 1)).testBit 0)) := by
  cases h : sp p
  · have hc := S_pos hR hT hx
    rw [smy_n h, Bool.false_and]
    split
    · rw [Nat.one_mul, Nat.testBit_two_pow]
      simp
      omega
    · decide
  · rw [smy_s0 (ex_pos hx) (ex_lt hR hT hx) h, Bool.true_and]
    cases hf : isf sp rq p
    · simp [Nat.testBit_or]
    · simp [Nat.testBit_or]
theorem smy_0_none (hR : RuleOK S L R rc top) (hT : TOK top S L R sp rq) (h0 : (smy (cls top L R) sp rq 1).testBit 0 = false) : ∀ x, ¬ joi sp rq x := by
  have key : ∀ p, ex sp p → (smy (cls top L R) sp rq p).testBit 0 = false := by
    refine ex_ind hT h0 (fun p h1 hx hs hp => ?_)
    rw [smy_0 hR hT hx, hs, Bool.true_and, Bool.or_eq_false_iff, Bool.or_eq_false_iff] at hp
    exact ⟨hp.1.2, hp.2⟩
  intro x hj
  have hx := (hT.1 x hj.1).2.1
  have := key x hx
  rw [smy_0 hR hT hx, hj.1, (isf_iff hj.1).mpr hj] at this
  simp at this
end PureD
