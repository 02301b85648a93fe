/-! Reading the row of nodes. -/
def prB (l : List Nat) (i : Nat) : Bool := match l[i]?, l[i + 1]? with
  | some p, some q => decide (2 ≤ p) && (decide (p % 2 = 0) && decide (q = p + 1))
  | _, _ => false
section PureN
variable {top : Nat} {S L R : Nat → Nat} {rc : Nat → Bool} {sp : Nat → Bool} {rq nd : Nat → Nat} {l l1 l2 : List Nat} {i p q x : Nat}
theorem nW_rd (hR : RuleOK S L R rc top) (hT : TOK top S L R sp rq) (h : nW top S L R rq nd (lvs sp 1)) (hl : (lvs sp 1).length ≤ 14000) (hi : i < (lvs sp 1).length) :
    ∃ p, (lvs sp 1)[i]? = some p ∧ ex sp p ∧ sp p = false ∧ i < 14000 ∧ nd i < 2 ^ 63 ∧ nd i / 2 ^ 36 = adr top S L R p ∧ (nd i / 2 ^ 35 &&& 1 = 1 ↔ 0 < rq p) ∧ nd i / 2 ^ 30 &&& 31 = cls top L R p ∧ nd i / 2 ^ 25 &&& 31 = dep p ∧ nd i &&& 33554431 = p % 2 ^ dep p := by
  have e := List.getElem?_eq_getElem hi
  have hm := lvs_mem hR hT 1 ex_1 _ (List.mem_of_getElem? e)
  have hb := wrd_b hR hT hm.1
  rw [← h i _ e] at hb
  exact ⟨_, e, hm.1, hm.2, by omega, hb.1, hb.2.1, hb.2.2.1, hb.2.2.2.1, hb.2.2.2.2.1, hb.2.2.2.2.2⟩
theorem prB_iff (hR : RuleOK S L R rc top) (hT : TOK top S L R sp rq) (hp : l[i]? = some p) (hq : l[i + 1]? = some q) (hx : ex sp p) (hy : ex sp q) : prB l i = true ↔ (0 < dep p ∧ dep p = dep q ∧ p % 2 ^ dep p % 2 = 0 ∧ p % 2 ^ dep p + 1 = q % 2 ^ dep q) := by
  rw [pair_iff hR hT hx hy]
  unfold prB
  rw [hp, hq]
  simp only [Bool.and_eq_true, decide_eq_true_eq]
theorem prB_n (h : l.length ≤ i + 1) : prB l i = false := by
  unfold prB
  rw [List.getElem?_eq_none h]
  split <;> rename_i a b c
  · exact absurd c (by simp)
  · rfl
theorem prB_t (h : prB l i = true) : ∃ p, l[i]? = some p ∧ l[i + 1]? = some (p + 1) ∧ 2 ≤ p ∧ p % 2 = 0 := by
  unfold prB at h
  split at h
  · rename_i p q e1 e2
    simp only [Bool.and_eq_true, decide_eq_true_eq] at h
    exact ⟨p, e1, by rw [e2, h.2.2], h.1, h.2.1⟩
  · exact absurd h (by decide)
theorem sid_bit {d jj : Nat} (h : jj < d) : p % 2 ^ d / 2 ^ jj &&& 1 = p / 2 ^ jj % 2 := by
  rw [Nat.and_one_is_mod]
  have h1 : (p % 2 ^ d).testBit jj = p.testBit jj := by rw [Nat.testBit_mod_two_pow]; simp [h]
  rw [Nat.testBit_eq_decide_div_mod_eq, Nat.testBit_eq_decide_div_mod_eq] at h1
  have h2 := decide_eq_decide.mp h1
  omega
theorem cls_bit {jj : Nat} (h : 2 ≤ p / 2 ^ jj) : cls top L R (p / 2 ^ jj) = if p / 2 ^ jj % 2 = 0 then L (cls top L R (p / 2 ^ (jj + 1))) else R (cls top L R (p / 2 ^ (jj + 1))) := by
  have e : p / 2 ^ (jj + 1) = p / 2 ^ jj / 2 := by rw [Nat.pow_succ, Nat.div_div_eq_div_mul]
  rw [e]
  conv => lhs; rw [cls]
  rw [if_neg (by omega)]
theorem ex_anc (hT : TOK top S L R sp rq) : ∀ (j p : Nat), ex sp p → j ≤ dep p → ex sp (p / 2 ^ j) := by
  intro j
  induction j with
  | zero => intro p h _; simpa using h
  | succ j ih =>
    intro p h hj
    have h1 := dep_pow (dep p) p (ex_pos h) rfl
    have h2 : 2 ≤ p / 2 ^ j := by
      rw [Nat.le_div_iff_mul_le (Nat.two_pow_pos _)]
      refine Nat.le_trans ?_ h1.1
      rw [← Nat.pow_succ']
      exact Nat.pow_le_pow_right (by decide) (by omega)
    have := (ex_up hT (ih p h (by omega)) h2).1
    rw [Nat.pow_succ, ← Nat.div_div_eq_div_mul]
    exact this
theorem anc_2 (hx : ex sp p) {j : Nat} (hj : j < dep p) : 2 ≤ p / 2 ^ j := by
  have h1 := dep_pow (dep p) p (ex_pos hx) rfl
  rw [Nat.le_div_iff_mul_le (Nat.two_pow_pos _)]
  refine Nat.le_trans ?_ h1.1
  rw [← Nat.pow_succ']
  exact Nat.pow_le_pow_right (by decide) (by omega)
theorem anc_1 (hx : ex sp p) : p / 2 ^ dep p = 1 := by
  have h1 := dep_pow (dep p) p (ex_pos hx) rfl
  apply Nat.div_eq_of_lt_le
  · omega
  · rw [Nat.pow_succ] at h1; omega
/-- the sides of a node's parent -/
theorem sid_up {x : Nat} (h : 1 ≤ x) : (2 * x) % 2 ^ dep (2 * x) / 2 = x % 2 ^ dep x ∧ dep (2 * x) - 1 = dep x := by
  rw [dep_e h, Nat.pow_succ, Nat.mul_comm (2 ^ dep x) 2, Nat.mul_mod_mul_left]
  omega
theorem dec_at {j : Nat} (h : l[j]? = some p) : l = l.take j ++ p :: l.drop (j + 1) ∧ (l.take j).length = j := by
  have hj : j < l.length := by
    apply Classical.byContradiction
    intro e
    rw [List.getElem?_eq_none (by omega)] at h
    exact absurd h (by simp)
  rw [List.getElem?_eq_getElem hj] at h
  have e : l[j] = p := by simpa using h
  refine ⟨?_, by rw [List.length_take]; omega⟩
  rw [← e, List.getElem_cons_drop, List.take_append_drop]
theorem dec_at2 {j : Nat} (h : l[j]? = some p) (h2 : l[j + 1]? = some q) : l = l.take j ++ p :: q :: l.drop (j + 2) ∧ (l.take j).length = j := by
  obtain ⟨e1, e2⟩ := dec_at h
  refine ⟨?_, e2⟩
  have hj : j + 1 < l.length := by
    apply Classical.byContradiction
    intro e
    rw [List.getElem?_eq_none (by omega)] at h2
    exact absurd h2 (by simp)
  rw [List.getElem?_eq_getElem hj] at h2
  have e : l[j + 1] = q := by simpa using h2
  have e3 : l.drop (j + 1) = q :: l.drop (j + 2) := by rw [← e, List.getElem_cons_drop]
  rw [← e3]
  exact e1
/-- free buddies side by side can be joined -/
theorem pr_joi (hR : RuleOK S L R rc top) (hT : TOK top S L R sp rq) (h : prB (lvs sp 1) i = true) (hp : (lvs sp 1)[i]? = some p) (hq : (lvs sp 1)[i + 1]? = some q) (h1 : ¬ 0 < rq p) (h2 : ¬ 0 < rq q) : joi sp rq (p / 2) ∧ lvs sp 1 = (lvs sp 1).take i ++ 2 * (p / 2) :: (2 * (p / 2) + 1) :: (lvs sp 1).drop (i + 2) ∧ ((lvs sp 1).take i).length = i := by
  obtain ⟨p', e1, e2, e3, e4⟩ := prB_t h
  rw [hp] at e1
  obtain rfl : p = p' := by simpa using e1
  rw [hq] at e2
  obtain rfl : q = p + 1 := by simpa using e2
  have hm := lvs_mem hR hT 1 ex_1 _ (List.mem_of_getElem? hp)
  have hm2 := lvs_mem hR hT 1 ex_1 _ (List.mem_of_getElem? hq)
  have hu := ex_up hT hm.1 e3
  have e5 : 2 * (p / 2) = p := by omega
  have hd := dec_at2 hp hq
  refine ⟨⟨hu.2, by rw [e5]; exact hm.2, by rw [e5]; exact hm2.2, by rw [e5]; omega, by rw [e5]; omega⟩, ?_, hd.2⟩
  rw [e5]
  exact hd.1
/-- what can be joined lies side by side -/
theorem joi_pr (hR : RuleOK S L R rc top) (hT : TOK top S L R sp rq) (h : joi sp rq x) : ∃ j, j + 1 < (lvs sp 1).length ∧ prB (lvs sp 1) j = true ∧ (lvs sp 1)[j]? = some (2 * x) ∧ (lvs sp 1)[j + 1]? = some (2 * x + 1) := by
  obtain ⟨l1, l2, -, e⟩ := lvs_join hR hT h
  have hx := (hT.1 x h.1).1
  have e1 : (lvs sp 1)[l1.length]? = some (2 * x) := by rw [e, List.getElem?_append_right (Nat.le_refl _), Nat.sub_self]; rfl
  have e2 : (lvs sp 1)[l1.length + 1]? = some (2 * x + 1) := by rw [e, List.getElem?_append_right (by omega), show l1.length + 1 - l1.length = 1 by omega]; rfl
  refine ⟨l1.length, by rw [e]; simp, ?_, e1, e2⟩
  unfold prB
  rw [e1, e2]
  show (decide (2 ≤ 2 * x) && (decide (2 * x % 2 = 0) && decide (2 * x + 1 = 2 * x + 1))) = true
  rw [decide_eq_true (by omega : 2 ≤ 2 * x), decide_eq_true (by omega : 2 * x % 2 = 0), decide_eq_true rfl]
  rfl
end PureN
