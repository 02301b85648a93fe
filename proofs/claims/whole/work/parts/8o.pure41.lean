/-! The stack of what waits. -/
section PureK
variable {top : Nat} {S L R : Nat → Nat} {rc : Nat → Bool} {sp : Nat → Bool} {rq tvv cl : Nat → Nat} {w : Nat}
theorem mrg_len : ∀ (st : List Nat) (p : Nat), (mrg st p).1.length ≤ st.length
  | [], p => Nat.le_refl _
  | t :: st, p => by
    rw [mrg]
    split
    · have := mrg_len st (p / 2); simp; omega
    · exact Nat.le_refl _
theorem sst_len (z : List Nat × Nat × Nat × Nat) (p : Nat) : (sst S cl rq tvv w z p).1.length ≤ z.1.length + 1 := by
  unfold sst
  split
  · simp
  · unfold nst
    split
    · simp
    · have := mrg_len z.1 p
      simp; omega
theorem stk_len (hR : RuleOK S L R rc top) (hT : TOK top S L R sp rq) : ∀ (m p : Nat), ex sp p → (lvs sp p).length ≤ m → ∀ (z : List Nat × Nat × Nat × Nat) (i : Nat), (((lvs sp p).take i).foldl (sst S cl rq tvv w) z).1.length ≤ z.1.length + (24 - dep p) := by
  intro m
  induction m with
  | zero => intro p hx h; have := (nl_le hR hT p hx).1; omega
  | succ m ih =>
    intro p hx h z i
    have hd := (sid_b hR hT hx).1
    by_cases c : sp p = true
    · have hp := ex_pos hx
      have k1 : ex sp (2 * p) := Or.inr ⟨by omega, by rw [show 2 * p / 2 = p by omega]; exact c⟩
      have k2 : ex sp (2 * p + 1) := Or.inr ⟨by omega, by rw [show (2 * p + 1) / 2 = p by omega]; exact c⟩
      have e := lvs_s hR hT c
      have n1 := (nl_le hR hT _ k1).1
      have n2 := (nl_le hR hT _ k2).1
      have d1 := dep_e hp
      have d2 := dep_o hp
      have d3 := (sid_b hR hT k1).1
      rw [e, List.length_append] at h
      rw [e, List.take_append, List.foldl_append]
      by_cases ci : i ≤ (lvs sp (2 * p)).length
      · rw [show i - (lvs sp (2 * p)).length = 0 by omega, List.take_zero, List.foldl_nil]
        have := ih (2 * p) k1 (by omega) z i
        omega
      · rw [List.take_of_length_le (show (lvs sp (2 * p)).length ≤ i by omega)]
        have h1 : ((lvs sp (2 * p)).foldl (sst S cl rq tvv w) z).1.length ≤ z.1.length + 1 := by
          cases cs : sbl S cl rq sp w (2 * p)
          · rw [nst_all hR hT _ (2 * p) k1 (Nat.le_refl _) cs]
            unfold nst
            split
            · simp
            · have := mrg_len z.1 (2 * p); simp; omega
          · rw [sst_all hR hT _ (2 * p) k1 (Nat.le_refl _) cs]; simp
        have h2 := ih (2 * p + 1) k2 (by omega) ((lvs sp (2 * p)).foldl (sst S cl rq tvv w) z) (i - (lvs sp (2 * p)).length)
        omega
    · have c : sp p = false := by simpa using c
      rw [lvs_n c]
      cases i with
      | zero => simp
      | succ i =>
        rw [List.take_of_length_le (by simp)]
        show (sst S cl rq tvv w z p).1.length ≤ _
        have := sst_len (S := S) (cl := cl) (rq := rq) (tvv := tvv) (w := w) z p
        omega
theorem mrg_ex (hT : TOK top S L R sp rq) : ∀ (st : List Nat) (p : Nat), ex sp p → (∀ t ∈ st, ex sp t) → ex sp (mrg st p).2 ∧ ∀ t ∈ (mrg st p).1, ex sp t
  | [], p, hp, hs => ⟨hp, hs⟩
  | t :: st, p, hp, hs => by
    rw [mrg]
    split
    · rename_i c
      exact mrg_ex hT st (p / 2) (ex_up hT hp c.1).1 (fun t ht => hs t (List.mem_cons_of_mem _ ht))
    · exact ⟨hp, hs⟩
/-- the last that waits is the buddy on the left -/
theorem top_iff (hR : RuleOK S L R rc top) (hT : TOK top S L R sp rq) {t p : Nat} (ht : ex sp t) (hp : ex sp p) (h2 : 2 ≤ p ∧ p % 2 = 1) : (dep t = dep p ∧ t % 2 ^ dep t = p % 2 ^ dep p - 1) ↔ t + 1 = p := by
  have a := (sid_b hR hT ht).2.2
  have b := (sid_b hR hT hp).2.2
  constructor
  · rintro ⟨e1, e2⟩
    rw [e1] at a e2
    have hd : 2 ^ dep p % 2 = 0 := by
      have := dep_h h2.1
      rw [this, Nat.pow_succ]; omega
    omega
  · intro e
    obtain ⟨y, rfl⟩ : ∃ y, p = 2 * y + 1 := ⟨p / 2, by omega⟩
    obtain rfl : t = 2 * y := by omega
    have hy : 1 ≤ y := by omega
    have e1 := dep_e hy
    have e2 := dep_o hy
    have e3 := sid_kid hy
    exact ⟨by omega, by rw [e3.1, e3.2]; omega⟩
theorem odd_iff (hR : RuleOK S L R rc top) (hT : TOK top S L R sp rq) {p : Nat} (hp : ex sp p) : p % 2 ^ dep p % 2 = 1 ↔ (2 ≤ p ∧ p % 2 = 1) := by
  have b := (sid_b hR hT hp).2.2
  have h1 := ex_pos hp
  by_cases c : 2 ≤ p
  · have hd : 2 ^ dep p % 2 = 0 := by
      have := dep_h c
      rw [this, Nat.pow_succ]; omega
    omega
  · obtain rfl : p = 1 := by omega
    rw [dep_1]; simp
theorem half_sd (hR : RuleOK S L R rc top) (hT : TOK top S L R sp rq) {p : Nat} (hp : ex sp p) (h2 : 2 ≤ p) : dep (p / 2) = dep p - 1 ∧ (p / 2) % 2 ^ dep (p / 2) = p % 2 ^ dep p / 2 := by
  have h := dep_h h2
  have hy : 1 ≤ p / 2 := by omega
  have e3 := sid_kid hy
  refine ⟨by omega, ?_⟩
  rcases Nat.mod_two_eq_zero_or_one p with e | e
  · rw [show 2 * (p / 2) = p by omega] at e3; rw [e3.1]; omega
  · rw [show 2 * (p / 2) + 1 = p by omega] at e3; rw [e3.2]; omega
theorem te_b {l : List Nat} {t : Nat × Nat × Nat} (hR : RuleOK S L R rc top) (hT : TOK top S L R sp rq) (hl : ∀ p ∈ l, ex sp p) (h : t.2.1 ≤ 4194304) : (l.foldl (te1 S (cls top L R) tvv w) t).2.1 ≤ 4194304 := by
  induction l generalizing t with
  | nil => exact h
  | cons a l ih =>
    rw [List.foldl_cons]
    refine ih (fun p hp => hl p (List.mem_cons_of_mem _ hp)) ?_
    have := (cls_ok hR hT (hl a List.mem_cons_self)).2.2.2.2
    exact Nat.max_le.mpr ⟨h, this⟩
/-- the rows of what waits -/
def stA (sp : Nat → Bool) (st : List Nat) (wp ws0 : Nat → Nat) : Prop := ∀ q p0, st.reverse[q]? = some p0 → wp q = dep p0 ∧ ws0 q = p0 % 2 ^ dep p0 ∧ ex sp p0
theorem stA_ex {st : List Nat} {wp ws0 : Nat → Nat} (h : stA sp st wp ws0) : ∀ t ∈ st, ex sp t := fun t ht => by
  obtain ⟨q, hq⟩ := List.getElem?_of_mem (List.mem_reverse.mpr ht)
  exact (h q t hq).2.2
theorem stA_top {t : Nat} {st : List Nat} {wp ws0 : Nat → Nat} (h : stA sp (t :: st) wp ws0) : wp st.length = dep t ∧ ws0 st.length = t % 2 ^ dep t ∧ ex sp t := by
  refine h st.length t ?_
  rw [List.reverse_cons, List.getElem?_append_right (by simp), List.length_reverse, Nat.sub_self]
  rfl
theorem stA_pop {t : Nat} {st : List Nat} {wp ws0 : Nat → Nat} (h : stA sp (t :: st) wp ws0) : stA sp st wp ws0 := fun q p0 hq => by
  refine h q p0 ?_
  have := at_lt hq
  rw [List.reverse_cons, List.getElem?_append_left this]
  exact hq
theorem stA_push {p : Nat} {st : List Nat} {wp ws0 : Nat → Nat} (h : stA sp st wp ws0) (hp : ex sp p) : stA sp (p :: st) (upN wp st.length (dep p)) (upN ws0 st.length (p % 2 ^ dep p)) := fun q p0 hq => by
  rw [List.reverse_cons] at hq
  by_cases c : q < st.length
  · rw [List.getElem?_append_left (by simpa using c)] at hq
    rw [upN_n _ _ (by omega), upN_n _ _ (by omega)]
    exact h q p0 hq
  · rw [List.getElem?_append_right (by simpa using c), List.length_reverse] at hq
    have hlt := at_lt hq
    have e : q = st.length := by simp at hlt; omega
    subst e
    rw [Nat.sub_self] at hq
    have e2 : p = p0 := by simpa using hq
    subst e2
    rw [upN_s, upN_s]
    exact ⟨rfl, rfl, hp⟩
theorem stA_nil {wp ws0 : Nat → Nat} : stA sp [] wp ws0 := fun q p0 hq => by simp at hq
theorem mrg_stop {st : List Nat} {p : Nat} (h : ¬ (2 ≤ p ∧ p % 2 = 1) ∨ st = [] ∨ ∃ t st', st = t :: st' ∧ ¬ t + 1 = p) : mrg st p = (st, p) := by
  cases st with
  | nil => rfl
  | cons t st =>
    rw [mrg, if_neg]
    rintro ⟨a, b, c⟩
    rcases h with h | h | ⟨t', st', e, h⟩
    · exact h ⟨a, b⟩
    · exact absurd h (by simp)
    · obtain ⟨rfl, rfl⟩ := List.cons.inj e; exact h c
theorem mrg_go {t p : Nat} {st : List Nat} (h : 2 ≤ p ∧ p % 2 = 1) (e : t + 1 = p) : mrg (t :: st) p = mrg st (p / 2) := by rw [mrg, if_pos ⟨h.1, h.2, e⟩]
end PureK
