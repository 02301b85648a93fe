/-! The reference's row of nodes. -/
def wrd (top : Nat) (S L R rq : Nat → Nat) (p : Nat) : Nat := enc (adr top S L R p) (if 0 < rq p then 1 else 0) (cls top L R p) (dep p) (p % 2 ^ dep p)
def nW (top : Nat) (S L R rq nd : Nat → Nat) (l : List Nat) : Prop := ∀ i p, l[i]? = some p → nd i = wrd top S L R rq p
section PureM
variable {top : Nat} {S L R : Nat → Nat} {rc : Nat → Bool} {sp : Nat → Bool} {rq nd : Nat → Nat} {l l1 l2 : List Nat} {i p q x : Nat}
theorem sid_b (hR : RuleOK S L R rc top) (hT : TOK top S L R sp rq) (hx : ex sp p) : dep p ≤ 23 ∧ p % 2 ^ dep p < 8388608 ∧ p = 2 ^ dep p + p % 2 ^ dep p := by
  have hd := dep_23 hR hT p hx
  have h1 := dep_pow (dep p) p (ex_pos hx) rfl
  have h2 : p % 2 ^ dep p < 2 ^ dep p := Nat.mod_lt _ (Nat.two_pow_pos _)
  have h3 : 2 ^ dep p ≤ 2 ^ 23 := Nat.pow_le_pow_right (by decide) (by omega)
  refine ⟨by omega, by omega, ?_⟩
  have h4 : p / 2 ^ dep p = 1 := by
    apply Nat.div_eq_of_lt_le
    · omega
    · rw [Nat.pow_succ] at h1; omega
  have := Nat.div_add_mod p (2 ^ dep p)
  rw [h4] at this
  omega
theorem wrd_b (hR : RuleOK S L R rc top) (hT : TOK top S L R sp rq) (hx : ex sp p) : wrd top S L R rq p < 2 ^ 63 ∧ wrd top S L R rq p / 2 ^ 36 = adr top S L R p ∧ (wrd top S L R rq p / 2 ^ 35 &&& 1 = 1 ↔ 0 < rq p) ∧ wrd top S L R rq p / 2 ^ 30 &&& 31 = cls top L R p ∧ wrd top S L R rq p / 2 ^ 25 &&& 31 = dep p ∧ wrd top S L R rq p &&& 33554431 = p % 2 ^ dep p := by
  have hs := sid_b hR hT hx
  have hc := cls_ok hR hT hx
  have ha := adr_lt hR hT hx
  have hv : (if 0 < rq p then 1 else 0) < 2 := by split <;> omega
  unfold wrd
  refine ⟨enc_lt ha hv (by omega) (by omega) (by omega), enc_adr hv (by omega) (by omega) (by omega), ?_, ?_, ?_, ?_⟩
  · rw [Nat.and_one_is_mod, enc_live hv (by omega) (by omega) (by omega)]
    by_cases c : 0 < rq p
    · rw [if_pos c]; exact ⟨fun _ => c, fun _ => rfl⟩
    · rw [if_neg c]; exact ⟨fun h => absurd h (by decide), fun h => absurd h c⟩
  · rw [show (31 : Nat) = 2 ^ 5 - 1 by decide, Nat.and_two_pow_sub_one_eq_mod]
    exact enc_cls (by omega) (by omega) (by omega)
  · rw [show (31 : Nat) = 2 ^ 5 - 1 by decide, Nat.and_two_pow_sub_one_eq_mod]
    exact enc_dep (by omega) (by omega)
  · rw [show (33554431 : Nat) = 2 ^ 25 - 1 by decide, Nat.and_two_pow_sub_one_eq_mod]
    exact enc_sid (by omega)
/-- neighbours in the row that are buddies -/
theorem pair_iff (hR : RuleOK S L R rc top) (hT : TOK top S L R sp rq) (hx : ex sp p) (hy : ex sp q) : (0 < dep p ∧ dep p = dep q ∧ p % 2 ^ dep p % 2 = 0 ∧ p % 2 ^ dep p + 1 = q % 2 ^ dep q) ↔ (2 ≤ p ∧ p % 2 = 0 ∧ q = p + 1) := by
  have hp := (sid_b hR hT hx).2.2
  have hq := (sid_b hR hT hy).2.2
  constructor
  · rintro ⟨h1, h2, h3, h4⟩
    have e : 2 ^ dep p % 2 = 0 := by
      obtain ⟨d, hd⟩ : ∃ d, dep p = d + 1 := ⟨dep p - 1, by omega⟩
      rw [hd, Nat.pow_succ]; omega
    have h5 : 2 ≤ 2 ^ dep p := by
      obtain ⟨d, hd⟩ : ∃ d, dep p = d + 1 := ⟨dep p - 1, by omega⟩
      have := Nat.two_pow_pos d
      rw [hd, Nat.pow_succ]; omega
    rw [← h2] at hq h4
    exact ⟨by omega, by omega, by omega⟩
  · rintro ⟨h1, h2, h3⟩
    obtain ⟨y, rfl⟩ : ∃ y, p = 2 * y := ⟨p / 2, by omega⟩
    have hy1 : 1 ≤ y := by omega
    subst h3
    have e1 := dep_e hy1
    have e2 := dep_o hy1
    rw [e1] at hp ⊢
    rw [e2] at hq ⊢
    have e : 2 ^ (dep y + 1) % 2 = 0 := by rw [Nat.pow_succ]; omega
    exact ⟨by omega, rfl, by omega, by omega⟩
theorem nW_at (h : nW top S L R rq nd l) (hi : i < l.length) : nd i = wrd top S L R rq l[i] := h i _ (List.getElem?_eq_getElem hi)
theorem nW_join (h : nW top S L R rq nd (l1 ++ 2 * x :: (2 * x + 1) :: l2)) {nd' : Nat → Nat} (h1 : ∀ j, j < l1.length → nd' j = nd j) (h2 : nd' l1.length = wrd top S L R rq x) (h3 : ∀ j, l1.length < j → j < l1.length + 1 + l2.length → nd' j = nd (j + 1)) : nW top S L R rq nd' (l1 ++ x :: l2) := by
  intro i p hp
  rcases Nat.lt_trichotomy i l1.length with c | c | c
  · rw [List.getElem?_append_left c] at hp
    rw [h1 i c]
    exact h i p (by rw [List.getElem?_append_left c]; exact hp)
  · subst c
    rw [List.getElem?_append_right (Nat.le_refl _), Nat.sub_self] at hp
    have : x = p := by simpa using hp
    rw [h2, this]
  · rw [List.getElem?_append_right (by omega)] at hp
    obtain ⟨k, hk⟩ : ∃ k, i - l1.length = k + 1 := ⟨i - l1.length - 1, by omega⟩
    rw [hk, List.getElem?_cons_succ] at hp
    have hlt : k < l2.length := by
      apply Classical.byContradiction
      intro e
      rw [List.getElem?_eq_none (by omega)] at hp
      exact absurd hp (by simp)
    rw [h3 i c (by omega)]
    refine h (i + 1) p ?_
    rw [List.getElem?_append_right (by omega), show i + 1 - l1.length = k + 1 + 1 by omega, List.getElem?_cons_succ, List.getElem?_cons_succ]
    exact hp
end PureM
