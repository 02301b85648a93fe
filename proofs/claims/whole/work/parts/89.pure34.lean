/-! The reference's gives. -/
section PureS
variable {top : Nat} {S L R : Nat → Nat} {rc : Nat → Bool} {sp sp0 : Nat → Bool} {rq nd : Nat → Nat} {l l1 l2 : List Nat} {i p q x w d k : Nat}
theorem plc_mem : ∀ {l : List Nat} {p : Nat}, p ∈ l → l[plc l p]? = some p
  | [], p, h => absurd h List.not_mem_nil
  | a :: l, p, h => by
    by_cases e : a = p
    · rw [plc, if_pos e, e]; rfl
    · rw [plc, if_neg e, List.getElem?_cons_succ]
      exact plc_mem ((List.mem_cons.mp h).resolve_left (fun q => e q.symm))
theorem at_lt (h : l[i]? = some p) : i < l.length := by
  apply Classical.byContradiction
  intro e
  rw [List.getElem?_eq_none (by omega)] at h
  exact absurd h (by simp)
theorem nW_split (h : nW top S L R rq nd (l1 ++ x :: l2)) {nd' : Nat → Nat} (h1 : ∀ j, j < l1.length → nd' j = nd j) (h2 : nd' l1.length = wrd top S L R rq (2 * x)) (h3 : nd' (l1.length + 1) = wrd top S L R rq (2 * x + 1)) (h4 : ∀ j, l1.length + 1 < j → j < l1.length + 2 + l2.length → nd' j = nd (j - 1)) : nW top S L R rq nd' (l1 ++ 2 * x :: (2 * x + 1) :: l2) := by
  intro i p hp
  have hlt := at_lt hp
  rw [List.length_append, List.length_cons, List.length_cons] at hlt
  rcases Nat.lt_trichotomy i l1.length with c | c | c
  · rw [List.getElem?_append_left c] at hp
    rw [h1 i c]
    exact h i p (by rw [List.getElem?_append_left c]; exact hp)
  · subst c
    rw [List.getElem?_append_right (Nat.le_refl _), Nat.sub_self] at hp
    have : 2 * x = p := by simpa using hp
    rw [h2, this]
  · rw [List.getElem?_append_right (by omega)] at hp
    obtain ⟨k, hk⟩ : ∃ k, i - l1.length = k + 1 := ⟨i - l1.length - 1, by omega⟩
    rw [hk, List.getElem?_cons_succ] at hp
    cases k with
    | zero =>
      have e : i = l1.length + 1 := by omega
      have : 2 * x + 1 = p := by simpa using hp
      rw [e, h3, this]
    | succ k =>
      rw [List.getElem?_cons_succ] at hp
      rw [h4 i (by omega) (by omega)]
      refine h (i - 1) p ?_
      rw [List.getElem?_append_right (by omega), show i - 1 - l1.length = k + 1 by omega, List.getElem?_cons_succ]
      exact hp
theorem wrd_set (hp : p ≠ x) : wrd top S L R (upN rq x w) p = wrd top S L R rq p := by unfold wrd; rw [upN_n _ _ hp]
/-- a node's request is set -/
theorem nW_set (hn : l.Nodup) (h : nW top S L R rq nd l) (hi : l[i]? = some x) {nd' : Nat → Nat} (h1 : ∀ j, j ≠ i → nd' j = nd j) (h2 : nd' i = wrd top S L R (upN rq x w) x) : nW top S L R (upN rq x w) nd' l := by
  intro j p hp
  by_cases e : j = i
  · subst e
    rw [hi] at hp
    rw [h2, Option.some.inj hp]
  · have hne : p ≠ x := fun q => by
      subst q
      have a := plc_at hn hp
      have b := plc_at hn hi
      omega
    rw [h1 j e, wrd_set hne]
    exact h j p hp
theorem wrd_on (hR : RuleOK S L R rc top) (hT : TOK top S L R sp rq) (hx : ex sp x) (hr : rq x = 0) (hw : 1 ≤ w) : wrd top S L R rq x ||| 34359738368 = wrd top S L R (upN rq x w) x := by
  have hs := sid_b hR hT hx
  have hc := cls_ok hR hT hx
  unfold wrd
  rw [upN_s, if_neg (by omega), if_pos (by omega)]
  exact enc_on (by omega) (by omega) (by omega)
theorem nd_or (hR : RuleOK S L R rc top) (hT : TOK top S L R sp rq) (hx : ex sp x) (hr : rq x = 0) : enc (adr top S L R x) 0 (cls top L R x) (dep x) (x % 2 ^ dep x) = wrd top S L R rq x := by
  unfold wrd; rw [if_neg (by omega)]
theorem sid_kid {x : Nat} (h : 1 ≤ x) : (2 * x) % 2 ^ dep (2 * x) = 2 * (x % 2 ^ dep x) ∧ (2 * x + 1) % 2 ^ dep (2 * x + 1) = 2 * (x % 2 ^ dep x) + 1 := by
  have e1 : 2 * x % 2 ^ (dep x + 1) = 2 * (x % 2 ^ dep x) := by rw [Nat.pow_succ, Nat.mul_comm (2 ^ dep x) 2, Nat.mul_mod_mul_left]
  rw [dep_e h, dep_o h]
  refine ⟨e1, ?_⟩
  have h2 : 2 ^ (dep x + 1) = 2 * 2 ^ dep x := by rw [Nat.pow_succ, Nat.mul_comm]
  have h3 : x % 2 ^ dep x < 2 ^ dep x := Nat.mod_lt _ (Nat.two_pow_pos _)
  rw [h2] at e1 ⊢
  have h4 := Nat.div_add_mod x (2 ^ dep x)
  have h5 : 2 * x + 1 = 2 * 2 ^ dep x * (x / 2 ^ dep x) + (2 * (x % 2 ^ dep x) + 1) := by
    rw [Nat.mul_assoc]; omega
  rw [h5, Nat.mul_add_mod, Nat.mod_eq_of_lt (by omega)]
/-- a node that is split in the rule's way: it has sides -/
theorem cv_dep (hR : RuleOK S L R rc top) (hT : TOK top S L R sp rq) (hx : ex sp x) : dep x ≤ 23 := (sid_b hR hT hx).1
theorem kid_L (hR : RuleOK S L R rc top) (hrc : rc k = true) (hw : 1 ≤ w) : ((0 < L k ∧ w ≤ S (L k)) ↔ w ≤ S (L k)) ∧ ((0 < L k ∧ w ≤ S (R k)) ↔ w ≤ S (R k)) := by
  have h0 := hR.2.2.1
  rcases (hR.2.1 k hrc).2.2.2.2 with e | e
  · rw [e.1, e.2, h0]; omega
  · have := (hR.2.1 _ e.1).1
    omega
end PureS
