/-! Walks along the row. -/
def plc : List Nat → Nat → Nat
  | [], _ => 0
  | a :: l, b => if a = b then 0 else plc l b + 1
section PureQ
variable {top : Nat} {S L R : Nat → Nat} {rc : Nat → Bool} {sp sp0 : Nat → Bool} {rq nd : Nat → Nat} {l l1 l2 : List Nat} {i p q x w : Nat}
theorem take_s (h : l[i]? = some p) : l.take (i + 1) = l.take i ++ [p] := by rw [List.take_add_one, h]; rfl
theorem take_all (h : l.length ≤ i) : l.take i = l := List.take_of_length_le h
theorem prB_cg {l' : List Nat} {j : Nat} (h1 : l'[j]? = l[j]?) (h2 : l'[j + 1]? = l[j + 1]?) : prB l' j = prB l j := by unfold prB; rw [h1, h2]
/-- no free buddies side by side up to here -/
def noP (rq : Nat → Nat) (l : List Nat) (i : Nat) : Prop := ∀ j p q, j < i → prB l j = true → l[j]? = some p → l[j + 1]? = some q → 0 < rq p ∨ 0 < rq q
theorem noP_0 : noP rq l 0 := fun j p q h => absurd h (Nat.not_lt_zero _)
theorem noP_s (h : noP rq l i) (hs : ∀ p q, prB l i = true → l[i]? = some p → l[i + 1]? = some q → 0 < rq p ∨ 0 < rq q) : noP rq l (i + 1) := fun j p q hj h1 h2 h3 => by
  by_cases e : j = i
  · subst e; exact hs p q h1 h2 h3
  · exact h j p q (by omega) h1 h2 h3
theorem noP_j (h : noP rq (l1 ++ 2 * x :: (2 * x + 1) :: l2) l1.length) : noP rq (l1 ++ x :: l2) (l1.length - 1) := fun j p q hj h1 h2 h3 => by
  have e1 : (l1 ++ x :: l2)[j]? = (l1 ++ 2 * x :: (2 * x + 1) :: l2)[j]? := by rw [List.getElem?_append_left (by omega), List.getElem?_append_left (by omega)]
  have e2 : (l1 ++ x :: l2)[j + 1]? = (l1 ++ 2 * x :: (2 * x + 1) :: l2)[j + 1]? := by rw [List.getElem?_append_left (by omega), List.getElem?_append_left (by omega)]
  rw [prB_cg e1 e2] at h1
  exact h j p q (by omega) h1 (by rw [← e1]; exact h2) (by rw [← e2]; exact h3)
theorem noP_e (hR : RuleOK S L R rc top) (hT : TOK top S L R sp rq) (h : noP rq (lvs sp 1) i) (hi : (lvs sp 1).length ≤ i) : jal sp rq = sp := by
  refine jal_end hR hT (fun x hx => ?_)
  obtain ⟨j, h1, h2, h3, h4⟩ := joi_pr hR hT hx
  rcases h j _ _ (by omega) h2 h3 h4 with q | q
  · rw [hx.2.2.2.1] at q; omega
  · rw [hx.2.2.2.2] at q; omega
theorem plc_at : ∀ {l : List Nat} {i p : Nat}, l.Nodup → l[i]? = some p → plc l p = i
  | [], i, p, _, h => absurd h (by simp)
  | a :: l, i, p, hn, h => by
    rw [List.nodup_cons] at hn
    cases i with
    | zero =>
      have e : a = p := by simpa using h
      rw [plc, if_pos e]
    | succ i =>
      rw [List.getElem?_cons_succ] at h
      have hne : ¬ a = p := fun e => hn.1 (by rw [e]; exact List.mem_of_getElem? h)
      rw [plc, if_neg hne, plc_at hn.2 h]
/-- the best so far, by its place -/
def bsA (l : List Nat) (b i : Nat) (v : Int32) : Prop := (b = 0 ∧ v = -1) ∨ (b ≠ 0 ∧ ∃ j, j < i ∧ l[j]? = some b ∧ v = nI j)
theorem bst_s {cl : Nat → Nat} (h : l[i]? = some p) : bst S cl rq w (l.take (i + 1)) = bstep S cl rq w (bst S cl rq w (l.take i)) p := by
  unfold bst
  rw [take_s h, List.foldl_append]
  rfl
theorem bstep_y {cl : Nat → Nat} {b : Nat} (h0 : ¬ 0 < rq p) (h1 : w ≤ S (cl p)) (h2 : b = 0 ∨ S (cl p) < S (cl b)) : bstep S cl rq w b p = p := by
  unfold bstep fit
  rw [if_pos]
  rw [decide_eq_true (by omega : rq p = 0), decide_eq_true h1]
  rcases h2 with h | h
  · rw [decide_eq_true h]; rfl
  · rw [decide_eq_true h, Bool.or_true]; rfl
theorem bstep_n {cl : Nat → Nat} {b : Nat} (h : 0 < rq p ∨ ¬ w ≤ S (cl p) ∨ (b ≠ 0 ∧ ¬ S (cl p) < S (cl b))) : bstep S cl rq w b p = b := by
  unfold bstep fit
  rw [if_neg]
  intro q
  simp only [Bool.and_eq_true, Bool.or_eq_true, decide_eq_true_eq] at q
  omega
theorem bsA_k {b : Nat} {v : Int32} (h : bsA l b i v) : bsA l b (i + 1) v := by
  rcases h with h | ⟨h0, j, h1, h2, h3⟩
  · exact Or.inl h
  · exact Or.inr ⟨h0, j, by omega, h2, h3⟩
theorem bsA_v {b : Nat} {v : Int32} (hn : l.Nodup) (h : bsA l b i v) : v = if b = 0 then -1 else nI (plc l b) := by
  rcases h with h | ⟨h0, j, h1, h2, h3⟩
  · rw [if_pos h.1]; exact h.2
  · rw [if_neg h0, plc_at hn h2]; exact h3
end PureQ
