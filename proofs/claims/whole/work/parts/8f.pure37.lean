/-! The reference's reads. -/
section PureV
variable {top : Nat} {S L R : Nat → Nat} {rc : Nat → Bool} {sp : Nat → Bool} {rq nd : Nat → Nat} {l : List Nat} {i p k w y : Nat}
theorem gQ_ok (hR : RuleOK S L R rc top) (hT : TOK top S L R sp rq) (hw : 1 ≤ w) (h : gB S (cls top L R) rq w sp ≠ 0) : TOK top S L R (gC S L R (cls top L R) rq w sp).1 (gQ S L R (cls top L R) rq w sp) := by
  have hk := gC_ok hR hT hw h
  rw [(gC_s h).2]
  exact TOK_set hk.1 hk.2.1 hk.2.2.1 hk.2.2.2.2.1
/-- the first and the last free node of a class so far -/
def nlo (ad' cl rq : Nat → Nat) (k : Nat) (l : List Nat) : Int32 := match l.find? (fun q => decide (rq q = 0) && decide (cl q = k)) with
  | some q => nI (ad' q)
  | none => -1
theorem nlo_nil {ad' cl rq : Nat → Nat} : nlo ad' cl rq k [] = -1 := rfl
theorem nlo_skip {ad' cl rq : Nat → Nat} (h : ¬ (rq p = 0 ∧ cl p = k)) : nlo ad' cl rq k (l ++ [p]) = nlo ad' cl rq k l ∧ nlo ad' cl rq k (l ++ [p]).reverse = nlo ad' cl rq k l.reverse := by
  have hf : (decide (rq p = 0) && decide (cl p = k)) = false := by
    rw [Bool.eq_false_iff]; intro q; rw [Bool.and_eq_true, decide_eq_true_eq, decide_eq_true_eq] at q; exact h q
  unfold nlo
  rw [List.reverse_append, List.find?_append]
  refine ⟨?_, ?_⟩
  · rw [List.find?_cons_of_neg (by rw [hf]; decide), List.find?_nil, Option.or_none]
  · rw [List.reverse_cons, List.reverse_nil, List.nil_append, List.singleton_append, List.find?_cons_of_neg (by rw [hf]; decide)]
theorem nlo_add {ad' cl rq : Nat → Nat} (h : rq p = 0 ∧ cl p = k) : nlo ad' cl rq k (l ++ [p]).reverse = nI (ad' p) ∧ (nlo ad' cl rq k (l ++ [p]) = match l.find? (fun q => decide (rq q = 0) && decide (cl q = k)) with | some q => nI (ad' q) | none => nI (ad' p)) := by
  have hf : (decide (rq p = 0) && decide (cl p = k)) = true := by rw [decide_eq_true h.1, decide_eq_true h.2]; rfl
  unfold nlo
  refine ⟨?_, ?_⟩
  · rw [List.reverse_append, List.reverse_cons, List.reverse_nil, List.nil_append, List.singleton_append, List.find?_cons_of_pos (by exact hf)]
  · rw [List.find?_append]
    cases l.find? (fun q => decide (rq q = 0) && decide (cl q = k)) with
    | some q => rfl
    | none => rw [Option.none_or, List.find?_cons_of_pos (by exact hf)]
theorem nlo_lo {ad' cl rq : Nat → Nat} (hl : ∀ q ∈ l, ad' q < 2 ^ 31) (h : rq p = 0 ∧ cl p = k) : (nlo ad' cl rq k l < 0 → nlo ad' cl rq k (l ++ [p]) = nI (ad' p)) ∧ (¬ nlo ad' cl rq k l < 0 → nlo ad' cl rq k (l ++ [p]) = nlo ad' cl rq k l) := by
  rw [(nlo_add h).2]
  unfold nlo
  cases e : l.find? (fun q => decide (rq q = 0) && decide (cl q = k)) with
  | some q => exact ⟨fun q9 => absurd q9 (nI_pos (hl q (List.mem_of_find?_eq_some e))), fun _ => rfl⟩
  | none => exact ⟨fun _ => rfl, fun q9 => absurd (show (-1 : Int32) < 0 by decide) q9⟩
theorem nlo_fs (hR : RuleOK S L R rc top) (hT : TOK top S L R sp rq) (hl : ∀ q ∈ l, q ∈ lvs sp 1) : nlo (adr top S L R) (cls top L R) rq k l = if fsO (cls top L R) rq k l = 0 then -1 else nI (adr top S L R (fsO (cls top L R) rq k l)) := by
  unfold nlo fsO
  cases e : l.find? (fun q => decide (rq q = 0) && decide (cls top L R q = k)) with
  | none => rfl
  | some q =>
    have := ex_pos (lvs_mem hR hT 1 ex_1 q (hl q (List.mem_of_find?_eq_some e))).1
    show nI _ = if q = 0 then -1 else nI (adr top S L R q)
    rw [if_neg (by omega)]
theorem side_r {d dd : Nat} (h : dd < d) : p % 2 ^ d / 2 ^ (d - 1 - dd) &&& 1 = p / 2 ^ (d - 1 - dd) % 2 := sid_bit (by omega)
end PureV
