/-! What a give leaves. -/
section PureX
variable {top : Nat} {S L R : Nat → Nat} {rc : Nat → Bool} {sp : Nat → Bool} {rq nu : Nat → Nat} {mk n spare : Nat} {pa ch kd ad ra su un fo kp bs : Nat → Nat} {bl rd hd w : Nat}
theorem jal_ok (hR : RuleOK S L R rc top) (hT : TOK top S L R sp rq) : TOK top S L R (jal sp rq) rq := by
  have up : ∀ p, ex sp p → lvb sp rq p = true → ex (jal sp rq) p := fun p hx hl => by
    rcases hx with e | ⟨h2, hs⟩
    · exact Or.inl e
    · refine Or.inr ⟨h2, ?_⟩
      show (sp (p / 2) && lvb sp rq (p / 2)) = true
      rw [hs, Bool.true_and, lvb_s hR hT hs]
      rcases Nat.mod_two_eq_zero_or_one p with e | e
      · rw [show 2 * (p / 2) = p by omega, hl, Bool.true_or]
      · rw [show 2 * (p / 2) + 1 = p by omega, hl, Bool.or_true]
  refine ⟨fun p h => ?_, fun p h => ?_⟩
  · have h : (sp p && lvb sp rq p) = true := h
    rw [Bool.and_eq_true] at h
    have h1 := hT.1 p h.1
    exact ⟨h1.1, up p h1.2.1 h.2, h1.2.2⟩
  · have h1 := hT.2 p h
    refine ⟨up p h1.1 ?_, ?_, h1.2.2⟩
    · rw [lvb_n h1.2.1]; exact decide_eq_true h
    · show (sp p && lvb sp rq p) = false
      rw [h1.2.1, Bool.false_and]
theorem gS1_ok (hR : RuleOK S L R rc top) (hT : TOK top S L R sp rq) : TOK top S L R (gS1 S (cls top L R) rq w sp) rq := by
  unfold gS1
  split
  · exact jal_ok hR hT
  · exact hT
theorem gC_0 (h : gB S (cls top L R) rq w sp = 0) : (gC S L R (cls top L R) rq w sp).2.1 = 0 := by rw [(gC_n h).1]
theorem gC_ok (hR : RuleOK S L R rc top) (hT : TOK top S L R sp rq) (hw : 1 ≤ w) (h : gB S (cls top L R) rq w sp ≠ 0) :
    TOK top S L R (gC S L R (cls top L R) rq w sp).1 rq ∧ ex (gC S L R (cls top L R) rq w sp).1 (gC S L R (cls top L R) rq w sp).2.1 ∧ (gC S L R (cls top L R) rq w sp).1 (gC S L R (cls top L R) rq w sp).2.1 = false ∧ rq (gC S L R (cls top L R) rq w sp).2.1 = 0 ∧ w ≤ S (cls top L R (gC S L R (cls top L R) rq w sp).2.1) ∧ (∀ p, ex (gS1 S (cls top L R) rq w sp) p → ex (gC S L R (cls top L R) rq w sp).1 p) ∧ (lvs (gC S L R (cls top L R) rq w sp).1 1).length = (lvs (gS1 S (cls top L R) rq w sp) 1).length + (gC S L R (cls top L R) rq w sp).2.2 ∧ (gC S L R (cls top L R) rq w sp).2.2 ≤ 24 := by
  have h1 := gS1_ok (w := w) hR hT
  have h2 := bst_leaf (w := w) hR h1 h
  have h3 := aCv_ok hR hw 24 (gS1 S (cls top L R) rq w sp) (gB S (cls top L R) rq w sp) 0 h1 h2.1 h2.2.1 h2.2.2.1
  rw [← (gC_s h).1] at h3
  exact ⟨h3.1, h3.2.1, h3.2.2.1, h3.2.2.2.1, h3.2.2.2.2.2.2.2.2 h2.2.2.2, h3.2.2.2.2.1, by omega, by omega⟩
theorem gC_ex (hR : RuleOK S L R rc top) (hT : TOK top S L R sp rq) (hw : 1 ≤ w) (h : (gC S L R (cls top L R) rq w sp).2.1 ≠ 0) : ex (gC S L R (cls top L R) rq w sp).1 (gC S L R (cls top L R) rq w sp).2.1 :=
  (gC_ok hR hT hw (fun e => h (gC_0 e))).2.1
theorem gC_ne (hR : RuleOK S L R rc top) (hT : TOK top S L R sp rq) (hw : 1 ≤ w) : (gC S L R (cls top L R) rq w sp).2.1 = 0 ↔ gB S (cls top L R) rq w sp = 0 := by
  constructor
  · intro h
    apply Classical.byContradiction
    intro e
    have := ex_pos (gC_ok hR hT hw e).2.1
    omega
  · exact gC_0
theorem dbl_lt (m : Nat) (h : n < 2 ^ 24) : dbl n m < 2 ^ 25 := by have := (dbl_le n m).2; omega
end PureX
