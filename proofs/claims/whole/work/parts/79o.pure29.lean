/-! Replaying: lengths. -/
section PureRp
variable {top : Nat} {S L R kp : Nat → Nat} {rc : Nat → Bool} {scr : Nat → Int32}
theorem rpOne_n (v : Int32) (i : Nat) (z : (Nat → Bool) × (Nat → Nat) × (Nat → Nat) × Nat × Nat × Nat × Nat × Nat × Nat) : z.2.2.2.2.2.1 ≤ (rpOne top S L R kp v i z).2.2.2.2.2.2.1 := by
  unfold rpOne
  split
  · split
    · exact Nat.le_refl _
    · exact (dbl_le _ _).1
  · split
    · exact Nat.le_refl _
    · split
      · exact Nat.le_refl _
      · exact Nat.le_refl _
theorem rpN_n : ∀ (k i : Nat) (z : (Nat → Bool) × (Nat → Nat) × (Nat → Nat) × Nat × Nat × Nat × Nat × Nat × Nat), z.2.2.2.2.2.1 ≤ (rpN top S L R kp scr k i z).2.2.2.2.2.2.1
  | 0, i, z => Nat.le_refl _
  | k + 1, i, z => by
    have h1 := rpOne_n (top := top) (S := S) (L := L) (R := R) (kp := kp) (scr i) i z
    rw [rpN]
    split
    · exact Nat.le_trans h1 (rpN_n k (i + 1) _)
    · exact h1
theorem rpN_s {k i : Nat} {z : (Nat → Bool) × (Nat → Nat) × (Nat → Nat) × Nat × Nat × Nat × Nat × Nat × Nat} {r1 : Bool × (Nat → Bool) × (Nat → Nat) × (Nat → Nat) × Nat × Nat × Nat × Nat × Nat × Nat} (hk : 0 < k) (h : rpOne top S L R kp (scr i) i z = r1) : rpN top S L R kp scr k i z = if r1.1 = true then rpN top S L R kp scr (k - 1) (i + 1) r1.2 else (1 + i, r1.2) := by
  obtain ⟨j, rfl⟩ : ∃ j, k = j + 1 := ⟨k - 1, by omega⟩
  rw [rpN, h, Nat.add_sub_cancel]
theorem rpOne_b (hR : RuleOK S L R rc top) {v : Int32} {i : Nat} {z : (Nat → Bool) × (Nat → Nat) × (Nat → Nat) × Nat × Nat × Nat × Nat × Nat × Nat} (hT : TOK top S L R (rpOne top S L R kp v i z).2.1 (rpOne top S L R kp v i z).2.2.1) (h : z.2.2.2.2.2.1 ≤ 4194304 ∧ z.2.2.2.2.2.2.1 ≤ 2097152) :
    (rpOne top S L R kp v i z).2.2.2.2.2.2.1 ≤ 4194304 ∧ (rpOne top S L R kp v i z).2.2.2.2.2.2.2.1 ≤ 2097152 := by
  unfold rpOne at hT ⊢
  by_cases c1 : 0 < v
  · rw [if_pos c1] at hT ⊢
    by_cases c2 : 256 ≤ nB z.1 z.2.1
    · rw [if_pos c2]; exact h
    · rw [if_neg c2] at hT ⊢
      exact gn_b (sp' := (gC S L R (cls top L R) z.2.1 v.toNatClampNeg z.1).1) hR hT h
  · rw [if_neg c1]
    by_cases c2 : v = 0
    · rw [if_pos c2]; exact h
    · rw [if_neg c2]
      split
      · exact h
      · exact h
end PureRp
theorem fill_256 {f : Nat → Nat} (h : ∀ j, 256 ≤ j → f j = 0) : (fun j => if j < 256 then nI 0 else nI (f j)) = fun j => nI ((fun _ => 0) j) := by
  funext j
  split
  · rfl
  · rw [h j (by omega)]
