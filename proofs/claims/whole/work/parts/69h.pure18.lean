/-! The row of the classes, sorted by size. -/
def sO (S : Nat → Nat) (rc : Nat → Bool) (k nc : Nat) (bs : Nat → Nat) : Prop := nc < k ∧ (∀ i, i < nc → rc (bs i) = true ∧ bs i < k) ∧ (∀ j, rc j = true → j < k → ∃ i, i < nc ∧ bs i = j) ∧ ∀ i j, i ≤ j → j < nc → S (bs i) ≤ S (bs j)
def sIn (S : Nat → Nat) (k nc : Nat) (b0 : Nat → Nat) (at' : Nat) (bs : Nat → Nat) : Prop := at' ≤ nc ∧ (∀ i, i < at' → bs i = b0 i) ∧ (∀ i, at' < i → i ≤ nc → bs i = b0 (i - 1)) ∧ ∀ i, at' ≤ i → i < nc → S k < S (b0 i)
section PureS
variable {top : Nat} {S L R : Nat → Nat} {rc : Nat → Bool} {k nc a : Nat} {bs b0 : Nat → Nat}
theorem sO_1 (hR : RuleOK S L R rc top) : sO S rc 1 0 bs := by
  refine ⟨by decide, fun i hi => absurd hi (Nat.not_lt_zero _), fun j hj h => ?_, fun i j _ hj => absurd hj (Nat.not_lt_zero _)⟩
  have := (hR.2.1 j hj).1
  omega
theorem sO_end (hR : RuleOK S L R rc top) (h : sO S rc 25 nc bs) : bOK S rc nc bs := by
  refine ⟨by have := h.1; omega, fun i hi => (h.2.1 i hi).1, fun j hj => h.2.2.1 j hj (by have := (hR.2.1 j hj).2.1; omega), h.2.2.2⟩
theorem sO_skip (h : sO S rc k nc bs) (hk : rc k = false) : sO S rc (k + 1) nc bs := by
  refine ⟨by have := h.1; omega, fun i hi => ⟨(h.2.1 i hi).1, by have := (h.2.1 i hi).2; omega⟩, fun j hj hjk => ?_, h.2.2.2⟩
  refine h.2.2.1 j hj ?_
  rcases (show j < k ∨ j = k by omega) with e | e
  · exact e
  · rw [e, hk] at hj; exact absurd hj (by decide)
theorem sIn_0 : sIn S k nc bs nc bs := ⟨Nat.le_refl _, fun _ _ => rfl, fun i h1 h2 => by omega, fun i h1 h2 => by omega⟩
theorem sIn_step (h : sIn S k nc b0 a bs) (ha : 0 < a) (hs : S k < S (b0 (a - 1))) : sIn S k nc b0 (a - 1) (upN bs a (bs (a - 1))) := by
  obtain ⟨h1, h2, h3, h4⟩ := h
  refine ⟨by omega, fun i hi => ?_, fun i hi hn => ?_, fun i hi hn => ?_⟩
  · rw [upN_n _ _ (by omega)]; exact h2 i (by omega)
  · by_cases e : i = a
    · subst e; rw [upN_s]; exact h2 (i - 1) (by omega)
    · rw [upN_n _ _ e]; exact h3 i (by omega) hn
  · rcases (show i = a - 1 ∨ a ≤ i by omega) with e | e
    · rw [e]; exact hs
    · exact h4 i e hn
theorem sO_ins (h : sO S rc k nc b0) (hk : rc k = true) (hi : sIn S k nc b0 a bs) (hx : a = 0 ∨ S (b0 (a - 1)) ≤ S k) : sO S rc (k + 1) (nc + 1) (upN bs a k) := by
  obtain ⟨o1, o2, o3, o4⟩ := h
  obtain ⟨h1, h2, h3, h4⟩ := hi
  have lo : ∀ i, i < a → upN bs a k i = b0 i := fun i hi => by rw [upN_n _ _ (by omega)]; exact h2 i hi
  have mid : upN bs a k a = k := upN_s _ _ _
  have hig : ∀ i, a < i → i ≤ nc → upN bs a k i = b0 (i - 1) := fun i hi hn => by rw [upN_n _ _ (by omega)]; exact h3 i hi hn
  have lowS : ∀ i, i < a → S (b0 i) ≤ S k := fun i hi => by
    rcases hx with e | e
    · omega
    · have := o4 i (a - 1) (by omega) (by omega)
      omega
  refine ⟨by omega, fun i hi => ?_, fun j hj hjk => ?_, fun i j hij hj => ?_⟩
  · rcases (show i < a ∨ i = a ∨ a < i by omega) with e | e | e
    · rw [lo i e]
      have := o2 i (by omega)
      exact ⟨this.1, by omega⟩
    · rw [e, mid]; exact ⟨hk, by omega⟩
    · rw [hig i e (by omega)]
      have := o2 (i - 1) (by omega)
      exact ⟨this.1, by omega⟩
  · rcases (show j < k ∨ j = k by omega) with e | e
    · obtain ⟨i, i1, i2⟩ := o3 j hj e
      by_cases c : i < a
      · exact ⟨i, by omega, by rw [lo i c]; exact i2⟩
      · exact ⟨i + 1, by omega, by rw [hig (i + 1) (by omega) (by omega), Nat.add_sub_cancel]; exact i2⟩
    · exact ⟨a, by omega, by rw [mid, e]⟩
  · rcases (show i < a ∨ i = a ∨ a < i by omega) with e | e | e
    · rw [lo i e]
      rcases (show j < a ∨ j = a ∨ a < j by omega) with f | f | f
      · rw [lo j f]; exact o4 i j hij (by omega)
      · rw [f, mid]; exact lowS i e
      · rw [hig j f (by omega)]; exact o4 i (j - 1) (by omega) (by omega)
    · rw [e, mid]
      rcases (show j = a ∨ a < j by omega) with f | f
      · rw [f, mid]; exact Nat.le_refl _
      · rw [hig j f (by omega)]
        have := h4 (j - 1) (by omega) (by omega)
        omega
    · rw [hig i e (by omega), hig j (by omega) (by omega)]
      exact o4 (i - 1) (j - 1) (by omega) (by omega)
end PureS
