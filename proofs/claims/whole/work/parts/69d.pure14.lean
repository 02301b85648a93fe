def nz (nu : Nat → Nat) (b : Nat) : Nat := if b = 0 then 0 else nu b
def bOK (S : Nat → Nat) (rc : Nat → Bool) (ncl : Nat) (bs : Nat → Nat) : Prop := ncl ≤ 24 ∧ (∀ i, i < ncl → rc (bs i) = true) ∧ (∀ k, rc k = true → ∃ i, i < ncl ∧ bs i = k) ∧ ∀ i j, i ≤ j → j < ncl → S (bs i) ≤ S (bs j)
/-- the mask of the tightest numbers -/
def tM (S : Nat → Nat) (rc F : Nat → Bool) (w M : Nat) : Prop := (∀ k, M.testBit k = true → rc k = true ∧ w ≤ S k ∧ F k = true) ∧ ∀ k, rc k = true → w ≤ S k → F k = true → M ≠ 0 ∧ ∀ j, M.testBit j = true → S j ≤ S k ∧ (S j = S k → M.testBit k = true)
/-- on the way to it: the first i of the row are done -/
def tMi (S : Nat → Nat) (rc F : Nat → Bool) (w : Nat) (bs : Nat → Nat) (i M z : Nat) : Prop := (∀ k, M.testBit k = true → rc k = true ∧ w ≤ S k ∧ F k = true ∧ S k = z ∧ ∃ j, j < i ∧ bs j = k) ∧ (∀ j, j < i → w ≤ S (bs j) → F (bs j) = true → M.testBit (bs j) = true) ∧ M < 2 ^ 25 ∧ z < 2 ^ 31
theorem mem_dec {l l1 l2 : List Nat} {b : Nat} (e : l = l1 ++ b :: l2) : b ∈ l := by rw [e]; exact List.mem_append_right _ List.mem_cons_self
theorem bit_div (m k : Nat) : (m / 2 ^ k &&& 1 = 1) ↔ m.testBit k = true := by
  rw [Nat.and_one_is_mod, Nat.testBit_eq_decide_div_mod_eq, decide_eq_true_eq]
section PureO
variable {top : Nat} {S L R : Nat → Nat} {rc F : Nat → Bool} {sp : Nat → Bool} {rq nu : Nat → Nat} {mk n spare : Nat} {pa ch kd ad ra su un fo kp bs : Nat → Nat} {bl rd hd : Nat} {w ncl i M z : Nat}
theorem tMi_0 : tMi S rc F w bs 0 0 0 := ⟨fun k h => by rw [Nat.zero_testBit] at h; exact absurd h (by decide), fun j hj => absurd hj (Nat.not_lt_zero _), by decide, by decide⟩
theorem tMi_skip (h : tMi S rc F w bs i M z) (hn : ¬ (w ≤ S (bs i) ∧ F (bs i) = true)) : tMi S rc F w bs (i + 1) M z := by
  refine ⟨fun k hk => ?_, fun j hj h1 h2 => ?_, h.2.2⟩
  · obtain ⟨a, b, c, d, j, hj, e⟩ := h.1 k hk
    exact ⟨a, b, c, d, j, by omega, e⟩
  · rcases (show j < i ∨ j = i by omega) with e | e
    · exact h.2.1 j e h1 h2
    · subst e; exact absurd ⟨h1, h2⟩ hn
theorem tMi_add (hR : RuleOK S L R rc top) (hb : bOK S rc ncl bs) (hi : i < ncl) (h : tMi S rc F w bs i M z) (h1 : w ≤ S (bs i)) (h2 : F (bs i) = true) (h3 : M = 0 ∨ S (bs i) = z) : tMi S rc F w bs (i + 1) (M ||| 1 * 2 ^ bs i) (S (bs i)) := by
  have hrc := hb.2.1 i hi
  have hk := hR.2.1 _ hrc
  rw [Nat.one_mul]
  refine ⟨fun k hk => ?_, fun j hj h4 h5 => ?_, ?_, by omega⟩
  · rw [Nat.testBit_or, Bool.or_eq_true, Nat.testBit_two_pow, decide_eq_true_eq] at hk
    rcases hk with hk | hk
    · obtain ⟨a, b, c, d, j, hj, e⟩ := h.1 k hk
      refine ⟨a, b, c, ?_, j, by omega, e⟩
      rcases h3 with h3 | h3
      · rw [h3, Nat.zero_testBit] at hk; exact absurd hk (by decide)
      · rw [d, h3]
    · subst hk
      exact ⟨hrc, h1, h2, rfl, i, by omega, rfl⟩
  · rw [Nat.testBit_or, Bool.or_eq_true, Nat.testBit_two_pow, decide_eq_true_eq]
    rcases (show j < i ∨ j = i by omega) with e | e
    · exact Or.inl (h.2.1 j e h4 h5)
    · subst e; exact Or.inr rfl
  · refine Nat.or_lt_two_pow h.2.2.1 (Nat.pow_lt_pow_right (by decide) (by omega))
theorem tMi_end (hb : bOK S rc ncl bs) (h : tMi S rc F w bs ncl M z) : tM S rc F w M := by
  refine ⟨fun k hk => ?_, fun k h1 h2 h3 => ?_⟩
  · obtain ⟨a, b, c, -⟩ := h.1 k hk
    exact ⟨a, b, c⟩
  · obtain ⟨i, hi, e⟩ := hb.2.2.1 k h1
    subst e
    have hm := h.2.1 i hi h2 h3
    refine ⟨fun e => ?_, fun j hj => ?_⟩
    · rw [e, Nat.zero_testBit] at hm; exact absurd hm (by decide)
    · have a := (h.1 j hj).2.2.2.1
      have b := (h.1 _ hm).2.2.2.1
      exact ⟨by omega, fun _ => hm⟩
theorem tMi_break (hb : bOK S rc ncl bs) (hi : i < ncl) (h : tMi S rc F w bs i M z) (h0 : M ≠ 0) (h1 : S (bs i) ≠ z) : tM S rc F w M := by
  have hzi : z < S (bs i) := by
    obtain ⟨k, hk⟩ := Nat.exists_testBit_of_ne_zero h0
    obtain ⟨-, -, -, d, j, hj, e⟩ := h.1 k hk
    have := hb.2.2.2 j i (by omega) hi
    rw [e, d] at this
    omega
  refine ⟨fun k hk => ?_, fun k k1 k2 k3 => ⟨h0, fun j hj => ?_⟩⟩
  · obtain ⟨a, b, c, -⟩ := h.1 k hk
    exact ⟨a, b, c⟩
  · obtain ⟨i2, hi2, e⟩ := hb.2.2.1 k k1
    subst e
    have a := (h.1 j hj).2.2.2.1
    by_cases c : i2 < i
    · have hm := h.2.1 i2 c k2 k3
      have b := (h.1 _ hm).2.2.2.1
      exact ⟨by omega, fun _ => hm⟩
    · have := hb.2.2.2 i i2 (by omega) hi2
      exact ⟨by omega, fun e => by omega⟩
theorem tight (hR : RuleOK S L R rc top) (h : wI top S L R sp rq nu [] n mk spare pa ch kd ad ra su un fo bl rd hd) (ht : tM S rc (fun k => (su 1).testBit k) w M) : nz nu (bst S (cls top L R) rq w (lvs sp 1)) = if su 1 &&& M = 0 then 0 else fOut ch su M 0 := by
  have hT := h.1.1
  have hM : ∀ k, M.testBit k = true → 1 ≤ k ∧ k ≤ 24 := fun k hk => by have := hR.2.1 k (ht.1 k hk).1; omega
  have hU : su 1 = smy (cls top L R) sp rq 1 := by have := (h.1.2.2.1 1 ex_1 List.not_mem_nil).1; rwa [h.1.2.1.1] at this
  have any := mask_any hR hT hM (ex_1 (sp := sp))
  rw [← hU] at any
  have hb := (smy_bits hR hT 1 ex_1).1
  rw [← hU] at hb
  have hmem := lvs_mem hR hT 1 ex_1
  have hz0 : ∀ z ∈ lvs sp 1, z ≠ 0 := fun z hz => by have := ex_pos (hmem z hz).1; omega
  have spec := bst_spec (S := S) (cl := cls top L R) (rq := rq) (w := w) hz0
  have cl9 : ∀ z ∈ lvs sp 1, fit S (cls top L R) rq w z = true → rc (cls top L R z) = true ∧ w ≤ S (cls top L R z) ∧ (su 1).testBit (cls top L R z) = true := fun z hz hf => by
    unfold fit at hf
    rw [Bool.and_eq_true, decide_eq_true_eq, decide_eq_true_eq] at hf
    have hx := (hmem z hz).1
    have hp := S_pos hR hT hx
    exact ⟨cls_rc hR hT z hx, hf.2, (hb _ hp.2.2.1 hp.2.2.2).mpr ⟨z, hz, hf.1, rfl⟩⟩
  by_cases c : su 1 &&& M = 0
  · rw [if_pos c]
    have nofit : ∀ z ∈ lvs sp 1, fit S (cls top L R) rq w z = false := fun z hz => by
      cases hf : fit S (cls top L R) rq w z
      · rfl
      · obtain ⟨a1, a2, a3⟩ := cl9 z hz hf
        obtain ⟨k, hk⟩ := Nat.exists_testBit_of_ne_zero (ht.2 _ a1 a2 a3).1
        have h3 := (ht.1 k hk).2.2
        have : (su 1 &&& M).testBit k = true := by rw [Nat.testBit_and]; simp only at h3; rw [h3, hk]; rfl
        rw [c, Nat.zero_testBit] at this
        exact absurd this (by decide)
    rcases spec with e | ⟨-, l1, l2, e, f1, -⟩
    · unfold nz; rw [if_pos e.1]
    · rw [nofit _ (mem_dec e)] at f1
      exact absurd f1 (by decide)
  · rw [if_neg c]
    obtain ⟨q, e1, e2, e3, e4⟩ := fOut_l hR h hM c
    obtain ⟨g1, l1, l2, e5, g2⟩ := List.find?_eq_some_iff_append.mp e4
    unfold gm at g1
    rw [Bool.and_eq_true, decide_eq_true_eq] at g1
    have hq : fit S (cls top L R) rq w q = true := by unfold fit; rw [g1.1]; have := (ht.1 _ g1.2).2.1; simp [this]
    have hB : isB (fit S (cls top L R) rq w) (fun q => S (cls top L R q)) (lvs sp 1) q := by
      refine ⟨l1, l2, e5, hq, fun z hz hf => ?_, fun z hz hf => ?_⟩
      · obtain ⟨a1, a2, a3⟩ := cl9 z (by rw [e5]; exact List.mem_append_left _ hz) hf
        have h9 := (ht.2 _ a1 a2 a3).2 _ g1.2
        have g3 := g2 z hz
        unfold gm at g3
        have hz0 : rq z = 0 := by
          unfold fit at hf
          rw [Bool.and_eq_true, decide_eq_true_eq] at hf
          exact hf.1
        simp only [hz0, decide_true, Bool.true_and, Bool.not_eq_true'] at g3
        show S (cls top L R q) < S (cls top L R z)
        rcases (show S (cls top L R q) < S (cls top L R z) ∨ S (cls top L R q) = S (cls top L R z) by omega) with e | e
        · exact e
        · rw [h9.2 e] at g3; exact absurd g3 (by decide)
      · obtain ⟨a1, a2, a3⟩ := cl9 z (by rw [e5]; exact List.mem_append_right _ (List.mem_cons_of_mem _ hz)) hf
        exact ((ht.2 _ a1 a2 a3).2 _ g1.2).1
    rcases spec with e | ⟨e0, e⟩
    · rw [e.2 q (by rw [e5]; exact List.mem_append_right _ List.mem_cons_self)] at hq
      exact absurd hq (by decide)
    · unfold nz
      rw [if_neg e0, isB_uniq e hB, e1]
/-- a best node is a free leaf that holds w -/
theorem bst_leaf (hR : RuleOK S L R rc top) (hT : TOK top S L R sp rq) (h : bst S (cls top L R) rq w (lvs sp 1) ≠ 0) : ex sp (bst S (cls top L R) rq w (lvs sp 1)) ∧ sp (bst S (cls top L R) rq w (lvs sp 1)) = false ∧ rq (bst S (cls top L R) rq w (lvs sp 1)) = 0 ∧ w ≤ S (cls top L R (bst S (cls top L R) rq w (lvs sp 1))) := by
  have hmem := lvs_mem hR hT 1 ex_1
  have hz0 : ∀ z ∈ lvs sp 1, z ≠ 0 := fun z hz => by have := ex_pos (hmem z hz).1; omega
  rcases bst_spec (S := S) (cl := cls top L R) (rq := rq) (w := w) hz0 with e | ⟨-, l1, l2, e, f1, -⟩
  · exact absurd e.1 h
  · have := hmem _ (mem_dec e)
    unfold fit at f1
    rw [Bool.and_eq_true, decide_eq_true_eq, decide_eq_true_eq] at f1
    exact ⟨this.1, this.2, f1.1, f1.2⟩
end PureO
