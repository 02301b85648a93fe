/-! What the face's reads answer. -/
def fsO (cl rq : Nat → Nat) (k : Nat) (l : List Nat) : Nat := (l.find? (fun q => decide (rq q = 0) && decide (cl q = k))).getD 0
section PureY
variable {top : Nat} {S L R : Nat → Nat} {rc : Nat → Bool} {sp : Nat → Bool} {rq nu : Nat → Nat} {mk n spare : Nat} {pa ch kd ad ra su un fo kp bs : Nat → Nat} {bl rd hd w : Nat}
theorem gm_pow {cl rq : Nat → Nat} {k : Nat} : gm cl rq (1 * 2 ^ k) = fun q => decide (rq q = 0) && decide (cl q = k) := by
  funext q
  unfold gm
  rw [Nat.one_mul, Nat.testBit_two_pow]
  by_cases e : k = cl q
  · subst e; simp
  · have : ¬ cl q = k := fun h => e h.symm
    simp [e, this]
theorem pow_in {k : Nat} (h1 : 1 ≤ k) (h2 : k ≤ 24) : ∀ j, (1 * 2 ^ k).testBit j = true → 1 ≤ j ∧ j ≤ 24 := fun j h => by
  rw [Nat.one_mul, Nat.testBit_two_pow, decide_eq_true_eq] at h
  omega
theorem out_l (hR : RuleOK S L R rc top) (h : wI top S L R sp rq nu [] n mk spare pa ch kd ad ra su un fo bl rd hd) {k : Nat} (h1 : 1 ≤ k) (h2 : k ≤ 24) :
    (if su 1 &&& 1 * 2 ^ k = 0 then nI 0 else nI (fOut ch su (1 * 2 ^ k) 0)) = nI (nz nu (fsO (cls top L R) rq k (lvs sp 1))) := by
  have hM := pow_in h1 h2
  have hs := (h.1.2.2.1 1 ex_1 List.not_mem_nil).1
  rw [h.1.2.1.1] at hs
  have ha := mask_any hR h.1.1 hM (p := 1) ex_1
  unfold fsO
  rw [← gm_pow]
  split
  · rename_i c
    rw [hs] at c
    rw [find_none (fun q => absurd c (ha.mpr q))]
    rfl
  · rename_i c
    obtain ⟨q, e1, e2, e3, e4⟩ := fOut_l hR h hM c
    rw [e4, e1]
    have := ex_pos e2
    show nI (nu q) = nI (nz nu q)
    unfold nz
    rw [if_neg (by omega)]
theorem out_r (hR : RuleOK S L R rc top) (h : wI top S L R sp rq nu [] n mk spare pa ch kd ad ra su un fo bl rd hd) {k : Nat} (h1 : 1 ≤ k) (h2 : k ≤ 24) :
    (if su 1 &&& 1 * 2 ^ k = 0 then nI 0 else nI (fOut ch su (1 * 2 ^ k) 1)) = nI (nz nu (fsO (cls top L R) rq k (lvs sp 1).reverse)) := by
  have hM := pow_in h1 h2
  have hs := (h.1.2.2.1 1 ex_1 List.not_mem_nil).1
  rw [h.1.2.1.1] at hs
  have ha := mask_any hR h.1.1 hM (p := 1) ex_1
  unfold fsO
  rw [← gm_pow]
  split
  · rename_i c
    rw [hs] at c
    rw [find_none (fun q => absurd c (ha.mpr (by obtain ⟨z, z1, z2⟩ := q; exact ⟨z, List.mem_reverse.mp z1, z2⟩)))]
    rfl
  · rename_i c
    obtain ⟨q, e1, e2, e3, e4⟩ := fOut_r hR h hM c
    rw [e4, e1]
    have := ex_pos e2
    show nI (nu q) = nI (nz nu q)
    unfold nz
    rw [if_neg (by omega)]
theorem fsO_ex (hR : RuleOK S L R rc top) (hT : TOK top S L R sp rq) {cl : Nat → Nat} {k : Nat} {l : List Nat} (hl : ∀ q ∈ l, q ∈ lvs sp 1) (h : fsO cl rq k l ≠ 0) : ex sp (fsO cl rq k l) ∧ sp (fsO cl rq k l) = false := by
  unfold fsO at h ⊢
  cases e : l.find? (fun q => decide (rq q = 0) && decide (cl q = k)) with
  | none => rw [e] at h; exact absurd rfl h
  | some q => exact lvs_mem hR hT 1 ex_1 q (hl q (List.mem_of_find?_eq_some e))
def lfA (l : List Nat) (v : Int32) : Nat := if v < 0 then 0 else l.getD v.toNatClampNeg 0
theorem uns_at (hR : RuleOK S L R rc top) (h : wI top S L R sp rq nu [] n mk spare pa ch kd ad ra su un fo bl rd hd) (v : Int32) :
    (if v < 0 ∨ nI (un 1) ≤ v then nI 0 else nI (fUns ch un v.toNatClampNeg).1) = nI (nz nu (lfA (lvs sp 1) v)) := by
  have hu := (h.1.2.2.1 1 ex_1 List.not_mem_nil).2
  rw [h.1.2.1.1] at hu
  have hle := wI_len hR h
  unfold lfA
  by_cases c : v < 0
  · rw [if_pos (Or.inl c), if_pos c]; rfl
  · rw [if_neg c]
    obtain ⟨j, hj, rfl⟩ := nI_of c
    rw [nI_clamp hj]
    by_cases c2 : nI (un 1) ≤ nI j
    · rw [if_pos (Or.inr c2)]
      have := (nI_leI (by omega) hj).mp c2
      rw [List.getD_eq_getElem?_getD, List.getElem?_eq_none (by omega)]
      rfl
    · rw [if_neg (fun q => q.elim c c2)]
      have hlt : j < (lvs sp 1).length := by
        apply Classical.byContradiction
        intro q
        exact c2 ((nI_leI (by omega) hj).mpr (by omega))
      obtain ⟨q, e1, e2, e3, e4⟩ := fUns_at hR h.1.1 h.1.2.1 h.1.2.2.1 hlt
      have := ex_pos e2
      rw [e1, List.getD_eq_getElem?_getD, e4]
      show nI (nu q) = nI (nz nu q)
      unfold nz
      rw [if_neg (by omega)]
theorem lfA_ex (hR : RuleOK S L R rc top) (hT : TOK top S L R sp rq) {v : Int32} (h : lfA (lvs sp 1) v ≠ 0) : ex sp (lfA (lvs sp 1) v) ∧ sp (lfA (lvs sp 1) v) = false := by
  unfold lfA at h ⊢
  split at h
  · exact absurd rfl h
  · rename_i c
    rw [if_neg c]
    rw [List.getD_eq_getElem?_getD] at h ⊢
    cases e : (lvs sp 1)[v.toNatClampNeg]? with
    | none => rw [e] at h; exact absurd rfl h
    | some q => exact lvs_mem hR hT 1 ex_1 q (List.mem_of_getElem? e)
/-- a live block stays where it is while another is given -/
theorem gQ_live (hR : RuleOK S L R rc top) (hT : TOK top S L R sp rq) (hw : 1 ≤ w) (h : gB S (cls top L R) rq w sp ≠ 0) {y : Nat} (hy : 0 < rq y) : gQ S L R (cls top L R) rq w sp y = rq y ∧ gQ S L R (cls top L R) rq w sp (gC S L R (cls top L R) rq w sp).2.1 = w ∧ y ≠ (gC S L R (cls top L R) rq w sp).2.1 := by
  have hk := gC_ok hR hT hw h
  have hne : y ≠ (gC S L R (cls top L R) rq w sp).2.1 := fun e => by rw [e] at hy; omega
  rw [(gC_s h).2]
  exact ⟨upN_n _ _ hne, upN_s _ _ _, hne⟩
theorem gS1_live (hR : RuleOK S L R rc top) (hT : TOK top S L R sp rq) {y : Nat} (hy : 0 < rq y) : ex (gS1 S (cls top L R) rq w sp) y := ((gS1_ok hR hT).2 y hy).1
end PureY
