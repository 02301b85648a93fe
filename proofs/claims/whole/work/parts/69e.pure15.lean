/-! Giving, on the abstract memory. -/
def gS1 (S cl rq : Nat → Nat) (w : Nat) (sp : Nat → Bool) : Nat → Bool := if bst S cl rq w (lvs sp 1) = 0 then jal sp rq else sp
def gB (S cl rq : Nat → Nat) (w : Nat) (sp : Nat → Bool) : Nat := bst S cl rq w (lvs (gS1 S cl rq w sp) 1)
def gC (S L R cl rq : Nat → Nat) (w : Nat) (sp : Nat → Bool) : (Nat → Bool) × Nat × Nat := if gB S cl rq w sp = 0 then (gS1 S cl rq w sp, 0, 0) else aCv S L R cl w 24 (gS1 S cl rq w sp, gB S cl rq w sp, 0)
def gQ (S L R cl rq : Nat → Nat) (w : Nat) (sp : Nat → Bool) : Nat → Nat := if gB S cl rq w sp = 0 then rq else upN rq (gC S L R cl rq w sp).2.1 w
theorem nz_s {nu : Nat → Nat} {b : Nat} (h : b ≠ 0) : nz nu b = nu b := if_neg h
theorem nz_ne {nu : Nat → Nat} {b : Nat} (h : ¬ nz nu b = 0) : b ≠ 0 := fun e => h (if_pos e)
section PureP
variable {top : Nat} {S L R : Nat → Nat} {rc : Nat → Bool} {sp : Nat → Bool} {rq nu : Nat → Nat} {mk n spare : Nat} {pa ch kd ad ra su un fo kp : Nat → Nat} {bad : List Nat} {bl rd hd : Nat} {w : Nat}
theorem nz_0 (h : wI top S L R sp rq nu bad n mk spare pa ch kd ad ra su un fo bl rd hd) {b : Nat} (hb : b ≠ 0 → ex sp b) (h0 : nz nu b = 0) : b = 0 := by
  apply Classical.byContradiction
  intro e
  rw [nz_s e] at h0
  have := (tI_lt h.1 (hb e)).1
  omega
theorem nz_lt (h : wI top S L R sp rq nu bad n mk spare pa ch kd ad ra su un fo bl rd hd) {b : Nat} (hb : b ≠ 0 → ex sp b) : nz nu b < n := by
  have h64 := (mk_len h).2.2
  unfold nz
  split
  · omega
  · rename_i e
    exact (tI_lt h.1 (hb e)).2
theorem gS1_a (h : bst S (cls top L R) rq w (lvs sp 1) ≠ 0) : gS1 S (cls top L R) rq w sp = sp ∧ gB S (cls top L R) rq w sp = bst S (cls top L R) rq w (lvs sp 1) := by
  have e : gS1 S (cls top L R) rq w sp = sp := if_neg h
  exact ⟨e, by unfold gB; rw [e]⟩
theorem gS1_b (h : bst S (cls top L R) rq w (lvs sp 1) = 0) : gS1 S (cls top L R) rq w sp = jal sp rq ∧ gB S (cls top L R) rq w sp = bst S (cls top L R) rq w (lvs (jal sp rq) 1) := by
  have e : gS1 S (cls top L R) rq w sp = jal sp rq := if_pos h
  exact ⟨e, by unfold gB; rw [e]⟩
theorem gC_n (h : gB S (cls top L R) rq w sp = 0) : gC S L R (cls top L R) rq w sp = (gS1 S (cls top L R) rq w sp, 0, 0) ∧ gQ S L R (cls top L R) rq w sp = rq := ⟨if_pos h, if_pos h⟩
theorem gC_s (h : gB S (cls top L R) rq w sp ≠ 0) : gC S L R (cls top L R) rq w sp = aCv S L R (cls top L R) w 24 (gS1 S (cls top L R) rq w sp, gB S (cls top L R) rq w sp, 0) ∧ gQ S L R (cls top L R) rq w sp = upN rq (gC S L R (cls top L R) rq w sp).2.1 w := ⟨if_neg h, if_neg h⟩
end PureP
