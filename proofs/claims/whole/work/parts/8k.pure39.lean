/-! How long the row of nodes gets. -/
section PureU
variable {top : Nat} {S L R kp : Nat → Nat} {rc : Nat → Bool} {sp : Nat → Bool} {rq : Nat → Nat} {w : Nat} {scr : Nat → Int32}
theorem len_jal (hR : RuleOK S L R rc top) : ∀ (n : Nat) (sp : Nat → Bool), TOK top S L R sp rq → (lvs sp 1).length ≤ n → (lvs (jal sp rq) 1).length ≤ (lvs sp 1).length := by
  intro n
  induction n with
  | zero => intro sp hT h; have := (nl_le hR hT 1 ex_1).1; omega
  | succ n ih =>
    intro sp hT h
    by_cases c : ∃ x, joi sp rq x
    · obtain ⟨x, hx⟩ := c
      have h1 := len_join hR hT hx
      have h2 := ih (upB sp x false) (TOK_join hT hx) (by omega)
      rw [jal_join hR hT hx] at h2
      omega
    · rw [jal_end hR hT (fun x hx => c ⟨x, hx⟩)]
      exact Nat.le_refl _
theorem aCv_dep {cl : Nat → Nat} : ∀ (k : Nat) (sp : Nat → Bool) (x j : Nat), 1 ≤ x → dep (aCv S L R cl w k (sp, x, j)).2.1 + j = dep x + (aCv S L R cl w k (sp, x, j)).2.2 := by
  intro k
  induction k with
  | zero => intro sp x j _; rfl
  | succ k ih =>
    intro sp x j hx
    unfold aCv
    rw [mDes]
    split
    · rfl
    · show dep (aCv S L R cl w k _).2.1 + j = dep x + (aCv S L R cl w k _).2.2
      have h1 := ih (upB sp x true) (if cvL S L R w (cl x) then 2 * x else 2 * x + 1) (j + 1) (by split <;> omega)
      have h2 : dep (if cvL S L R w (cl x) then 2 * x else 2 * x + 1) = dep x + 1 := by
        split
        · exact dep_e hx
        · exact dep_o hx
      rw [h2] at h1
      have h3 : dep (aCv S L R cl w k (upB sp x true, if cvL S L R w (cl x) then 2 * x else 2 * x + 1, j + 1)).2.1 + j = dep x + (aCv S L R cl w k (upB sp x true, if cvL S L R w (cl x) then 2 * x else 2 * x + 1, j + 1)).2.2 := by omega
      exact h3
theorem gC_23 (hR : RuleOK S L R rc top) (hT : TOK top S L R sp rq) (hw : 1 ≤ w) (h : gB S (cls top L R) rq w sp ≠ 0) : (gC S L R (cls top L R) rq w sp).2.2 ≤ 23 ∧ (lvs (gC S L R (cls top L R) rq w sp).1 1).length ≤ (lvs sp 1).length + 23 := by
  have hk := gC_ok hR hT hw h
  have h1 := gS1_ok (w := w) hR hT
  have h2 := bst_leaf (w := w) hR h1 h
  have h3 := aCv_dep (S := S) (L := L) (R := R) (w := w) (cl := cls top L R) 24 (gS1 S (cls top L R) rq w sp) (gB S (cls top L R) rq w sp) 0 (ex_pos h2.1)
  rw [← (gC_s h).1] at h3
  have h4 := (sid_b hR hk.1 hk.2.1).1
  have h5 : (lvs (gS1 S (cls top L R) rq w sp) 1).length ≤ (lvs sp 1).length := by
    unfold gS1
    split
    · exact len_jal hR _ sp hT (Nat.le_refl _)
    · exact Nat.le_refl _
  exact ⟨by omega, by omega⟩
theorem gC_len0 (hR : RuleOK S L R rc top) (hT : TOK top S L R sp rq) (h : gB S (cls top L R) rq w sp = 0) : (lvs (gC S L R (cls top L R) rq w sp).1 1).length ≤ (lvs sp 1).length := by
  rw [(gC_n h).1]
  show (lvs (gS1 S (cls top L R) rq w sp) 1).length ≤ _
  unfold gS1
  split
  · exact len_jal hR _ sp hT (Nat.le_refl _)
  · exact Nat.le_refl _
theorem aUp_len (hR : RuleOK S L R rc top) : ∀ (k : Nat) (sp : Nat → Bool) (x j : Nat), TOK top S L R sp rq → ex sp x → sp x = false → rq x = 0 → (lvs (aUp (cls top L R) kp rq k (sp, x, j)).1 1).length ≤ (lvs sp 1).length := by
  intro k
  induction k with
  | zero => intro sp x j _ _ _ _; exact Nat.le_refl _
  | succ k ih =>
    intro sp x j hT hx hs hr
    unfold aUp
    rw [mDes]
    split
    · exact Nat.le_refl _
    · rename_i c
      have c2 : upG (cls top L R) kp rq (sp, x, j) = true := by simpa using c
      unfold upG at c2
      simp only [Bool.and_eq_true, decide_eq_true_eq, Bool.not_eq_true'] at c2
      have hj := up_joi hT hx hs hr c2.2
      have hl := joi_leaf hT hj
      have h1 := len_join hR hT hj
      have h2 := ih (upB sp (x / 2) false) (x / 2) (j + 1) (TOK_join hT hj) hl.1 hl.2.1 hl.2.2
      show (lvs (aUp (cls top L R) kp rq k (upB sp (x / 2) false, x / 2, j + 1)).1 1).length ≤ _
      omega
theorem rpOne_gc (v : Int32) (i : Nat) (z : (Nat → Bool) × (Nat → Nat) × (Nat → Nat) × Nat × Nat × Nat × Nat × Nat × Nat) : z.2.2.2.2.2.2.2.1 ≤ (rpOne top S L R kp v i z).2.2.2.2.2.2.2.2.1 := by
  unfold rpOne
  split
  · split
    · exact Nat.le_refl _
    · exact Nat.le_add_right _ _
  · split
    · exact Nat.le_refl _
    · split
      · exact Nat.le_refl _
      · exact Nat.le_refl _
theorem rpN_gc : ∀ (k i : Nat) (z : (Nat → Bool) × (Nat → Nat) × (Nat → Nat) × Nat × Nat × Nat × Nat × Nat × Nat), z.2.2.2.2.2.2.2.1 ≤ (rpN top S L R kp scr k i z).2.2.2.2.2.2.2.2.1
  | 0, i, z => Nat.le_refl _
  | k + 1, i, z => by
    have h1 := rpOne_gc (top := top) (S := S) (L := L) (R := R) (kp := kp) (scr i) i z
    rw [rpN]
    split
    · exact Nat.le_trans h1 (rpN_gc k (i + 1) _)
    · exact h1
end PureU
/-- what the reference keeps of the entries -/
def gnI (ad' gv : Nat → Nat) (i : Nat) (gn : Nat → Int32) : Prop := ∀ q, q < i → gn q = if gv q = 0 then -1 else nI (ad' (gv q))
theorem gnI_j {ad' rq gv : Nat → Nat} {i : Nat} {gn : Nat → Int32} (h : gnI ad' gv i gn) (hg : gvOK rq gv i) : gnI ad' gv (i + 1) (upd gn i (-1)) := fun q q1 => by
  by_cases e : q = i
  · subst e; rw [if_pos (hg.2.2 q (Nat.le_refl _))]; simp [upd]
  · simp only [upd, if_neg e]; exact h q (by omega)
theorem gnI_g {ad' gv : Nat → Nat} {i p : Nat} {gn : Nat → Int32} (h : gnI ad' gv i gn) (hp : p ≠ 0) : gnI ad' (upN gv i p) (i + 1) (upd (upd gn i (-1)) i (nI (ad' p))) := fun q q1 => by
  by_cases e : q = i
  · subst e; rw [upN_s, if_neg hp]; simp [upd]
  · rw [upN_n _ _ e]; simp only [upd, if_neg e]; exact h q (by omega)
theorem gnI_b {ad' rq gv : Nat → Nat} {i e : Nat} {gn : Nat → Int32} (h : gnI ad' gv i gn) (hg : gvOK rq gv i) : gnI ad' (upN gv e 0) (i + 1) (upd (upd gn i (-1)) e (-1)) := fun q q1 => by
  by_cases c : q = e
  · subst c; rw [upN_s, if_pos rfl]; simp [upd]
  · rw [upN_n _ _ c]
    have := gnI_j h hg q q1
    simp only [upd, if_neg c] at this ⊢
    exact this
