/-! Joining: one pair; all that can be joined. -/
section PureC
variable {top : Nat} {S L R : Nat → Nat} {rc : Nat → Bool} {sp : Nat → Bool} {rq : Nat → Nat}
/-- both children are free and not split -/
def joi (sp : Nat → Bool) (rq : Nat → Nat) (x : Nat) : Prop := sp x = true ∧ sp (2 * x) = false ∧ sp (2 * x + 1) = false ∧ rq (2 * x) = 0 ∧ rq (2 * x + 1) = 0
theorem rq_sp (hT : TOK top S L R sp rq) {x : Nat} (h : sp x = true) : rq x = 0 := by
  rcases Nat.eq_zero_or_pos (rq x) with e | e
  · exact e
  · have := (hT.2 x e).2.1
    rw [h] at this
    exact absurd this (by decide)
theorem TOK_join (hT : TOK top S L R sp rq) {x : Nat} (h : joi sp rq x) : TOK top S L R (upB sp x false) rq := by
  have keep : ∀ y, ex sp y → ¬ (2 ≤ y ∧ y / 2 = x) → ex (upB sp x false) y := fun y hy hn => by
    rcases hy with e | e
    · exact Or.inl e
    · refine Or.inr ⟨e.1, ?_⟩
      rw [upB_n _ _ (fun q => hn ⟨e.1, q⟩)]
      exact e.2
  have kid : ∀ y, 2 ≤ y → y / 2 = x → y = 2 * x ∨ y = 2 * x + 1 := fun y _ _ => by omega
  refine ⟨fun p hp => ?_, fun p hp => ?_⟩
  · have e : p ≠ x := fun e => by rw [e, upB_s] at hp; exact absurd hp (by decide)
    rw [upB_n _ _ e] at hp
    refine ⟨(hT.1 p hp).1, keep p (hT.1 p hp).2.1 (fun q => ?_), (hT.1 p hp).2.2⟩
    rcases kid p q.1 q.2 with z | z
    · rw [z, h.2.1] at hp; exact absurd hp (by decide)
    · rw [z, h.2.2.1] at hp; exact absurd hp (by decide)
  · have h9 := hT.2 p hp
    refine ⟨keep p h9.1 (fun q => ?_), ?_, h9.2.2⟩
    · rcases kid p q.1 q.2 with z | z
      · rw [z, h.2.2.2.1] at hp; omega
      · rw [z, h.2.2.2.2] at hp; omega
    · by_cases e : p = x
      · rw [e, upB_s]
      · rw [upB_n _ _ e]; exact h9.2.1
theorem ex_join (hT : TOK top S L R sp rq) {x : Nat} (h : joi sp rq x) {p : Nat} : ex (upB sp x false) p ↔ ex sp p ∧ p ≠ 2 * x ∧ p ≠ 2 * x + 1 := by
  have h1 := (hT.1 x h.1).1
  constructor
  · intro hp
    rcases hp with e | e
    · exact ⟨Or.inl e, by omega, by omega⟩
    · by_cases z : p / 2 = x
      · rw [z, upB_s] at e; exact absurd e.2 (by decide)
      · rw [upB_n _ _ z] at e
        exact ⟨Or.inr e, by omega, by omega⟩
  · intro ⟨hp, n1, n2⟩
    rcases hp with e | e
    · exact Or.inl e
    · exact Or.inr ⟨e.1, by rw [upB_n _ _ (by omega)]; exact e.2⟩
theorem ex_split {x : Nat} (h1 : 1 ≤ x) (hs : sp x = false) {p : Nat} : ex (upB sp x true) p ↔ ex sp p ∨ p = 2 * x ∨ p = 2 * x + 1 := by
  constructor
  · intro hp
    rcases hp with e | e
    · exact Or.inl (Or.inl e)
    · by_cases z : p / 2 = x
      · exact Or.inr (by omega)
      · rw [upB_n _ _ z] at e
        exact Or.inl (Or.inr e)
  · intro hp
    rcases hp with (e | e) | e | e
    · exact Or.inl e
    · refine Or.inr ⟨e.1, ?_⟩
      by_cases z : p / 2 = x
      · rw [z, upB_s]
      · rw [upB_n _ _ z]; exact e.2
    · exact Or.inr ⟨by omega, by rw [e, show 2 * x / 2 = x by omega, upB_s]⟩
    · exact Or.inr ⟨by omega, by rw [e, show (2 * x + 1) / 2 = x by omega, upB_s]⟩
/-- a join, seen by the leaves -/
theorem lvs_join (hR : RuleOK S L R rc top) (hT : TOK top S L R sp rq) {x : Nat} (h : joi sp rq x) : ∃ l1 l2, lvs (upB sp x false) 1 = l1 ++ x :: l2 ∧ lvs sp 1 = l1 ++ 2 * x :: (2 * x + 1) :: l2 := by
  have hT2 := TOK_join hT h
  have h0 := hT.1 x h.1
  have hx : ex (upB sp x false) x := (ex_join hT h).mpr ⟨h0.2.1, by omega, by omega⟩
  have hs : upB sp x false x = false := upB_s _ _ _
  obtain ⟨l1, l2, e⟩ := List.append_of_mem (lvs_all hR hT2 hx hs)
  refine ⟨l1, l2, e, ?_⟩
  have := lvs_split_at hR hT2 hx hs (rq_sp hT h.1) h0.2.2 e
  rw [upB_u sp h.1] at this
  exact this
theorem lvs_join_at (hR : RuleOK S L R rc top) (hT : TOK top S L R sp rq) {x : Nat} (h : joi sp rq x) {l1 l2 : List Nat} (e : lvs sp 1 = l1 ++ 2 * x :: (2 * x + 1) :: l2) : lvs (upB sp x false) 1 = l1 ++ x :: l2 := by
  obtain ⟨a1, a2, e1, e2⟩ := lvs_join hR hT h
  have hn := lvs_nodup hR hT (ex_1 (sp := sp))
  have key : ∀ (l a m b : List Nat) (y : Nat), y ∉ l → y ∉ m → l ++ y :: a = m ++ y :: b → l = m ∧ a = b := by
    intro l
    induction l with
    | nil =>
      intro a m b y _ hm e
      cases m with
      | nil => simp at e; exact ⟨rfl, e⟩
      | cons z m => simp at e; exact absurd (by rw [e.1]; exact List.mem_cons_self) hm
    | cons w l ih =>
      intro a m b y hl hm e
      cases m with
      | nil => simp at e; exact absurd (by rw [e.1]; exact List.mem_cons_self) hl
      | cons z m =>
        simp at e
        obtain ⟨i1, i2⟩ := ih a m b y (fun q => hl (List.mem_cons_of_mem _ q)) (fun q => hm (List.mem_cons_of_mem _ q)) e.2
        exact ⟨by rw [e.1, i1], i2⟩
  have n1 : 2 * x ∉ l1 := fun q => by
    rw [e] at hn
    exact (List.nodup_append.mp hn).2.2 _ q _ List.mem_cons_self rfl
  have n2 : 2 * x ∉ a1 := fun q => by
    rw [e2] at hn
    exact (List.nodup_append.mp hn).2.2 _ q _ List.mem_cons_self rfl
  obtain ⟨i1, i2⟩ := key l1 _ a1 _ _ n1 n2 (e.symm.trans e2)
  rw [e1, i1, (List.cons.inj i2).2]
theorem lvb_iff (hR : RuleOK S L R rc top) (hT : TOK top S L R sp rq) : ∀ p, ex sp p → (lvb sp rq p = true ↔ ∃ q ∈ lvs sp p, 0 < rq q) := by
  refine dn_ind hR hT (fun p hx hq => ?_) (fun p h1 hx hq i1 i2 => ?_)
  · rw [lvb_n hq, lvs_n hq]
    simp
  · rw [lvb_s hR hT hq, lvs_s hR hT hq, Bool.or_eq_true, i1, i2]
    constructor
    · rintro (⟨q, h, h2⟩ | ⟨q, h, h2⟩)
      · exact ⟨q, List.mem_append_left _ h, h2⟩
      · exact ⟨q, List.mem_append_right _ h, h2⟩
    · rintro ⟨q, h, h2⟩
      rcases List.mem_append.mp h with h | h
      · exact Or.inl ⟨q, h, h2⟩
      · exact Or.inr ⟨q, h, h2⟩
/-- all joined -/
def jal (sp : Nat → Bool) (rq : Nat → Nat) : Nat → Bool := fun p => sp p && lvb sp rq p
theorem lvb_join (hR : RuleOK S L R rc top) (hT : TOK top S L R sp rq) {x : Nat} (h : joi sp rq x) : ∀ p, ex (upB sp x false) p → lvb (upB sp x false) rq p = lvb sp rq p := by
  have hT2 := TOK_join hT h
  refine dn_ind hR hT2 (fun p hx hq => ?_) (fun p h1 hx hq i1 i2 => ?_)
  · rw [lvb_n hq]
    by_cases e : p = x
    · subst e
      rw [lvb_s hR hT h.1, lvb_n h.2.1, lvb_n h.2.2.1, h.2.2.2.1, h.2.2.2.2, rq_sp hT h.1]
      rfl
    · rw [upB_n _ _ e] at hq
      rw [lvb_n hq]
  · have e : p ≠ x := fun e => by rw [e, upB_s] at hq; exact absurd hq (by decide)
    rw [lvb_s hR hT2 hq, i1, i2]
    rw [upB_n _ _ e] at hq
    rw [lvb_s hR hT hq]
theorem jal_join (hR : RuleOK S L R rc top) (hT : TOK top S L R sp rq) {x : Nat} (h : joi sp rq x) : jal (upB sp x false) rq = jal sp rq := by
  have hT2 := TOK_join hT h
  funext p
  unfold jal
  cases hq : upB sp x false p
  · by_cases e : p = x
    · subst e
      rw [h.1, lvb_s hR hT h.1, lvb_n h.2.1, lvb_n h.2.2.1, h.2.2.2.1, h.2.2.2.2]
      rfl
    · rw [upB_n _ _ e] at hq
      rw [hq, Bool.false_and, Bool.false_and]
  · rw [lvb_join hR hT h p (hT2.1 p hq).2.1]
    have e : p ≠ x := fun e => by rw [e, upB_s] at hq; exact absurd hq (by decide)
    rw [upB_n _ _ e] at hq
    rw [hq]
/-- where nothing can be joined, all is joined -/
theorem jal_end (hR : RuleOK S L R rc top) (hT : TOK top S L R sp rq) (h : ∀ x, ¬ joi sp rq x) : jal sp rq = sp := by
  have key : ∀ p, ex sp p → sp p = true → lvb sp rq p = true := by
    refine dn_ind hR hT (fun p hx hq hs => ?_) (fun p h1 hx hq i1 i2 _ => ?_)
    · rw [hq] at hs; exact absurd hs (by decide)
    · rw [lvb_s hR hT hq, Bool.or_eq_true]
      cases h2 : sp (2 * p)
      · cases h3 : sp (2 * p + 1)
        · rcases Nat.eq_zero_or_pos (rq (2 * p)) with e | e
          · rcases Nat.eq_zero_or_pos (rq (2 * p + 1)) with e2 | e2
            · exact absurd ⟨hq, h2, h3, e, e2⟩ (h p)
            · exact Or.inr (by rw [lvb_n h3]; exact decide_eq_true e2)
          · exact Or.inl (by rw [lvb_n h2]; exact decide_eq_true e)
        · exact Or.inr (i2 h3)
      · exact Or.inl (i1 h2)
  funext p
  unfold jal
  cases hq : sp p
  · rfl
  · rw [key p (hT.1 p hq).2.1 hq]; rfl
theorem len_join (hR : RuleOK S L R rc top) (hT : TOK top S L R sp rq) {x : Nat} (h : joi sp rq x) : (lvs sp 1).length = (lvs (upB sp x false) 1).length + 1 := by
  obtain ⟨l1, l2, e1, e2⟩ := lvs_join hR hT h
  rw [e1, e2]
  simp
  omega
end PureC
