/-! Bad rows; the classes that are reached. -/
def bd (sz lf rt : Nat → Int32) (k : Nat) : Bool := decide (¬ (nI 4 ≤ sz k ∧ sz k ≤ nI 4194304) ∨ (lf k = 0 ∧ ¬ rt k = 0) ∨ (¬ lf k = 0 ∧ (¬ (nI 1 ≤ lf k ∧ lf k ≤ nI 24) ∨ ¬ (nI 1 ≤ rt k ∧ rt k ≤ nI 24) ∨ sz k ≤ sz (lf k).toNatClampNeg ∨ sz k ≤ sz (rt k).toNatClampNeg ∨ ¬ (sz (lf k).toNatClampNeg).toInt64 + (sz (rt k).toNatClampNeg).toInt64 = (sz k).toInt64)))
theorem lcmp0 (x y : Int64) : lg_cmp x y = 0 ↔ x = y := by
  unfold lg_cmp
  constructor
  · intro h
    apply Classical.byContradiction
    intro e
    by_cases c : y < x
    · simp [c] at h
    · simp [c, e] at h
  · intro e
    subst e
    simp
theorem cls_of {v : Int32} (h : nI 1 ≤ v ∧ v ≤ nI 24) : ∃ a : Nat, 1 ≤ a ∧ a ≤ 24 ∧ v = nI a ∧ v.toNatClampNeg = a := by
  have h1 : ¬ v < 0 := fun q => by
    have := Int32.lt_of_lt_of_le (a := (0 : Int32)) (b := nI 1) (by decide) h.1
    exact Int32.lt_irrefl (Int32.lt_trans q this)
  obtain ⟨j, hj, e⟩ := nI_of h1
  subst e
  have a := (nI_leI (by decide) hj).mp h.1
  have b := (nI_leI hj (by decide)).mp h.2
  exact ⟨j, a, b, rfl, nI_clamp hj⟩
theorem sz_of {v : Int32} (h : nI 4 ≤ v ∧ v ≤ nI 4194304) : ∃ a : Nat, 4 ≤ a ∧ a ≤ 4194304 ∧ v = nI a ∧ v.toNatClampNeg = a := by
  have h1 : ¬ v < 0 := fun q => by
    have := Int32.lt_of_lt_of_le (a := (0 : Int32)) (b := nI 4) (by decide) h.1
    exact Int32.lt_irrefl (Int32.lt_trans q this)
  obtain ⟨j, hj, e⟩ := nI_of h1
  subst e
  have a := (nI_leI (by decide) hj).mp h.1
  have b := (nI_leI hj (by decide)).mp h.2
  exact ⟨j, a, b, rfl, nI_clamp hj⟩
/-- a row that isn't bad -/
theorem bd_ok {sz lf rt : Nat → Int32} {k : Nat} (h : bd sz lf rt k = false) : (nI 4 ≤ sz k ∧ sz k ≤ nI 4194304) ∧ ((lf k = 0 ∧ rt k = 0) ∨ (¬ lf k = 0 ∧ (nI 1 ≤ lf k ∧ lf k ≤ nI 24) ∧ (nI 1 ≤ rt k ∧ rt k ≤ nI 24) ∧ sz (lf k).toNatClampNeg < sz k ∧ sz (rt k).toNatClampNeg < sz k ∧ (sz (lf k).toNatClampNeg).toInt64 + (sz (rt k).toNatClampNeg).toInt64 = (sz k).toInt64)) := by
  unfold bd at h
  rw [decide_eq_false_iff_not] at h
  have h1 : nI 4 ≤ sz k ∧ sz k ≤ nI 4194304 := Classical.byContradiction fun q => h (Or.inl q)
  refine ⟨h1, ?_⟩
  by_cases e : lf k = 0
  · exact Or.inl ⟨e, Classical.byContradiction fun q => h (Or.inr (Or.inl ⟨e, q⟩))⟩
  · refine Or.inr ⟨e, Classical.byContradiction fun q => h (Or.inr (Or.inr ⟨e, Or.inl q⟩)), Classical.byContradiction fun q => h (Or.inr (Or.inr ⟨e, Or.inr (Or.inl q)⟩)), Classical.byContradiction fun q => h (Or.inr (Or.inr ⟨e, Or.inr (Or.inr (Or.inl (Int32.not_lt.mp q)))⟩)), Classical.byContradiction fun q => h (Or.inr (Or.inr ⟨e, Or.inr (Or.inr (Or.inr (Or.inl (Int32.not_lt.mp q))))⟩)), Classical.byContradiction fun q => h (Or.inr (Or.inr ⟨e, Or.inr (Or.inr (Or.inr (Or.inr q)))⟩))⟩
def clo (sz lf rt : Nat → Int32) (M : Nat → Bool) : Prop := ∀ k, M k = true → bd sz lf rt k = false → ¬ lf k = 0 → M (lf k).toNatClampNeg = true ∧ M (rt k).toNatClampNeg = true
/-- the least closed set that holds t -/
def RS (sz lf rt : Nat → Int32) (t : Nat) (M : Nat → Bool) : Prop := M t = true ∧ clo sz lf rt M ∧ ∀ P : Nat → Bool, P t = true → clo sz lf rt P → ∀ k, M k = true → P k = true
theorem RS_uniq {sz lf rt : Nat → Int32} {t : Nat} {M N : Nat → Bool} (h1 : RS sz lf rt t M) (h2 : RS sz lf rt t N) : M = N := by
  funext k
  cases e : M k
  · cases e2 : N k
    · rfl
    · rw [h2.2.2 M h1.1 h1.2.1 k e2] at e; exact absurd e (by decide)
  · rw [h1.2.2 N h2.1 h2.2.1 k e]
/-- it holds numbers from 1 to 24 alone -/
theorem RS_in {sz lf rt : Nat → Int32} {t : Nat} {M : Nat → Bool} (h : RS sz lf rt t M) (ht : 1 ≤ t ∧ t ≤ 24) {k : Nat} (hk : M k = true) : 1 ≤ k ∧ k ≤ 24 := by
  have := h.2.2 (fun k => decide (1 ≤ k ∧ k ≤ 24)) (decide_eq_true ht) (fun j _ hb hl => ?_) k hk
  · exact of_decide_eq_true this
  · rcases (bd_ok hb).2 with e | e
    · exact absurd e.1 hl
    · obtain ⟨a, a1, a2, -, a4⟩ := cls_of e.2.1
      obtain ⟨b, b1, b2, -, b4⟩ := cls_of e.2.2.1
      rw [a4, b4]
      exact ⟨decide_eq_true ⟨a1, a2⟩, decide_eq_true ⟨b1, b2⟩⟩
/-- where all of it is good, the rows are a rule -/
theorem RS_rule {sz lf rt : Nat → Int32} {t : Nat} {M : Nat → Bool} (h : RS sz lf rt t M) (ht : 1 ≤ t ∧ t ≤ 24) (hg : ∀ k, M k = true → bd sz lf rt k = false) :
    RuleOK (fun k => if M k then (sz k).toNatClampNeg else 0) (fun k => if M k then (lf k).toNatClampNeg else 0) (fun k => if M k then (rt k).toNatClampNeg else 0) M t ∧ (∀ k, M k = true → sz k = nI ((sz k).toNatClampNeg) ∧ lf k = nI ((lf k).toNatClampNeg) ∧ rt k = nI ((rt k).toNatClampNeg)) := by
  have h0 : M 0 = false := by
    cases e : M 0
    · rfl
    · have := RS_in h ht e; omega
  have key : ∀ k, M k = true → sz k = nI ((sz k).toNatClampNeg) ∧ lf k = nI ((lf k).toNatClampNeg) ∧ rt k = nI ((rt k).toNatClampNeg) := fun k hk => by
    have ho := bd_ok (hg k hk)
    obtain ⟨s, -, -, s3, s4⟩ := sz_of ho.1
    refine ⟨by rw [s4]; exact s3, ?_⟩
    rcases ho.2 with e | e
    · rw [e.1, e.2]; exact ⟨by decide, by decide⟩
    · obtain ⟨a, -, -, a3, a4⟩ := cls_of e.2.1
      obtain ⟨b, -, -, b3, b4⟩ := cls_of e.2.2.1
      exact ⟨by rw [a4]; exact a3, by rw [b4]; exact b3⟩
  refine ⟨⟨h.1, fun k hk => ?_, by simp [h0], by simp [h0], by simp [h0]⟩, key⟩
  have hin := RS_in h ht hk
  have ho := bd_ok (hg k hk)
  obtain ⟨s, s1, s2, s3, s4⟩ := sz_of ho.1
  simp only [hk, if_true]
  refine ⟨hin.1, hin.2, by omega, by omega, ?_⟩
  rcases ho.2 with e | e
  · rw [e.1, e.2]; exact Or.inl ⟨by decide, by decide⟩
  · have hc := h.2.1 k hk (hg k hk) e.1
    obtain ⟨-, ea, eb, l1, l2, l3⟩ := e
    have oa := bd_ok (hg _ hc.1)
    have ob := bd_ok (hg _ hc.2)
    obtain ⟨x, x1, x2, x3, x4⟩ := sz_of oa.1
    obtain ⟨y, y1, y2, y3, y4⟩ := sz_of ob.1
    refine Or.inr ⟨hc.1, hc.2, ?_⟩
    rw [hc.1, hc.2, if_pos rfl, if_pos rfl, x4, y4, s4]
    rw [x3, s3] at l1
    rw [y3, s3] at l2
    rw [x3, y3, s3, nI_l (by omega), nI_l (by omega), nI_l (by omega), lN_add] at l3
    exact ⟨(nI_ltI (by omega) (by omega)).mp l1, (nI_ltI (by omega) (by omega)).mp l2, (lN_eq (by omega) (by omega)).mp l3⟩
