/-! The reference's build. -/
theorem cnt_mono {f g : Nat → Bool} (h : ∀ k, f k = true → g k = true) : ∀ n, cnt f n ≤ cnt g n
  | 0 => Nat.le_refl _
  | n + 1 => by
    have ih := cnt_mono h n
    rw [cnt, cnt]
    cases e : f n
    · simp; omega
    · rw [h n e]; simp; omega
theorem cnt_lu {f g : Nat → Bool} (h : ∀ k, f k = true → g k = true) {j : Nat} (hf : f j = false) (hg : g j = true) : ∀ n, j < n → cnt f n < cnt g n
  | 0, hj => absurd hj (Nat.not_lt_zero _)
  | n + 1, hj => by
    rw [cnt, cnt]
    by_cases e : j = n
    · subst e
      have := cnt_mono h j
      rw [hf, hg]; simp; omega
    · have ih := cnt_lu h hf hg n (by omega)
      cases e2 : f n
      · simp; omega
      · rw [h n e2]; simp; omega
/-- reached so far -/
def bT (tz tl ty : Nat → Int32) (t : Nat) (M : Nat → Bool) : Prop := M t = true ∧ (∀ k, M k = true → 1 ≤ k ∧ k ≤ 24) ∧ ∀ P : Nat → Bool, P t = true → clo tz tl ty P → ∀ k, M k = true → P k = true
/-- closed up to a class -/
def cT (tz tl ty : Nat → Int32) (M : Nat → Bool) (j : Nat) : Prop := ∀ k, k < j → M k = true → bd tz tl ty k = false → ¬ tl k = 0 → M (tl k).toNatClampNeg = true ∧ M (ty k).toNatClampNeg = true
section PureR
variable {tz tl ty : Nat → Int32} {t j a b : Nat} {M M0 : Nat → Bool}
theorem bT_0 (ht : 1 ≤ t ∧ t ≤ 24) (h1 : ∀ k, 1 ≤ k → k < 25 → M k = decide (k = t)) (h2 : ∀ k, ¬ (1 ≤ k ∧ k ≤ 24) → M k = false) : bT tz tl ty t M := by
  refine ⟨by rw [h1 t ht.1 (by omega)]; simp, fun k hk => ?_, fun P p1 _ k hk => ?_⟩
  · apply Classical.byContradiction
    intro e
    rw [h2 k e] at hk; exact absurd hk (by decide)
  · by_cases e : 1 ≤ k ∧ k ≤ 24
    · rw [h1 k e.1 (by omega)] at hk
      rw [of_decide_eq_true hk]; exact p1
    · rw [h2 k e] at hk; exact absurd hk (by decide)
theorem bT_end (h : bT tz tl ty t M) (hc : cT tz tl ty M 25) : RS tz tl ty t M := ⟨h.1, fun k hk => hc k (by have := h.2.1 k hk; omega) hk, h.2.2⟩
theorem cT_s (h : cT tz tl ty M j) (hs : M j = true → bd tz tl ty j = false → ¬ tl j = 0 → M (tl j).toNatClampNeg = true ∧ M (ty j).toNatClampNeg = true) : cT tz tl ty M (j + 1) := fun k hk => by
  by_cases e : k = j
  · subst e; exact hs
  · exact h k (by omega)
theorem bT_add (h : bT tz tl ty t M) (hj : M j = true) (hb : bd tz tl ty j = false) (hl : ¬ tl j = 0) (ha : (tl j).toNatClampNeg = a) (hb' : (ty j).toNatClampNeg = b) (a1 : 1 ≤ a ∧ a ≤ 24) (b1 : 1 ≤ b ∧ b ≤ 24) : bT tz tl ty t (upB (upB M a true) b true) ∧ ∀ k, M k = true → upB (upB M a true) b true k = true := by
  have up : ∀ k, M k = true → upB (upB M a true) b true k = true := fun k hk => by
    unfold upB
    split
    · rfl
    · split
      · rfl
      · exact hk
  have dn : ∀ k, upB (upB M a true) b true k = true → k = b ∨ k = a ∨ M k = true := fun k hk => by
    unfold upB at hk
    split at hk
    · left; assumption
    · split at hk
      · right; left; assumption
      · right; right; exact hk
  refine ⟨⟨up _ h.1, fun k hk => ?_, fun P p1 p2 k hk => ?_⟩, up⟩
  · rcases dn k hk with e | e | e
    · omega
    · omega
    · exact h.2.1 k e
  · have hc := p2 j (h.2.2 P p1 p2 j hj) hb hl
    rw [ha, hb'] at hc
    rcases dn k hk with e | e | e
    · rw [e]; exact hc.2
    · rw [e]; exact hc.1
    · exact h.2.2 P p1 p2 k e
theorem upB_same {f : Nat → Bool} {k : Nat} (h : f k = true) : upB f k true = f := by
  funext j
  unfold upB
  split
  · rename_i e; rw [e, h]
  · rfl
theorem upB_has {f : Nat → Bool} : upB (upB f a true) b true a = true ∧ upB (upB f a true) b true b = true := by
  unfold upB
  simp
end PureR
def fmB (f g : Nat → Bool) (j : Nat) : Nat → Bool := fun i => if 1 ≤ i ∧ i < j then g i else f i
theorem fmB_1 (f g : Nat → Bool) : fmB f g 1 = f := by funext i; unfold fmB; rw [if_neg (by omega)]
theorem fmB_s {f g : Nat → Bool} {j : Nat} (h1 : 1 ≤ j) : upB (fmB f g j) j (g j) = fmB f g (j + 1) := by
  funext i
  unfold upB fmB
  by_cases e : i = j
  · subst e; rw [if_pos rfl, if_pos (by omega)]
  · rw [if_neg e]
    by_cases e2 : 1 ≤ i ∧ i < j
    · rw [if_pos e2, if_pos (by omega)]
    · rw [if_neg e2, if_neg (by omega)]
theorem fmB_e {f g : Nat → Bool} (h : ∀ k, ¬ (1 ≤ k ∧ k ≤ 24) → f k = false) (h2 : ∀ k, g k = true → 1 ≤ k ∧ k ≤ 24) : fmB f g 25 = g := by
  funext i
  unfold fmB
  split
  · rfl
  · rename_i e
    rw [h i (by omega)]
    cases q : g i
    · rfl
    · have := h2 i q; omega
def fmN (f g : Nat → Nat) (j : Nat) : Nat → Nat := fun i => if 1 ≤ i ∧ i < j then g i else f i
theorem fmN_1 (f g : Nat → Nat) : fmN f g 1 = f := by funext i; unfold fmN; rw [if_neg (by omega)]
theorem fmN_s {f g : Nat → Nat} {j v : Nat} (h1 : 1 ≤ j) (h : g j = v) : upN (fmN f g j) j v = fmN f g (j + 1) := by
  funext i
  unfold upN fmN
  by_cases e : i = j
  · subst e; rw [if_pos rfl, if_pos (by omega)]; exact h.symm
  · rw [if_neg e]
    by_cases e2 : 1 ≤ i ∧ i < j
    · rw [if_pos e2, if_pos (by omega)]
    · rw [if_neg e2, if_neg (by omega)]
theorem fmN_e {f : Nat → Nat} (h : ∀ k, ¬ (1 ≤ k ∧ k ≤ 24) → f k = 0) : fmN f (fun _ => 0) 25 = fun _ => 0 := by
  funext i
  unfold fmN
  split
  · rfl
  · exact h i (by omega)
theorem fmi_rOK {rc : Nat → Bool} {tz tl ty sz lf rt : Nat → Int32} {S L R : Nat → Nat} (hrc : ∀ k, rc k = true → 1 ≤ k ∧ k ≤ 24) (h : rOK S L R rc tz tl ty) (h0 : sz 0 = 0 ∧ lf 0 = 0 ∧ rt 0 = 0) (h00 : tz 0 = 0 ∧ tl 0 = 0 ∧ ty 0 = 0) : rOK S L R rc (fmi sz tz 25) (fmi lf tl 25) (fmi rt ty 25) := fun k hk => by
  rcases hk with e | e
  · have h1 := hrc k e
    rw [fmi_in h1.1 (by omega), fmi_in h1.1 (by omega), fmi_in h1.1 (by omega)]
    exact h k (Or.inl e)
  · subst e
    have h1 := h 0 (Or.inr rfl)
    rw [h00.1, h00.2.1, h00.2.2] at h1
    unfold fmi
    rw [if_neg (by omega), if_neg (by omega), if_neg (by omega), h0.1, h0.2.1, h0.2.2]
    exact h1
theorem nW_begin {t : Nat} {S L R nd : Nat → Nat} : nW t S L R (fun _ => 0) (upN nd 0 (enc 0 0 t 0 0)) (lvs (fun _ => false) 1) := fun i p hp => by
  rw [lvs_n rfl] at hp
  cases i with
  | zero =>
    have e : 1 = p := by simpa using hp
    subst e
    rw [upN_s]
    unfold wrd
    rw [adr_1, cls_1, dep_1]
    rfl
  | succ i => simp at hp
