/-! The reference's blocks. -/
def bW (ad' rq : Nat → Nat) (bl : Nat) (ba rv bf : Nat → Nat) : Prop :=
  (∀ j, j < bl → 0 < rq (bf j) ∧ ba j = ad' (bf j) ∧ rv j = rq (bf j)) ∧ (∀ j k, j < bl → k < bl → bf j = bf k → j = k) ∧ ∀ p, 0 < rq p → ∃ j, j < bl ∧ bf j = p
section PureB
variable {top : Nat} {S L R : Nat → Nat} {rc : Nat → Bool} {sp : Nat → Bool} {rq ba rv bf ad' : Nat → Nat} {bl w y b0 : Nat}
theorem bW_0 : bW ad' (fun _ => 0) 0 ba rv bf := ⟨fun j h => absurd h (Nat.not_lt_zero _), fun j k h => absurd h (Nat.not_lt_zero _), fun p h => absurd h (Nat.lt_irrefl _)⟩
theorem bW_give (h : bW ad' rq bl ba rv bf) (hy : rq y = 0) (hw : 1 ≤ w) : bW ad' (upN rq y w) (bl + 1) (upN ba bl (ad' y)) (upN rv bl w) (upN bf bl y) := by
  have hne : ∀ j, j < bl → bf j ≠ y := fun j hj e => by
    have := (h.1 j hj).1
    rw [e] at this
    omega
  refine ⟨fun j hj => ?_, fun j k hj hk e => ?_, fun p hp => ?_⟩
  · by_cases c : j = bl
    · subst c
      rw [upN_s, upN_s, upN_s, upN_s]
      exact ⟨hw, rfl, rfl⟩
    · have h1 := h.1 j (by omega)
      rw [upN_n _ _ c, upN_n _ _ c, upN_n _ _ c, upN_n _ _ (hne j (by omega))]
      exact h1
  · by_cases c : j = bl <;> by_cases c2 : k = bl
    · omega
    · subst c; rw [upN_s, upN_n _ _ c2] at e; exact absurd e.symm (hne k (by omega))
    · subst c2; rw [upN_s, upN_n _ _ c] at e; exact absurd e (hne j (by omega))
    · rw [upN_n _ _ c, upN_n _ _ c2] at e
      exact h.2.1 j k (by omega) (by omega) e
  · by_cases c : p = y
    · exact ⟨bl, by omega, by rw [upN_s, c]⟩
    · rw [upN_n _ _ c] at hp
      obtain ⟨j, h1, h2⟩ := h.2.2 p hp
      exact ⟨j, by omega, by rw [upN_n _ _ (by omega)]; exact h2⟩
theorem bW_free (h : bW ad' rq bl ba rv bf) (hb : b0 < bl) : bW ad' (upN rq (bf b0) 0) (bl - 1) (upN ba b0 (ba (bl - 1))) (upN rv b0 (rv (bl - 1))) (upN bf b0 (bf (bl - 1))) := by
  have hne : ∀ j, j < bl → j ≠ b0 → bf j ≠ bf b0 := fun j hj c e => c (h.2.1 j b0 hj hb e)
  refine ⟨fun j hj => ?_, fun j k hj hk e => ?_, fun p hp => ?_⟩
  · by_cases c : j = b0
    · subst c
      have h1 := h.1 (bl - 1) (by omega)
      rw [upN_s, upN_s, upN_s, upN_n _ _ (hne (bl - 1) (by omega) (by omega))]
      exact h1
    · have h1 := h.1 j (by omega)
      rw [upN_n _ _ c, upN_n _ _ c, upN_n _ _ c, upN_n _ _ (hne j (by omega) c)]
      exact h1
  · by_cases c : j = b0 <;> by_cases c2 : k = b0
    · omega
    · subst c; rw [upN_s, upN_n _ _ c2] at e; have := h.2.1 _ _ (by omega) (by omega) e; omega
    · subst c2; rw [upN_s, upN_n _ _ c] at e; have := h.2.1 _ _ (by omega) (by omega) e; omega
    · rw [upN_n _ _ c, upN_n _ _ c2] at e
      exact h.2.1 j k (by omega) (by omega) e
  · by_cases c : p = bf b0
    · rw [c, upN_s] at hp; omega
    · rw [upN_n _ _ c] at hp
      obtain ⟨j, h1, h2⟩ := h.2.2 p hp
      have hj : j ≠ b0 := fun e => c (by rw [← h2, e])
      by_cases c2 : j = bl - 1
      · exact ⟨b0, by omega, by rw [upN_s, ← c2]; exact h2⟩
      · exact ⟨j, by omega, by rw [upN_n _ _ hj]; exact h2⟩
theorem bW_set (h : bW ad' rq bl ba rv bf) (hb : b0 < bl) (hw : 1 ≤ w) : bW ad' (upN rq (bf b0) w) bl ba (upN rv b0 w) bf := by
  have hne : ∀ j, j < bl → j ≠ b0 → bf j ≠ bf b0 := fun j hj c e => c (h.2.1 j b0 hj hb e)
  refine ⟨fun j hj => ?_, h.2.1, fun p hp => ?_⟩
  · have h1 := h.1 j hj
    by_cases c : j = b0
    · subst c; rw [upN_s, upN_s]; exact ⟨hw, h1.2.1, rfl⟩
    · rw [upN_n _ _ c, upN_n _ _ (hne j hj c)]; exact h1
  · by_cases c : p = bf b0
    · exact ⟨b0, hb, c.symm⟩
    · rw [upN_n _ _ c] at hp; exact h.2.2 p hp
theorem bW_perm (hR : RuleOK S L R rc top) (hT : TOK top S L R sp rq) (h : bW ad' rq bl ba rv bf) : ((List.range bl).map bf).Perm ((lvs sp 1).filter (fun q => decide (0 < rq q))) := by
  have n1 : ((List.range bl).map bf).Nodup := by
    rw [List.Nodup, List.pairwise_map]
    refine List.Pairwise.imp_of_mem (fun {a b} ha hb hab e => hab ?_) List.nodup_range
    exact h.2.1 a b (List.mem_range.mp ha) (List.mem_range.mp hb) e
  have n2 : ((lvs sp 1).filter (fun q => decide (0 < rq q))).Nodup := (lvs_nodup hR hT ex_1).sublist List.filter_sublist
  rw [List.perm_ext_iff_of_nodup n1 n2]
  intro p
  rw [List.mem_map, List.mem_filter, decide_eq_true_eq]
  constructor
  · rintro ⟨j, h1, rfl⟩
    have h2 := (h.1 j (List.mem_range.mp h1)).1
    have h3 := hT.2 _ h2
    exact ⟨lvs_all hR hT h3.1 h3.2.1, h2⟩
  · rintro ⟨-, h2⟩
    obtain ⟨j, h3, h4⟩ := h.2.2 p h2
    exact ⟨j, List.mem_range.mpr h3, h4⟩
theorem bW_bl (hR : RuleOK S L R rc top) (hT : TOK top S L R sp rq) (h : bW ad' rq bl ba rv bf) : bl = nB sp rq := by
  have := (bW_perm hR hT h).length_eq
  rw [List.length_map, List.length_range] at this
  unfold nB
  rw [List.countP_eq_length_filter]
  exact this
theorem sum_filter (l : List Nat) : ((l.filter (fun q => decide (0 < rq q))).map rq).sum = (l.map rq).sum := by
  induction l with
  | nil => rfl
  | cons a l ih =>
    by_cases c : 0 < rq a
    · rw [List.filter_cons_of_pos (by exact decide_eq_true c), List.map_cons, List.map_cons, List.sum_cons, List.sum_cons, ih]
    · rw [List.filter_cons_of_neg (by rw [decide_eq_true_eq]; exact c), List.map_cons, List.sum_cons, ih]
      omega
theorem bW_sum (hR : RuleOK S L R rc top) (hT : TOK top S L R sp rq) (h : bW ad' rq bl ba rv bf) : ((List.range bl).map rv).sum = sQ sp rq := by
  have e : (List.range bl).map rv = ((List.range bl).map bf).map rq := by
    rw [List.map_map]
    refine List.map_congr_left (fun j hj => ?_)
    exact (h.1 j (List.mem_range.mp hj)).2.2
  have p := (bW_perm hR hT h).map rq
  rw [e, p.sum_nat]
  exact sum_filter _
/-- a block is found by its address -/
theorem bW_blk (hR : RuleOK S L R rc top) (hT : TOK top S L R sp rq) (h : bW (adr top S L R) rq bl ba rv bf) (v : Int32) :
    (blk (adr top S L R) rq (lvs sp 1) v ≠ 0 → ∃ b, b < bl ∧ bf b = blk (adr top S L R) rq (lvs sp 1) v ∧ nI (ba b) = v ∧ ∀ j, j < b → ¬ nI (ba j) = v) ∧ (blk (adr top S L R) rq (lvs sp 1) v = 0 → ∀ j, j < bl → ¬ nI (ba j) = v) := by
  have key : ∀ j, j < bl → nI (ba j) = v → blk (adr top S L R) rq (lvs sp 1) v = bf j := fun j hj e => by
    have h1 := h.1 j hj
    have h2 := hT.2 _ h1.1
    exact blk_at hR hT (lvs_all hR hT h2.1 h2.2.1) h1.1 (by rw [← h1.2.1]; exact e)
  constructor
  · intro hne
    obtain ⟨-, -, -, h4, h5⟩ := blk_leaf hR hT hne
    obtain ⟨b, b1, b2⟩ := h.2.2 _ h4
    refine ⟨b, b1, b2, by rw [(h.1 b b1).2.1, b2]; exact h5, fun j hj e => ?_⟩
    have := key j (by omega) e
    rw [← b2] at this
    have := h.2.1 b j b1 (by omega) this
    omega
  · intro h0 j hj e
    have h1 := key j hj e
    rw [h0] at h1
    have := ex_pos (hT.2 _ (h.1 j hj).1).1
    omega
end PureB
theorem bW_y {top : Nat} {S L R : Nat → Nat} {rc sp : Nat → Bool} {rq ba rv bf : Nat → Nat} {bl y : Nat} (hR : RuleOK S L R rc top) (hT : TOK top S L R sp rq) (h : bW (adr top S L R) rq bl ba rv bf) (hy : 0 < rq y) :
    ∃ b, b < bl ∧ bf b = y ∧ nI (ba b) = nI (adr top S L R y) ∧ (∀ j, j < b → ¬ nI (ba j) = nI (adr top S L R y)) ∧ ba b = adr top S L R y ∧ rv b = rq y := by
  have hl := hT.2 y hy
  have hb := blk_at hR hT (lvs_all hR hT hl.1 hl.2.1) hy rfl
  obtain ⟨b, b1, b2, b3, b4⟩ := (bW_blk hR hT h (nI (adr top S L R y))).1 (by rw [hb]; have := ex_pos hl.1; omega)
  rw [hb] at b2
  have h1 := h.1 b b1
  rw [b2] at h1
  exact ⟨b, b1, b2, b3, b4, h1.2.1, h1.2.2⟩
theorem nW_live {top : Nat} {S L R rq nd : Nat → Nat} {l : List Nat} {y w : Nat} (h : nW top S L R rq nd l) (hy : 0 < rq y) (hw : 1 ≤ w) : nW top S L R (upN rq y w) nd l := fun i p hp => by
  rw [h i p hp]
  by_cases e : p = y
  · subst e; unfold wrd; rw [upN_s, if_pos hy, if_pos (by omega)]
  · rw [wrd_set e]
