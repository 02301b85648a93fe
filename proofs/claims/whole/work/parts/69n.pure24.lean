/-! Blocks by their address; what the face answers. -/
def blk (ad' rq : Nat → Nat) (l : List Nat) (v : Int32) : Nat := (l.find? (fun q => decide (0 < rq q) && decide (nI (ad' q) = v))).getD 0
section PureW
variable {top : Nat} {S L R : Nat → Nat} {rc : Nat → Bool} {sp : Nat → Bool} {rq nu : Nat → Nat} {mk n spare : Nat} {pa ch kd ad ra su un fo kp bs : Nat → Nat} {bl rd hd ncl rcv : Nat} {sz lf rt : Nat → Int32}
theorem cls_ok (hR : RuleOK S L R rc top) (hT : TOK top S L R sp rq) {p : Nat} (hx : ex sp p) : rc (cls top L R p) = true ∧ 1 ≤ cls top L R p ∧ cls top L R p ≤ 24 ∧ 4 ≤ S (cls top L R p) ∧ S (cls top L R p) ≤ 4194304 := by
  have h := cls_rc hR hT p hx
  have := hR.2.1 _ h
  exact ⟨h, this.1, this.2.1, this.2.2.1, this.2.2.2.1⟩
theorem adr_lt (hR : RuleOK S L R rc top) (hT : TOK top S L R sp rq) {p : Nat} (hx : ex sp p) : adr top S L R p < 4194304 := by
  have h1 := adr_le hR hT p hx
  have h2 := cls_ok hR hT hx
  have h3 := hR.2.1 _ hR.1
  omega
theorem adr_inj (hR : RuleOK S L R rc top) (hT : TOK top S L R sp rq) {p q : Nat} (hp : p ∈ lvs sp 1) (hq : q ∈ lvs sp 1) (h : adr top S L R p = adr top S L R q) : p = q := by
  have hs := lvs_sort hR hT 1 ex_1
  have sz : ∀ r ∈ lvs sp 1, 4 ≤ S (cls top L R r) := fun r hr => (cls_ok hR hT (lvs_mem hR hT 1 ex_1 r hr).1).2.2.2.1
  have key : ∀ l : List Nat, l.Pairwise (fun a b => adr top S L R a + S (cls top L R a) ≤ adr top S L R b) → (∀ r ∈ l, 4 ≤ S (cls top L R r)) → p ∈ l → q ∈ l → p = q := by
    intro l
    induction l with
    | nil => intro _ _ h1; exact absurd h1 List.not_mem_nil
    | cons a l ih =>
      intro hw hz h1 h2
      rw [List.pairwise_cons] at hw
      have za := hz a List.mem_cons_self
      rcases List.mem_cons.mp h1 with e1 | e1 <;> rcases List.mem_cons.mp h2 with e2 | e2
      · rw [e1, e2]
      · subst e1; have := hw.1 q e2; omega
      · subst e2; have := hw.1 p e1; omega
      · exact ih hw.2 (fun r hr => hz r (List.mem_cons_of_mem _ hr)) e1 e2
  exact key _ hs sz hp hq
theorem blk_leaf (hR : RuleOK S L R rc top) (hT : TOK top S L R sp rq) {v : Int32} (h : blk (adr top S L R) rq (lvs sp 1) v ≠ 0) :
    blk (adr top S L R) rq (lvs sp 1) v ∈ lvs sp 1 ∧ ex sp (blk (adr top S L R) rq (lvs sp 1) v) ∧ sp (blk (adr top S L R) rq (lvs sp 1) v) = false ∧ 0 < rq (blk (adr top S L R) rq (lvs sp 1) v) ∧ nI (adr top S L R (blk (adr top S L R) rq (lvs sp 1) v)) = v := by
  unfold blk at h ⊢
  cases e : (lvs sp 1).find? (fun q => decide (0 < rq q) && decide (nI (adr top S L R q) = v)) with
  | none => rw [e] at h; exact absurd rfl h
  | some q =>
    have h1 := List.mem_of_find?_eq_some e
    have h2 := List.find?_some e
    rw [Bool.and_eq_true, decide_eq_true_eq, decide_eq_true_eq] at h2
    have h3 := lvs_mem hR hT 1 ex_1 q h1
    exact ⟨h1, h3.1, h3.2, h2.1, h2.2⟩
theorem blk_at (hR : RuleOK S L R rc top) (hT : TOK top S L R sp rq) {q : Nat} {v : Int32} (hq : q ∈ lvs sp 1) (hr : 0 < rq q) (hv : nI (adr top S L R q) = v) : blk (adr top S L R) rq (lvs sp 1) v = q := by
  have hn : blk (adr top S L R) rq (lvs sp 1) v ≠ 0 := by
    unfold blk
    cases e : (lvs sp 1).find? (fun q => decide (0 < rq q) && decide (nI (adr top S L R q) = v)) with
    | none =>
      have := List.find?_eq_none.mp e q hq
      rw [Bool.and_eq_true, decide_eq_true_eq, decide_eq_true_eq] at this
      exact absurd ⟨hr, hv⟩ this
    | some z =>
      have h1 := (lvs_mem hR hT 1 ex_1 z (List.mem_of_find?_eq_some e)).1
      have := ex_pos h1
      show z ≠ 0
      omega
  obtain ⟨h1, h2, h3, h4, h5⟩ := blk_leaf hR hT hn
  refine adr_inj hR hT h1 hq ((nI_eq ?_ ?_).mp (h5.trans hv.symm))
  · have := adr_lt hR hT h2; omega
  · have := adr_lt hR hT (lvs_mem hR hT 1 ex_1 q hq).1; omega
/-- what liveAt answers -/
theorem blk_cls (hR : RuleOK S L R rc top) (h : wI top S L R sp rq nu [] n mk spare pa ch kd ad ra su un fo bl rd hd) (v : Int32) :
    (if nI (ad (fLive v ch ad)) = v ∧ 0 < ra (fLive v ch ad) then nI (fLive v ch ad) else nI 0) = nI (nz nu (blk (adr top S L R) rq (lvs sp 1) v)) := by
  have hT := h.1.1
  have hK := h.1.2.1
  obtain ⟨q, e, hx, hs⟩ := fLive_any hR hT hK v
  have hq := hK.2.1 q hx
  have hm := lvs_all hR hT hx hs
  rw [e, hq.2.2.2.1, hq.2.2.2.2.2.2]
  split
  · rename_i c
    rw [blk_at hR hT hm c.2 c.1]
    unfold nz
    rw [if_neg (by have := ex_pos hx; omega)]
  · rename_i c
    by_cases h0 : blk (adr top S L R) rq (lvs sp 1) v = 0
    · rw [h0]; rfl
    · obtain ⟨h1, h2, h3, h4, h5⟩ := blk_leaf hR hT h0
      have := fLive_some hR hT hK h2 h3
      rw [h5, e] at this
      have e2 := hK.2.2.2 _ _ hx h2 this
      rw [e2] at c
      exact absurd ⟨h5, h4⟩ c
/-- the side taken at a depth on the way to a node -/
theorem side_at (hR : RuleOK S L R rc top) (h : wI top S L R sp rq nu [] n mk spare pa ch kd ad ra su un fo bl rd hd) {p : Nat} (hx : ex sp p) (d : Nat) :
    (if mDepth pa 24 (nu p) 0 < 1 + d then (-1 : Int32) else nI (itN pa (mDepth pa 24 (nu p) 0 - 1 - d) (nu p) &&& 1)) = if dep p ≤ d then -1 else nI (p / 2 ^ (dep p - 1 - d) % 2) := by
  have hT := h.1.1
  have hK := h.1.2.1
  have hd := dep_23 hR hT p hx
  rw [mDepth_dep hT hK 24 p 0 hx (by omega), Nat.zero_add]
  by_cases c : dep p ≤ d
  · rw [if_pos (by omega), if_pos c]
  · rw [if_neg (by omega), if_neg c]
    have hu := itN_up hT hK (dep p - 1 - d) p hx (by omega)
    have h1 := dep_pow (dep p) p (ex_pos hx) rfl
    have h2 : 2 ≤ p / 2 ^ (dep p - 1 - d) := by
      rw [Nat.le_div_iff_mul_le (Nat.two_pow_pos _)]
      refine Nat.le_trans ?_ h1.1
      rw [← Nat.pow_succ']
      exact Nat.pow_le_pow_right (by decide) (by omega)
    rw [hu.1, nu_side hT hK hu.2 h2]
theorem wI_dep (hR : RuleOK S L R rc top) (h : wI top S L R sp rq nu [] n mk spare pa ch kd ad ra su un fo bl rd hd) {p : Nat} (hx : ex sp p) : mDepth pa 24 (nu p) 0 = dep p := by
  have hd := dep_23 hR h.1.1 p hx
  rw [mDepth_dep h.1.1 h.1.2.1 24 p 0 hx (by omega), Nat.zero_add]
theorem wI_nu (h : wI top S L R sp rq nu [] n mk spare pa ch kd ad ra su un fo bl rd hd) {p : Nat} (hx : ex sp p) : 1 ≤ nu p ∧ nu p < n ∧ kd (nu p) = cls top L R p ∧ ad (nu p) = adr top S L R p ∧ ra (nu p) = rq p := by
  have hq := h.1.2.1.2.1 p hx
  have hm := h.1.2.2.2.2.2.2.2.1
  exact ⟨hq.1, by omega, hq.2.2.1, hq.2.2.2.1, hq.2.2.2.2.2.2⟩
end PureW
/-- a memory, as the class holds it -/
def MOK (top : Nat) (S L R : Nat → Nat) (rc sp : Nat → Bool) (rq nu : Nat → Nat) (n mk sv rcv ncl bl rd hd : Nat) (pa ch kd ad ra su un fo kp bs : Nat → Nat) (sz lf rt : Nat → Int32) : Prop :=
  RuleOK S L R rc top ∧ rOK S L R rc sz lf rt ∧ wI top S L R sp rq nu [] n mk sv pa ch kd ad ra su un fo bl rd hd ∧ bOK S rc ncl bs ∧ (rcv < 2 ^ 31 ∧ ∀ k, 1 ≤ k → k ≤ 24 → (rcv / 2 ^ k &&& 1 = 1 ↔ rc k = true)) ∧ (∀ j, kp j ≤ 255)
theorem sw_ix (v : Int32) {n : Nat} (hn : n < 2 ^ 31) : (v.toInt < 0 ∨ (n : Int) ≤ v.toInt) ∨ ∃ j, j < n ∧ v = nI j := by
  rcases pk_ix v hn with h | h | h
  · exact Or.inl (Or.inl (Int32.lt_iff_toInt_lt.mp h))
  · have := Int32.le_iff_toInt_le.mp h
    rw [nI_toInt hn] at this
    exact Or.inl (Or.inr this)
  · exact Or.inr h
theorem sw3 (v : Int32) : (v.toInt < 0 ∨ 2 < v.toInt) ∨ v = nI 0 ∨ v = nI 1 ∨ v = nI 2 := by
  rcases sw_ix v (n := 3) (by decide) with h | ⟨j, h, rfl⟩
  · exact Or.inl (by omega)
  · rcases (show j = 0 ∨ j = 1 ∨ j = 2 by omega) with rfl | rfl | rfl <;> simp
theorem sw10 (v : Int32) : (v.toInt < 0 ∨ 9 < v.toInt) ∨ v = nI 0 ∨ v = nI 1 ∨ v = nI 2 ∨ v = nI 3 ∨ v = nI 4 ∨ v = nI 5 ∨ v = nI 6 ∨ v = nI 7 ∨ v = nI 8 ∨ v = nI 9 := by
  rcases sw_ix v (n := 10) (by decide) with h | ⟨j, h, rfl⟩
  · exact Or.inl (by omega)
  · rcases (show j = 0 ∨ j = 1 ∨ j = 2 ∨ j = 3 ∨ j = 4 ∨ j = 5 ∨ j = 6 ∨ j = 7 ∨ j = 8 ∨ j = 9 by omega) with rfl | rfl | rfl | rfl | rfl | rfl | rfl | rfl | rfl | rfl <;> simp
theorem not_cls {v : Int32} {k : Nat} (h : ¬ (nI 1 ≤ v ∧ v ≤ nI 24)) (hk : 1 ≤ k ∧ k ≤ 24) : v ≠ nI k := fun e => h (by subst e; exact ⟨nI_le hk.1 (by omega), nI_le hk.2 (by decide)⟩)
def bS (rc : Nat → Bool) (f : Nat → Int32) : Nat → Nat := fun k => if rc k then (f k).toNatClampNeg else 0
theorem bS_ok {tz tl ty : Nat → Int32} {t : Nat} {rc : Nat → Bool} (h : RS tz tl ty t rc) (ht : 1 ≤ t ∧ t ≤ 24) (hg : ∀ k, rc k = true → bd tz tl ty k = false) (h0 : tz 0 = 0 ∧ tl 0 = 0 ∧ ty 0 = 0) :
    RuleOK (bS rc tz) (bS rc tl) (bS rc ty) rc t ∧ rOK (bS rc tz) (bS rc tl) (bS rc ty) rc tz tl ty := by
  obtain ⟨h1, h2⟩ := RS_rule h ht hg
  refine ⟨h1, fun k hk => ?_⟩
  have hr0 : rc 0 = false := by
    cases e : rc 0
    · rfl
    · have := RS_in h ht e; omega
  rcases hk with hk | hk
  · have := h2 k hk
    unfold bS
    rw [if_pos hk, if_pos hk, if_pos hk]
    exact this
  · subst hk
    unfold bS
    rw [hr0, h0.1, h0.2.1, h0.2.2]
    exact ⟨by decide, by decide, by decide⟩
/-- no bad class is reached -/
theorem lwb_good {tz tl ty : Nat → Int32} {t : Nat} {rc : Nat → Bool} (h : RS tz tl ty t rc) (ht : 1 ≤ t ∧ t ≤ 24) (hz : lwb (fun j => rc j && bd tz tl ty j) = 0) : ∀ k, rc k = true → bd tz tl ty k = false := by
  intro k hk
  have hi := RS_in h ht hk
  have := lwb_z hz hi.1 hi.2
  rw [hk] at this
  simpa using this
theorem lwb_b (f : Nat → Bool) : lwb f ≤ 24 := by
  have key : ∀ n k, lwF f n k < k + n ∨ lwF f n k = 0 := by
    intro n
    induction n with
    | zero => intro k; exact Or.inr rfl
    | succ n ih =>
      intro k
      rw [lwF]
      split
      · omega
      · have := ih (k + 1); omega
  have := key 24 1
  unfold lwb
  omega
theorem mask_rc {M : Nat} {rc : Nat → Bool} (h : (fun j => M.testBit j) = rc) : ∀ k, 1 ≤ k → k ≤ 24 → (M / 2 ^ k &&& 1 = 1 ↔ rc k = true) := fun k _ _ => by
  rw [bit_div, ← h]
