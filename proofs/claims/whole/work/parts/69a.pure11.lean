def jo (ch ra su : Nat → Nat) : Nat := if su 1 &&& 1 = 0 then 0 else fJoi ch ra su
def dbl (n m : Nat) : Nat := if n < m then n * 2 else n
theorem dbl_le (n m : Nat) : n ≤ dbl n m ∧ dbl n m ≤ n * 2 := by unfold dbl; split <;> omega
theorem dbl_mono (n : Nat) {a b : Nat} (h : a ≤ b) : dbl n a ≤ dbl n b := by unfold dbl; split <;> split <;> omega
theorem dbl_dbl {n a b : Nat} (h : a ≤ b) (hb : b ≤ n * 2) : dbl (dbl n a) b = dbl n b := by unfold dbl; split <;> split <;> first | omega | (rw [if_pos (by omega)]) | (rw [if_neg (by omega)])
section PureK
variable {top : Nat} {S L R : Nat → Nat} {rc : Nat → Bool} {sp : Nat → Bool} {rq nu : Nat → Nat} {mk n spare : Nat} {pa ch kd ad ra su un fo kp : Nat → Nat} {bad : List Nat} {bl rd hd : Nat} {sz lf rt : Nat → Int32}
theorem jo_0 (hR : RuleOK S L R rc top) (h : wI top S L R sp rq nu [] n mk spare pa ch kd ad ra su un fo bl rd hd) (h0 : jo ch ra su = 0) : ∀ x, ¬ joi sp rq x := by
  have hT := h.1.1
  have hS := h.1.2.1
  have hU := h.1.2.2.1
  have hz : su 1 &&& 1 = 0 := by
    apply Classical.byContradiction
    intro hc
    obtain ⟨x, e, hj⟩ := fJoi_joi hR hT hS hU hc
    unfold jo at h0
    rw [if_neg hc, e] at h0
    have := (tI_lt h.1 (hT.1 x hj.1).2.1).1
    omega
  refine smy_0_none hR hT ?_
  have := (hU 1 ex_1 List.not_mem_nil).1
  rw [hS.1] at this
  rw [← this, Nat.testBit_zero]
  rw [Nat.and_one_is_mod] at hz
  simp [hz]
theorem jo_s (hR : RuleOK S L R rc top) (h : wI top S L R sp rq nu [] n mk spare pa ch kd ad ra su un fo bl rd hd) (h0 : ¬ jo ch ra su = 0) : ∃ x, jo ch ra su = nu x ∧ joi sp rq x := by
  have hc : ¬ su 1 &&& 1 = 0 := fun e => h0 (by unfold jo; rw [if_pos e])
  obtain ⟨x, e, hj⟩ := fJoi_joi hR h.1.1 h.1.2.1 h.1.2.2.1 hc
  exact ⟨x, by unfold jo; rw [if_neg hc, e], hj⟩
theorem tp_mk (h : wI top S L R sp rq nu bad n mk spare pa ch kd ad ra su un fo bl rd hd) : tpM mk spare = max mk (2 * ((lvs sp 1).length + 1)) ∧ tpN n mk spare = dbl n (tpM mk spare) ∧ tpM mk spare ≤ mk + 2 := by
  obtain ⟨sl, hF, hle⟩ := h.1.2.2.2.1
  have hmn := h.1.2.2.2.2.2.2.2.1
  cases sl with
  | nil =>
    have e : spare = 0 := hF.1
    simp at hle
    unfold tpM tpN dbl
    rw [if_pos e]
    refine ⟨by omega, ?_, by omega⟩
    by_cases c : n < mk + 2
    · rw [if_pos ⟨e, c⟩, if_pos c]
    · rw [if_neg (fun q => c q.2), if_neg c]
  | cons i r =>
    have e : spare = i := hF.1.1
    have h9 := hF.2.2 i List.mem_cons_self
    simp at hle
    unfold tpM tpN dbl
    rw [if_neg (by omega), if_neg (by omega), if_neg (by omega)]
    exact ⟨by omega, rfl, by omega⟩
theorem mk_len (h : wI top S L R sp rq nu bad n mk spare pa ch kd ad ra su un fo bl rd hd) : 2 * (lvs sp 1).length ≤ mk ∧ mk ≤ n ∧ 64 ≤ n := by
  obtain ⟨sl, hF, hle⟩ := h.1.2.2.2.1
  exact ⟨by omega, h.1.2.2.2.2.2.2.2.1, h.1.2.2.2.2.2.2.2.2.2⟩
theorem rl_kids (hR : RuleOK S L R rc top) (hrl : rOK S L R rc sz lf rt) {k : Nat} (hk : rc k = true) : sz k = nI (S k) ∧ lf k = nI (L k) ∧ rt k = nI (R k) ∧ sz (L k) = nI (S (L k)) ∧ sz (R k) = nI (S (R k)) ∧ L k ≤ 24 ∧ R k ≤ 24 ∧ S (L k) < 2 ^ 31 ∧ S (R k) < 2 ^ 31 ∧ S k < 2 ^ 31 ∧ k ≤ 24 := by
  have h0 := hrl k (Or.inl hk)
  have h1 := hR.2.1 k hk
  refine ⟨h0.1, h0.2.1, h0.2.2, ?_⟩
  rcases h1.2.2.2.2 with e | e
  · rw [e.1, e.2, hR.2.2.1]
    have hz := (hrl 0 (Or.inr rfl)).1
    rw [hR.2.2.1] at hz
    exact ⟨hz, hz, by decide, by decide, by decide, by decide, by omega, by omega⟩
  · have a := hR.2.1 _ e.1
    have b := hR.2.1 _ e.2.1
    exact ⟨(hrl _ (Or.inl e.1)).1, (hrl _ (Or.inl e.2.1)).1, by omega, by omega, by omega, by omega, by omega, by omega⟩
theorem holds_L (hR : RuleOK S L R rc top) {k w : Nat} (hk : rc k = true) (hw : 1 ≤ w) (h : w ≤ S (L k) ∨ w ≤ S (R k)) : ¬ L k = 0 := fun e => by
  rcases (hR.2.1 k hk).2.2.2.2 with q | q
  · rw [q.1, q.2, hR.2.2.1] at h
    omega
  · have := (hR.2.1 _ q.1).1
    omega
theorem aCv_ok (hR : RuleOK S L R rc top) {w : Nat} (hw : 1 ≤ w) : ∀ (k : Nat) (sp : Nat → Bool) (x j : Nat), TOK top S L R sp rq → ex sp x → sp x = false → rq x = 0 →
    TOK top S L R (aCv S L R (cls top L R) w k (sp, x, j)).1 rq ∧ ex (aCv S L R (cls top L R) w k (sp, x, j)).1 (aCv S L R (cls top L R) w k (sp, x, j)).2.1 ∧ (aCv S L R (cls top L R) w k (sp, x, j)).1 (aCv S L R (cls top L R) w k (sp, x, j)).2.1 = false ∧ rq (aCv S L R (cls top L R) w k (sp, x, j)).2.1 = 0 ∧ (∀ p, ex sp p → ex (aCv S L R (cls top L R) w k (sp, x, j)).1 p) ∧ (lvs (aCv S L R (cls top L R) w k (sp, x, j)).1 1).length + j = (lvs sp 1).length + (aCv S L R (cls top L R) w k (sp, x, j)).2.2 ∧ j ≤ (aCv S L R (cls top L R) w k (sp, x, j)).2.2 ∧ (aCv S L R (cls top L R) w k (sp, x, j)).2.2 ≤ j + k ∧ (w ≤ S (cls top L R x) → w ≤ S (cls top L R (aCv S L R (cls top L R) w k (sp, x, j)).2.1)) := by
  intro k
  induction k with
  | zero => intro sp x j hT hx hs hr; exact ⟨hT, hx, hs, hr, fun _ h => h, rfl, Nat.le_refl _, Nat.le_refl _, fun h => h⟩
  | succ k ih =>
    intro sp x j hT hx hs hr
    by_cases hc : w ≤ S (L (cls top L R x)) ∨ w ≤ S (R (cls top L R x))
    · have st : aCv S L R (cls top L R) w (k + 1) (sp, x, j) = aCv S L R (cls top L R) w k (upB sp x true, if cvL S L R w (cls top L R x) then 2 * x else 2 * x + 1, j + 1) := mDes_s (k := k + 1) (decide_eq_false (fun q => q hc)) (by omega) rfl
      have h1 := ex_pos hx
      have hL := holds_L hR (cls_rc hR hT x hx) hw hc
      have hT2 := TOK_split hR hT hx hs hr hL
      have hk := sp_kids hT h1 hs
      have hq := rq_kids hT h1 hs
      have hlen := len_split hR hT hx hs hr hL
      have hgo : ex (upB sp x true) (if cvL S L R w (cls top L R x) then 2 * x else 2 * x + 1) ∧ upB sp x true (if cvL S L R w (cls top L R x) then 2 * x else 2 * x + 1) = false ∧ rq (if cvL S L R w (cls top L R x) then 2 * x else 2 * x + 1) = 0 ∧ w ≤ S (cls top L R (if cvL S L R w (cls top L R x) then 2 * x else 2 * x + 1)) := by
        cases hcv : cvL S L R w (cls top L R x)
        · rw [if_neg (by decide)]
          refine ⟨(ex_split h1 hs).mpr (Or.inr (Or.inr rfl)), by rw [upB_n _ _ (by omega)]; exact hk.2, hq.2, ?_⟩
          rw [cls_o h1]
          unfold cvL at hcv
          rw [decide_eq_false_iff_not] at hcv
          omega
        · rw [if_pos rfl]
          refine ⟨(ex_split h1 hs).mpr (Or.inr (Or.inl rfl)), by rw [upB_n _ _ (by omega)]; exact hk.1, hq.1, ?_⟩
          rw [cls_e h1]
          unfold cvL at hcv
          rw [decide_eq_true_eq] at hcv
          exact hcv.1
      obtain ⟨c1, c2, c3, c4, c5, c6, c7, c8, c9⟩ := ih (upB sp x true) _ (j + 1) hT2 hgo.1 hgo.2.1 hgo.2.2.1
      rw [st]
      exact ⟨c1, c2, c3, c4, fun p hp => c5 p ((ex_split h1 hs).mpr (Or.inl hp)), by omega, by omega, by omega, fun _ => c9 hgo.2.2.2⟩
    · have : aCv S L R (cls top L R) w (k + 1) (sp, x, j) = (sp, x, j) := mDes_e (Or.inl (decide_eq_true hc))
      rw [this]
      exact ⟨hT, hx, hs, hr, fun _ h => h, rfl, Nat.le_refl _, Nat.le_add_right _ _, fun h => h⟩
end PureK
