theorem n_adj {rd w r : Nat} (h : r ≤ rd + w) : nI rd + (nI w - nI r) = nI (rd + w - r) := by
  obtain ⟨b, hb⟩ := Nat.exists_eq_add_of_le h
  rw [hb, Nat.add_sub_cancel_left]
  have e : nI rd + (nI w - nI r) = nI (rd + w) - nI r := by rw [← nI_add, Int32.sub_eq_add_neg, Int32.sub_eq_add_neg, Int32.add_assoc]
  rw [e, hb, Nat.add_comm, ← nI_add]
  rw [Int32.sub_eq_add_neg, Int32.add_assoc, ← Int32.sub_eq_add_neg, Int32.sub_self, Int32.add_zero]
section PureM
variable {top : Nat} {S L R : Nat → Nat} {rc : Nat → Bool} {sp : Nat → Bool} {rq nu : Nat → Nat} {mk n spare : Nat} {pa ch kd ad ra su un fo kp : Nat → Nat} {bad : List Nat} {bl rd hd : Nat} {sz lf rt : Nat → Int32}
theorem smy_unf (cl : Nat → Nat) (sp : Nat → Bool) (rq : Nat → Nat) (p : Nat) : smy cl sp rq p = if 0 < p ∧ p < 16777216 ∧ sp p = true then (if isf sp rq p then (smy cl sp rq (2 * p) ||| smy cl sp rq (2 * p + 1)) ||| 1 else smy cl sp rq (2 * p) ||| smy cl sp rq (2 * p + 1))
  else if rq p = 0 then 1 * 2 ^ cl p else 33554432 := by rw [smy]
theorem smy_congr {cl rq2 : Nat → Nat} (h : ∀ y, rq2 y = 0 ↔ rq y = 0) : ∀ p, smy cl sp rq2 p = smy cl sp rq p := by
  have key : ∀ (n p : Nat), 33554432 - p ≤ n → smy cl sp rq2 p = smy cl sp rq p := by
    intro n
    induction n with
    | zero =>
      intro p hp
      have c : ¬ (0 < p ∧ p < 16777216 ∧ sp p = true) := fun q => by omega
      rw [smy_unf cl sp rq2 p, smy_unf cl sp rq p, if_neg c, if_neg c]
      by_cases e : rq p = 0
      · rw [if_pos e, if_pos ((h p).mpr e)]
      · rw [if_neg e, if_neg (fun q => e ((h p).mp q))]
    | succ n ih =>
      intro p hp
      rw [smy_unf cl sp rq2 p, smy_unf cl sp rq p]
      by_cases c : 0 < p ∧ p < 16777216 ∧ sp p = true
      · have hf : isf sp rq2 p = isf sp rq p := by
          unfold isf
          rw [decide_eq_decide.mpr (h (2 * p)), decide_eq_decide.mpr (h (2 * p + 1))]
        rw [if_pos c, if_pos c, ih (2 * p) (by omega), ih (2 * p + 1) (by omega), hf]
      · rw [if_neg c, if_neg c]
        by_cases e : rq p = 0
        · rw [if_pos e, if_pos ((h p).mpr e)]
        · rw [if_neg e, if_neg (fun q => e ((h p).mp q))]
  exact fun p => key _ p (Nat.le_refl _)
/-- a block is freed: the books -/
theorem mI_free (hR : RuleOK S L R rc top) (hT : TOK top S L R sp rq) (h : mI top S L R sp rq fo bl rd hd) {x : Nat} (hx : ex sp x) (hs : sp x = false) (hq : 0 < rq x) :
    1 ≤ bl ∧ rq x ≤ rd ∧ S (cls top L R x) ≤ hd ∧ mI top S L R sp (upN rq x 0) (upN fo (cls top L R x) (fo (cls top L R x) + 1)) (bl - 1) (rd - rq x) (hd - S (cls top L R x)) := by
  obtain ⟨rfl, rfl, rfl, rfl⟩ := h
  obtain ⟨b1, b2, b3⟩ := nB_set (S := S) (w := 0) hR hT hx hs
  rw [if_pos hq, if_neg (by omega)] at b1 b3
  refine ⟨by omega, by omega, by omega, ?_, by omega, by omega, by omega⟩
  funext k
  have c := cF_set (w := 0) hR hT hx hs k
  rw [if_neg (fun q => by omega)] at c
  by_cases e : k = cls top L R x
  · subst e
    rw [if_pos ⟨rfl, rfl⟩] at c
    rw [upN_s]
    omega
  · rw [if_neg (fun q => e q.2)] at c
    rw [upN_n _ _ e]
    omega
theorem mI_give (hR : RuleOK S L R rc top) (hT : TOK top S L R sp rq) (h : mI top S L R sp rq fo bl rd hd) {x w : Nat} (hx : ex sp x) (hs : sp x = false) (hq : rq x = 0) (hw : 1 ≤ w) :
    1 ≤ fo (cls top L R x) ∧ mI top S L R sp (upN rq x w) (upN fo (cls top L R x) (fo (cls top L R x) - 1)) (bl + 1) (rd + w) (hd + S (cls top L R x)) := by
  obtain ⟨rfl, rfl, rfl, rfl⟩ := h
  obtain ⟨b1, b2, b3⟩ := nB_set (S := S) (w := w) hR hT hx hs
  rw [if_neg (by omega), if_pos (by omega)] at b1 b3
  have hp := cF_pos hR hT hx hs hq
  refine ⟨hp, ?_, by omega, by omega, by omega⟩
  funext k
  have c := cF_set (w := w) hR hT hx hs k
  rw [if_neg (c := w = 0 ∧ k = cls top L R x) (fun q => by omega)] at c
  by_cases e : k = cls top L R x
  · subst e
    rw [if_pos ⟨hq, rfl⟩] at c
    rw [upN_s]
    omega
  · rw [if_neg (fun q => e q.2)] at c
    rw [upN_n _ _ e]
    omega
theorem mI_renew (hR : RuleOK S L R rc top) (hT : TOK top S L R sp rq) (h : mI top S L R sp rq fo bl rd hd) {x w : Nat} (hx : ex sp x) (hs : sp x = false) (hq : 0 < rq x) (hw : 1 ≤ w) :
    rq x ≤ rd + w ∧ mI top S L R sp (upN rq x w) fo bl (rd + w - rq x) hd := by
  obtain ⟨rfl, rfl, rfl, rfl⟩ := h
  obtain ⟨b1, b2, b3⟩ := nB_set (S := S) (w := w) hR hT hx hs
  rw [if_pos hq, if_pos (by omega)] at b1 b3
  refine ⟨by omega, ?_, by omega, by omega, by omega⟩
  funext k
  have c := cF_set (w := w) hR hT hx hs k
  rw [if_neg (fun q => by omega), if_neg (fun q => by omega)] at c
  omega
theorem wI_renew (hR : RuleOK S L R rc top) (h : wI top S L R sp rq nu [] n mk spare pa ch kd ad ra su un fo bl rd hd) {x w : Nat} (hx : ex sp x) (hs : sp x = false) (hq : 0 < rq x) (hw : 1 ≤ w) (hwS : w ≤ S (cls top L R x)) :
    rq x ≤ rd + w ∧ wI top S L R sp (upN rq x w) nu [] n mk spare pa ch kd ad (upN ra (nu x) w) (upN su (nu x) (if w = 0 then 1 * 2 ^ kd (nu x) else 33554432)) un fo bl (rd + w - rq x) hd := by
  have a := tI_set hR h.1 hx hs hwS (fun p hp => by cases hp)
  have b := mI_renew hR h.1.1 h.2 hx hs hq hw
  refine ⟨b.1, ⟨a.1, a.2.1, fun p hp _ => ?_, a.2.2.2⟩, b.2⟩
  by_cases hm : p ∈ ancs x
  · have e : p ≠ x := fun e => by have := ancs_lt x p hm; omega
    rw [upN_n _ _ (fun q => e (h.1.2.1.2.2.2 p x hp hx q))]
    have u := h.1.2.2.1 p hp List.not_mem_nil
    rw [smy_congr (rq := rq)]
    · exact u
    · intro y
      by_cases e2 : y = x
      · subst e2
        rw [upN_s]
        omega
      · rw [upN_n _ _ e2]
  · exact a.2.2.1 p hp hm
theorem wI_free (hR : RuleOK S L R rc top) (h : wI top S L R sp rq nu [] n mk spare pa ch kd ad ra su un fo bl rd hd) {x : Nat} (hx : ex sp x) (hs : sp x = false) (hq : 0 < rq x) :
    1 ≤ bl ∧ rq x ≤ rd ∧ S (cls top L R x) ≤ hd ∧ wI top S L R sp (upN rq x 0) nu (ancs x) n mk spare pa ch kd ad (upN ra (nu x) 0) (upN su (nu x) (if 0 = 0 then 1 * 2 ^ kd (nu x) else 33554432)) un (upN fo (cls top L R x) (fo (cls top L R x) + 1)) (bl - 1) (rd - rq x) (hd - S (cls top L R x)) := by
  have a := tI_set hR h.1 (w := 0) hx hs (Nat.zero_le _) (fun p hp => by cases hp)
  have b := mI_free hR h.1.1 h.2 hx hs hq
  exact ⟨b.1, b.2.1, b.2.2.1, a, b.2.2.2⟩
theorem wI_give (hR : RuleOK S L R rc top) (h : wI top S L R sp rq nu bad n mk spare pa ch kd ad ra su un fo bl rd hd) {x w : Nat} (hx : ex sp x) (hs : sp x = false) (hq : rq x = 0) (hw : 1 ≤ w) (hwS : w ≤ S (cls top L R x)) (hb : ∀ p ∈ bad, p ∈ ancs x) :
    1 ≤ fo (cls top L R x) ∧ wI top S L R sp (upN rq x w) nu [] n mk spare pa ch kd ad (upN ra (nu x) w) (fRef pa ch (upN ra (nu x) w) 24 (pa (nu x), upN su (nu x) (if w = 0 then 1 * 2 ^ kd (nu x) else 33554432), un)).2.1 (fRef pa ch (upN ra (nu x) w) 24 (pa (nu x), upN su (nu x) (if w = 0 then 1 * 2 ^ kd (nu x) else 33554432), un)).2.2 (upN fo (cls top L R x) (fo (cls top L R x) - 1)) (bl + 1) (rd + w) (hd + S (cls top L R x)) := by
  have a := tI_set hR h.1 hx hs hwS hb
  have b := mI_give hR h.1.1 h.2 hx hs hq hw
  exact ⟨b.1, tI_ref hR a hx (fun p hp => hp), b.2⟩
theorem rq_leaf (hT : TOK top S L R sp rq) {x : Nat} (h : 0 < rq x) : ex sp x ∧ sp x = false := ⟨(hT.2 x h).1, (hT.2 x h).2.1⟩
end PureM
