/-! The reference's frees. -/
theorem m35_bit : ∀ i, i < 64 → (-34359738369 : Int64).toBitVec.getLsbD i = decide (i ≠ 35) := by decide +kernel
theorem enc_off {a k d s : Nat} (hk : k < 32) (hd : d < 32) (hs : s < 33554432) : lN (enc a 1 k d s) &&& (-34359738369) = lN (enc a 0 k d s) := by
  rw [← enc_on hk hd hs]
  have h0 : (enc a 0 k d s).testBit 35 = false := by
    rw [Nat.testBit_eq_decide_div_mod_eq, enc_live (by decide) hk hd hs]; rfl
  apply Int64.toBitVec_inj.1
  apply BitVec.eq_of_getLsbD_eq
  intro i hi
  rw [Int64.toBitVec_and, BitVec.getLsbD_and, m35_bit i hi]
  show ((BitVec.ofNat 64 _).getLsbD i && _) = (BitVec.ofNat 64 _).getLsbD i
  rw [BitVec.getLsbD_ofNat, BitVec.getLsbD_ofNat, Nat.testBit_or, show (34359738368 : Nat) = 2 ^ 35 by decide, Nat.testBit_two_pow]
  by_cases e : i = 35
  · subst e; simp [h0]
  · have : ¬ 35 = i := fun q => e q.symm
    simp [e, this]
section PureT
variable {top : Nat} {S L R : Nat → Nat} {rc : Nat → Bool} {sp sp0 : Nat → Bool} {rq nd kp : Nat → Nat} {l l1 l2 : List Nat} {i p q x w d k : Nat}
theorem wrd_off (hR : RuleOK S L R rc top) (hT : TOK top S L R sp rq) (hx : ex sp x) (hr : 0 < rq x) : lN (wrd top S L R rq x) &&& (-34359738369) = lN (wrd top S L R (upN rq x 0) x) := by
  have hs := sid_b hR hT hx
  have hc := cls_ok hR hT hx
  unfold wrd
  rw [upN_s, if_pos hr, if_neg (by decide)]
  exact enc_off (by omega) (by omega) (by omega)
/-- a buddy that is the next -/
theorem up_l (hR : RuleOK S L R rc top) (hT : TOK top S L R sp rq) (h : prB (lvs sp 1) i = true) (hx : (lvs sp 1)[i]? = some x) (hq : (lvs sp 1)[i + 1]? = some q) : 2 ≤ x ∧ bud x = q ∧ sp q = false ∧ x / 2 = x / 2 ∧ x % 2 = 0 := by
  obtain ⟨p', e1, e2, e3, e4⟩ := prB_t h
  rw [hx] at e1
  obtain rfl : x = p' := by simpa using e1
  rw [hq] at e2
  obtain rfl : q = x + 1 := by simpa using e2
  have hm2 := lvs_mem hR hT 1 ex_1 _ (List.mem_of_getElem? hq)
  exact ⟨e3, by unfold bud; rw [if_pos e4], hm2.2, rfl, e4⟩
/-- a buddy that is the one before -/
theorem up_r (hR : RuleOK S L R rc top) (hT : TOK top S L R sp rq) (h : prB (lvs sp 1) i = true) (hp : (lvs sp 1)[i]? = some p) (hx : (lvs sp 1)[i + 1]? = some x) : 2 ≤ x ∧ bud x = p ∧ sp p = false ∧ p / 2 = x / 2 ∧ x % 2 = 1 := by
  obtain ⟨p', e1, e2, e3, e4⟩ := prB_t h
  rw [hp] at e1
  obtain rfl : p = p' := by simpa using e1
  rw [hx] at e2
  obtain rfl : x = p + 1 := by simpa using e2
  have hm2 := lvs_mem hR hT 1 ex_1 _ (List.mem_of_getElem? hp)
  exact ⟨by omega, by unfold bud; rw [if_neg (by omega)]; omega, hm2.2, by omega, by omega⟩
/-- no free buddy beside it: none at all -/
theorem up_none (hR : RuleOK S L R rc top) (hT : TOK top S L R sp rq) (hx : (lvs sp 1)[i]? = some x) (hr : rq x = 0) (h1 : ¬ prB (lvs sp 1) i = true) (h2 : i = 0 ∨ ¬ prB (lvs sp 1) (i - 1) = true) : ¬ (2 ≤ x ∧ sp (bud x) = false ∧ rq (bud x) = 0) := by
  rintro ⟨a, b, c⟩
  have hm := lvs_mem hR hT 1 ex_1 _ (List.mem_of_getElem? hx)
  have hu := ex_up hT hm.1 a
  have hj : joi sp rq (x / 2) := by
    rcases Nat.mod_two_eq_zero_or_one x with e | e
    · have e1 : 2 * (x / 2) = x := by omega
      have e2 : bud x = x + 1 := by unfold bud; rw [if_pos e]
      rw [e2] at b c
      exact ⟨hu.2, by rw [e1]; exact hm.2, by rw [e1]; exact b, by rw [e1]; exact hr, by rw [e1]; exact c⟩
    · have e1 : 2 * (x / 2) + 1 = x := by omega
      have e2 : bud x = x - 1 := by unfold bud; rw [if_neg (by omega)]
      have e3 : 2 * (x / 2) = x - 1 := by omega
      rw [e2] at b c
      exact ⟨hu.2, by rw [e3]; exact b, by rw [e1]; exact hm.2, by rw [e3]; exact c, by rw [e1]; exact hr⟩
  obtain ⟨j, j1, j2, j3, j4⟩ := joi_pr hR hT hj
  have hn := lvs_nodup hR hT ex_1
  have hi := plc_at hn hx
  rcases Nat.mod_two_eq_zero_or_one x with e | e
  · rw [show 2 * (x / 2) = x by omega] at j3
    have := plc_at hn j3
    rw [show i = j by omega] at h1
    exact h1 j2
  · rw [show 2 * (x / 2) + 1 = x by omega] at j4
    have := plc_at hn j4
    rcases h2 with h2 | h2
    · omega
    · rw [show i - 1 = j by omega] at h2
      exact h2 j2
theorem upG_f {cl : Nat → Nat} {j : Nat} (h : ¬ (kp (cl x) < cF cl sp rq (cl x) ∧ 2 ≤ x ∧ sp (bud x) = false ∧ rq (bud x) = 0)) : (!upG cl kp rq (sp, x, j)) = true := by
  rw [Bool.not_eq_true', Bool.eq_false_iff]
  intro q
  unfold upG at q
  simp only [Bool.and_eq_true, decide_eq_true_eq, Bool.not_eq_true'] at q
  exact h q
theorem upG_t {cl : Nat → Nat} {j : Nat} (h : kp (cl x) < cF cl sp rq (cl x) ∧ 2 ≤ x ∧ sp (bud x) = false ∧ rq (bud x) = 0) : (!upG cl kp rq (sp, x, j)) = false := by
  rw [Bool.not_eq_false']
  unfold upG
  simp only [Bool.and_eq_true, decide_eq_true_eq, Bool.not_eq_true']
  exact h
theorem dep_h (h : 2 ≤ x) : dep x = dep (x / 2) + 1 := by
  conv => lhs; rw [dep]
  rw [if_neg (by omega)]
end PureT
