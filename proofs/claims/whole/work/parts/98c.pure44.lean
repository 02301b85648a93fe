/-! What the law's cases need. -/
section PureQ
variable {top : Nat} {S L R kp : Nat → Nat} {rc sp : Nat → Bool} {rq : Nat → Nat} {scr : Nat → Int32} {ba rv bf : Nat → Nat} {bl bl9 w y n mk gc : Nat}
theorem rpOne_q (hR : RuleOK S L R rc top) {v : Int32} {i : Nat} {z : (Nat → Bool) × (Nat → Nat) × (Nat → Nat) × Nat × Nat × Nat × Nat × Nat × Nat} (hT : TOK top S L R z.1 z.2.1) (hg : gvOK z.2.1 z.2.2.1 i) (hb : nB z.1 z.2.1 ≤ 256) :
    nB (rpOne top S L R kp v i z).2.1 (rpOne top S L R kp v i z).2.2.1 ≤ 256 := by
  by_cases c1 : 0 < v
  · obtain ⟨w, hw1, hw, hwv, hwc⟩ := rp_pos c1
    by_cases c2 : 256 ≤ nB z.1 z.2.1
    · rw [rp_f c1 c2]; exact hb
    · rw [rp_g c1 hwc c2]
      show nB (gC S L R (cls top L R) z.2.1 w z.1).1 (gQ S L R (cls top L R) z.2.1 w z.1) ≤ 256
      by_cases c3 : gB S (cls top L R) z.2.1 w z.1 = 0
      · have hTn : TOK top S L R (gC S L R (cls top L R) z.2.1 w z.1).1 z.2.1 := by rw [(gC_n c3).1]; exact gS1_ok hR hT
        rw [(gC_n c3).2, nB_same hR hT hTn]; exact hb
      · rw [nB_give hR hT hw1 c3]; omega
  · by_cases c2 : v = 0
    · rw [rp_j c1 c2]
      show nB (jal z.1 z.2.1) z.2.1 ≤ 256
      rw [nB_same hR hT (jal_ok hR hT)]; exact hb
    · by_cases c3 : 256 ≤ (-1 - v).toNatClampNeg ∨ z.2.2.1 (-1 - v).toNatClampNeg = 0
      · rw [rp_n c1 c2 rfl c3]; exact hb
      · rw [rp_b c1 c2 rfl c3]
        have hne : z.2.2.1 (-1 - v).toNatClampNeg ≠ 0 := fun e => c3 (Or.inr e)
        have hry := hg.1 _ hne
        have hyl := hT.2 _ hry
        have hT8 := TOK_set (w := 0) hT hyl.1 hyl.2.1 (Nat.zero_le _)
        have hT9 := (aUp_ok (kp := kp) hR 24 z.1 (z.2.2.1 (-1 - v).toNatClampNeg) 0 hT8 hyl.1 hyl.2.1 (upN_s _ _ _)).1
        have hn := nB_free hR hT hT9 hry
        exact Nat.le_trans (Nat.le_of_eq hn.1) (by omega)
theorem rpN_q (hR : RuleOK S L R rc top) : ∀ (k i : Nat) (z : (Nat → Bool) × (Nat → Nat) × (Nat → Nat) × Nat × Nat × Nat × Nat × Nat × Nat), TOK top S L R z.1 z.2.1 → gvOK z.2.1 z.2.2.1 i → z.2.2.2.2.2.2.2.1 = z.2.2.2.2.2.2.2.2 + nB z.1 z.2.1 → nB z.1 z.2.1 ≤ 256 →
    nB (rpN top S L R kp scr k i z).2.1 (rpN top S L R kp scr k i z).2.2.1 ≤ 256
  | 0, i, z, hT, hg, hc, hb => hb
  | k + 1, i, z, hT, hg, hc, hb => by
    have h1 := rpOne_c (kp := kp) (v := scr i) hR hT hg hc
    have h2 := rpOne_q (kp := kp) (v := scr i) hR hT hg hb
    rw [rpN]
    split
    · exact rpN_q hR k (i + 1) _ h1.2.2.1 h1.2.2.2 h1.2.1 h2
    · exact h2
theorem bl_g (hR : RuleOK S L R rc top) (hT : TOK top S L R sp rq) (hw : 1 ≤ w) (h : gB S (cls top L R) rq w sp ≠ 0) (h9 : bl9 = nB (gC S L R (cls top L R) rq w sp).1 (gQ S L R (cls top L R) rq w sp)) (hB : bW (adr top S L R) rq bl ba rv bf) : bl9 = bl + 1 := by
  rw [h9, nB_give hR hT hw h, ← bW_bl hR hT hB]
theorem bl_n {sp' : Nat → Bool} (hR : RuleOK S L R rc top) (hT : TOK top S L R sp rq) (hT' : TOK top S L R sp' rq) (h9 : bl9 = nB sp' rq) (hB : bW (adr top S L R) rq bl ba rv bf) : bl = bl9 := by
  rw [h9, nB_same hR hT hT']; exact bW_bl hR hT hB
theorem bl_m {sp' : Nat → Bool} (hR : RuleOK S L R rc top) (hT : TOK top S L R sp rq) (hw : 1 ≤ w) (h : gB S (cls top L R) rq w sp ≠ 0) (hy : 0 < rq y) (hT' : TOK top S L R sp' (upN (gQ S L R (cls top L R) rq w sp) y 0)) (h9 : bl9 = nB sp' (upN (gQ S L R (cls top L R) rq w sp) y 0)) (hB : bW (adr top S L R) rq bl ba rv bf) : bl = bl9 := by
  have a := nB_free hR (gQ_ok hR hT hw h) hT' (by rw [(gQ_live hR hT hw h hy).1]; exact hy)
  have b := bW_bl hR hT hB
  rw [h9, a.1, nB_give hR hT hw h]
  omega
theorem gv_1 (hR : RuleOK S L R rc top) (hT : TOK top S L R sp rq) (hw : 1 ≤ w) (h : gB S (cls top L R) rq w sp ≠ 0) (hl : (lvs sp 1).length ≤ 1 + 23 * gc) (hg : gc + 1 ≤ 608) (hm : mk ≤ 27970) (hn : n ≤ 55940) :
    (lvs (gC S L R (cls top L R) rq w sp).1 1).length ≤ 1 + 23 * (gc + 1) ∧ (lvs (gC S L R (cls top L R) rq w sp).1 1).length ≤ 14000 ∧ max mk (2 * (lvs (gC S L R (cls top L R) rq w sp).1 1).length) ≤ 27970 ∧ dbl n (max mk (2 * (lvs (gC S L R (cls top L R) rq w sp).1 1).length)) ≤ 55940 ∧ n ≤ dbl n (max mk (2 * (lvs (gC S L R (cls top L R) rq w sp).1 1).length)) := by
  have h1 := (gC_23 hR hT hw h).2
  have h2 : max mk (2 * (lvs (gC S L R (cls top L R) rq w sp).1 1).length) ≤ 27970 := by omega
  exact ⟨by omega, by omega, h2, dbl_b hn h2, (dbl_le _ _).1⟩
theorem gv_2 (hR : RuleOK S L R rc top) (hT : TOK top S L R sp rq) (h : gB S (cls top L R) rq w sp = 0) (hl : (lvs sp 1).length ≤ 1 + 23 * gc) (hg : gc ≤ 608) (hm : mk ≤ 27970) (hn : n ≤ 55940) :
    (lvs (gC S L R (cls top L R) rq w sp).1 1).length ≤ 1 + 23 * gc ∧ (lvs (gC S L R (cls top L R) rq w sp).1 1).length ≤ 14000 ∧ max mk (2 * (lvs (gC S L R (cls top L R) rq w sp).1 1).length) ≤ 27970 ∧ dbl n (max mk (2 * (lvs (gC S L R (cls top L R) rq w sp).1 1).length)) ≤ 55940 ∧ n ≤ dbl n (max mk (2 * (lvs (gC S L R (cls top L R) rq w sp).1 1).length)) := by
  have h1 := gC_len0 hR hT h
  have h2 : max mk (2 * (lvs (gC S L R (cls top L R) rq w sp).1 1).length) ≤ 27970 := by omega
  exact ⟨by omega, by omega, h2, dbl_b hn h2, (dbl_le _ _).1⟩
theorem sn_0 {sn : Nat} (h : gB S (cls top L R) rq w sp = 0) : sn + (gC S L R (cls top L R) rq w sp).2.2 = sn := by rw [(gC_n h).1] <;> rfl
theorem up_len (hR : RuleOK S L R rc top) (hT : TOK top S L R sp rq) (hy : 0 < rq y) : (lvs (aUp (cls top L R) kp (upN rq y 0) 24 (sp, y, 0)).1 1).length ≤ (lvs sp 1).length := by
  have hyl := hT.2 _ hy
  exact aUp_len hR 24 sp y 0 (TOK_set (w := 0) hT hyl.1 hyl.2.1 (Nat.zero_le _)) hyl.1 hyl.2.1 (upN_s _ _ _)
theorem bl_1 (hB : bW (adr top S L R) rq bl ba rv bf) (hy : 0 < rq y) : 1 ≤ bl := by
  obtain ⟨j, h1, h2⟩ := hB.2.2 y hy
  omega
theorem lfA_e (hR : RuleOK S L R rc top) (hT : TOK top S L R sp rq) {v : Int32} (hl : (lvs sp 1).length ≤ 14000) (h : lfA (lvs sp 1) v = 0) : ¬ (nI 0 ≤ v ∧ v ≤ nI ((lvs sp 1).length - 1)) := fun q => by
  have h1 := (nl_le hR hT 1 ex_1).1
  obtain ⟨w, -, w2, w3⟩ := rng_w (a := 0) (by omega) q.1 q.2 (Nat.zero_le _)
  have c : ¬ v < 0 := fun c => absurd (Int32.lt_of_le_of_lt q.1 c) (by decide)
  have hw : w < (lvs sp 1).length := by omega
  unfold lfA at h
  rw [if_neg c, w3, nI_clamp (by omega), List.getD_eq_getElem?_getD, List.getElem?_eq_getElem hw] at h
  have h2 := ex_pos (lvs_mem hR hT 1 ex_1 _ (List.getElem_mem hw)).1
  have h : (lvs sp 1)[w] = 0 := h
  omega
end PureQ
theorem rng_n {b : Nat} {v : Int32} (h : ¬ (nI 0 ≤ v ∧ v ≤ nI b)) : v < 0 ∨ ¬ v ≤ nI b := by
  by_cases c : v < 0
  · exact Or.inl c
  · exact Or.inr (fun q => h ⟨by rw [nI_0]; exact Int32.not_lt.mp c, q⟩)
theorem no_3 {v : Int32} (h : ¬ (v = nI 0 ∨ v = nI 1 ∨ v = nI 2)) : ¬ v = nI 0 ∧ ¬ v = nI 1 ∧ ¬ v = nI 2 := ⟨fun q => h (Or.inl q), fun q => h (Or.inr (Or.inl q)), fun q => h (Or.inr (Or.inr q))⟩
theorem rng_2 {v : Int32} (h : ¬ (v = nI 0 ∨ v = nI 1 ∨ v = nI 2)) : ¬ (nI 0 ≤ v ∧ v ≤ nI 2) := fun q => by
  obtain ⟨w, -, w2, w3⟩ := rng_w (a := 0) (b := 2) (by decide) q.1 q.2 (by decide)
  rcases (show w = 0 ∨ w = 1 ∨ w = 2 by omega) with e | e | e
  · exact h (Or.inl (by rw [w3, e]))
  · exact h (Or.inr (Or.inl (by rw [w3, e])))
  · exact h (Or.inr (Or.inr (by rw [w3, e])))
theorem lfA_s {l : List Nat} {v : Int32} (h : lfA l v ≠ 0) : ∃ j, j < 2 ^ 31 ∧ v = nI j ∧ l[j]? = some (lfA l v) := by
  unfold lfA at h ⊢
  by_cases c : v < 0
  · rw [if_pos c] at h; exact absurd rfl h
  · obtain ⟨j, hj, e⟩ := nI_of c
    rw [if_neg c] at h ⊢
    refine ⟨j, hj, e, ?_⟩
    rw [e, nI_clamp hj, List.getD_eq_getElem?_getD] at h ⊢
    cases e2 : l[j]? with
    | none => rw [e2] at h; exact absurd rfl h
    | some q => rfl
theorem leaf_q {y : Nat} {v a b c : Int32} (hy : y ≠ 0) (hv : v = nI 0 ∨ v = nI 1 ∨ v = nI 2) : (if y = 0 then -1 else if v = nI 0 then a else if v = nI 1 then b else if v = nI 2 then c else -1) = if v = nI 0 then a else if v = nI 1 then b else c := by
  rw [if_neg hy]
  by_cases c0 : v = nI 0
  · rw [if_pos c0, if_pos c0]
  · rw [if_neg c0, if_neg c0]
    by_cases c1 : v = nI 1
    · rw [if_pos c1, if_pos c1]
    · rw [if_neg c1, if_neg c1, if_pos ((hv.resolve_left c0).resolve_left c1)]
theorem leaf_n {y : Nat} {v a b c : Int32} (hv : ¬ (v = nI 0 ∨ v = nI 1 ∨ v = nI 2)) : (if y = 0 then -1 else if v = nI 0 then a else if v = nI 1 then b else if v = nI 2 then c else -1) = -1 := by
  by_cases hy : y = 0
  · rw [if_pos hy]
  · rw [if_neg hy, if_neg (no_3 hv).1, if_neg (no_3 hv).2.1, if_neg (no_3 hv).2.2]
theorem kp_up {kp : Nat → Nat} {i m : Nat} (h : ∀ j, kp j ≤ 255) (hm : m ≤ 255) : ∀ j, upN kp i m j ≤ 255 := fun j => by
  by_cases e : j = i
  · subst e; rw [upN_s]; exact hm
  · rw [upN_n _ _ e]; exact h j
theorem ix_256 {v : Int32} (h0 : ¬ v < 0) (h : v < nI 256) : ∃ j, j < 256 ∧ v = nI j := by
  obtain ⟨j, hj, e⟩ := nI_of h0
  refine ⟨j, ?_, e⟩
  apply Classical.byContradiction
  intro q
  have h2 : nI 256 ≤ nI j := nI_le (by omega) hj
  rw [e] at h
  exact Int32.lt_irrefl (Int32.lt_of_le_of_lt h2 h)
