/-! Numbers of the law: how many gives there are. -/
section PureNum
variable {top : Nat} {S L R kp : Nat → Nat} {rc : Nat → Bool} {sp : Nat → Bool} {rq : Nat → Nat} {w : Nat} {scr : Nat → Int32}
theorem bW_any (hR : RuleOK S L R rc top) (hT : TOK top S L R sp rq) : ∃ ba rv bf, bW (adr top S L R) rq (nB sp rq) ba rv bf := by
  have hl : nB sp rq = ((lvs sp 1).filter (fun q => decide (0 < rq q))).length := by unfold nB; rw [List.countP_eq_length_filter]
  have hn : ((lvs sp 1).filter (fun q => decide (0 < rq q))).Nodup := (lvs_nodup hR hT ex_1).sublist List.filter_sublist
  generalize hF : (lvs sp 1).filter (fun q => decide (0 < rq q)) = F at hl hn
  have hm : ∀ p, p ∈ F ↔ p ∈ lvs sp 1 ∧ 0 < rq p := fun p => by rw [← hF, List.mem_filter, decide_eq_true_eq]
  have hg : ∀ j, j < F.length → F[j]? = some (F.getD j 0) := fun j hj => by rw [List.getD_eq_getElem?_getD, List.getElem?_eq_getElem hj]; rfl
  refine ⟨fun j => adr top S L R (F.getD j 0), fun j => rq (F.getD j 0), fun j => F.getD j 0, fun j hj => ⟨?_, rfl, rfl⟩, fun j k hj hk e => ?_, fun p hp => ?_⟩
  · exact ((hm _).mp (List.mem_of_getElem? (hg j (by omega)))).2
  · have a := plc_at hn (hg j (by omega))
    have b := plc_at hn (hg k (by omega))
    have e : F.getD j 0 = F.getD k 0 := e
    rw [e] at a
    omega
  · have hx := hT.2 p hp
    have h1 := plc_mem ((hm p).mpr ⟨lvs_all hR hT hx.1 hx.2.1, hp⟩)
    refine ⟨plc F p, by rw [hl]; exact at_lt h1, ?_⟩
    show F.getD (plc F p) 0 = p
    rw [List.getD_eq_getElem?_getD, h1]; rfl
theorem nB_give (hR : RuleOK S L R rc top) (hT : TOK top S L R sp rq) (hw : 1 ≤ w) (h : gB S (cls top L R) rq w sp ≠ 0) : nB (gC S L R (cls top L R) rq w sp).1 (gQ S L R (cls top L R) rq w sp) = nB sp rq + 1 := by
  obtain ⟨ba, rv, bf, hB⟩ := bW_any hR hT
  have h1 := bW_give (w := w) hB (gC_ok hR hT hw h).2.2.2.1 hw
  rw [← (gC_s h).2] at h1
  exact (bW_bl hR (gQ_ok hR hT hw h) h1).symm
theorem nB_same {sp' : Nat → Bool} (hR : RuleOK S L R rc top) (hT : TOK top S L R sp rq) (hT' : TOK top S L R sp' rq) : nB sp' rq = nB sp rq := by
  obtain ⟨ba, rv, bf, hB⟩ := bW_any hR hT
  exact (bW_bl hR hT' hB).symm
theorem nB_free {sp' : Nat → Bool} {y : Nat} (hR : RuleOK S L R rc top) (hT : TOK top S L R sp rq) (hT' : TOK top S L R sp' (upN rq y 0)) (hy : 0 < rq y) : nB sp' (upN rq y 0) = nB sp rq - 1 ∧ 1 ≤ nB sp rq := by
  obtain ⟨ba, rv, bf, hB⟩ := bW_any hR hT
  obtain ⟨j, h1, h2⟩ := hB.2.2 y hy
  have h3 := bW_free hB h1
  rw [h2] at h3
  exact ⟨(bW_bl hR hT' h3).symm, by omega⟩
/-- entries of the script that give or free -/
def nzs (scr : Nat → Int32) : Nat → Nat
  | 0 => 0
  | n + 1 => nzs scr n + (if scr n = 0 then 0 else 1)
theorem nzs_le (scr : Nat → Int32) : ∀ n, nzs scr n ≤ n
  | 0 => Nat.le_refl _
  | n + 1 => by have := nzs_le scr n; rw [nzs]; split <;> omega
theorem nzs_upd (scr : Nat → Int32) (i : Nat) (v : Int32) : ∀ n, nzs (upd scr i v) n ≤ nzs scr n + 1 ∧ (n ≤ i → nzs (upd scr i v) n = nzs scr n)
  | 0 => ⟨Nat.zero_le _, fun _ => rfl⟩
  | n + 1 => by
    have ih := nzs_upd scr i v n
    rw [nzs, nzs]
    by_cases e : n = i
    · subst e
      have := ih.2 (Nat.le_refl _)
      refine ⟨?_, fun h => by omega⟩
      rw [this]
      split <;> split <;> omega
    · have e2 : upd scr i v n = scr n := by simp [upd, e]
      rw [e2]
      refine ⟨by split <;> omega, fun h => ?_⟩
      rw [ih.2 (by omega)]
theorem nzs_mono (scr : Nat → Int32) {m : Nat} : ∀ n, m ≤ n → nzs scr m ≤ nzs scr n
  | 0, h => by rw [show m = 0 by omega]; exact Nat.le_refl _
  | n + 1, h => by
    by_cases e : m = n + 1
    · rw [e]; exact Nat.le_refl _
    · have := nzs_mono scr (m := m) n (by omega)
      rw [nzs]; omega
/-- one entry: gives and frees, blocks -/
theorem rpOne_c (hR : RuleOK S L R rc top) {v : Int32} {i : Nat} {z : (Nat → Bool) × (Nat → Nat) × (Nat → Nat) × Nat × Nat × Nat × Nat × Nat × Nat} (hT : TOK top S L R z.1 z.2.1) (hg : gvOK z.2.1 z.2.2.1 i) (hc : z.2.2.2.2.2.2.2.1 = z.2.2.2.2.2.2.2.2 + nB z.1 z.2.1) :
    (rpOne top S L R kp v i z).2.2.2.2.2.2.2.2.1 + (rpOne top S L R kp v i z).2.2.2.2.2.2.2.2.2 ≤ z.2.2.2.2.2.2.2.1 + z.2.2.2.2.2.2.2.2 + (if v = 0 then 0 else 1) ∧
    (rpOne top S L R kp v i z).2.2.2.2.2.2.2.2.1 = (rpOne top S L R kp v i z).2.2.2.2.2.2.2.2.2 + nB (rpOne top S L R kp v i z).2.1 (rpOne top S L R kp v i z).2.2.1 ∧
    TOK top S L R (rpOne top S L R kp v i z).2.1 (rpOne top S L R kp v i z).2.2.1 ∧ gvOK (rpOne top S L R kp v i z).2.2.1 (rpOne top S L R kp v i z).2.2.2.1 (i + 1) := by
  by_cases c1 : 0 < v
  · obtain ⟨w, hw1, hw, hwv, hwc⟩ := rp_pos c1
    have hv0 : ¬ v = 0 := fun e => by rw [e] at c1; exact absurd c1 (by decide)
    rw [if_neg hv0]
    by_cases c2 : 256 ≤ nB z.1 z.2.1
    · rw [rp_f c1 c2]
      refine ⟨Nat.le_add_right _ _, hc, hT, ?_⟩
      show gvOK z.2.1 (upN z.2.2.1 i 0) (i + 1)
      rw [gvOK_0 hg]; exact gvOK_s hg (by omega)
    · rw [rp_g c1 hwc c2]
      show z.2.2.2.2.2.2.2.1 + (if (gC S L R (cls top L R) z.2.1 w z.1).2.1 = 0 then 0 else 1) + z.2.2.2.2.2.2.2.2 ≤ _ ∧ z.2.2.2.2.2.2.2.1 + (if (gC S L R (cls top L R) z.2.1 w z.1).2.1 = 0 then 0 else 1) = z.2.2.2.2.2.2.2.2 + nB (gC S L R (cls top L R) z.2.1 w z.1).1 (gQ S L R (cls top L R) z.2.1 w z.1) ∧ TOK top S L R (gC S L R (cls top L R) z.2.1 w z.1).1 (gQ S L R (cls top L R) z.2.1 w z.1) ∧ gvOK (gQ S L R (cls top L R) z.2.1 w z.1) (upN z.2.2.1 i (gC S L R (cls top L R) z.2.1 w z.1).2.1) (i + 1)
      by_cases c3 : gB S (cls top L R) z.2.1 w z.1 = 0
      · have e0 := gC_0 (L := L) (R := R) (top := top) c3
        have hTn : TOK top S L R (gC S L R (cls top L R) z.2.1 w z.1).1 z.2.1 := by rw [(gC_n c3).1]; exact gS1_ok hR hT
        rw [if_pos e0, (gC_n c3).2, nB_same hR hT hTn, e0, gvOK_0 hg]
        exact ⟨by omega, by omega, hTn, gvOK_s hg (by omega)⟩
      · have hne : (gC S L R (cls top L R) z.2.1 w z.1).2.1 ≠ 0 := fun e => c3 ((gC_ne hR hT hw1).mp e)
        rw [if_neg hne, nB_give hR hT hw1 c3]
        exact ⟨by omega, by omega, gQ_ok hR hT hw1 c3, gvOK_g hg hne (gC_ok hR hT hw1 c3).2.2.2.1 hw1 (gC_s c3).2⟩
  · by_cases c2 : v = 0
    · rw [rp_j c1 c2, if_pos c2]
      have hj := jal_ok hR hT
      refine ⟨Nat.le_refl _, ?_, hj, gvOK_s hg (by omega)⟩
      show z.2.2.2.2.2.2.2.1 = z.2.2.2.2.2.2.2.2 + nB (jal z.1 z.2.1) z.2.1
      rw [nB_same hR hT hj]; exact hc
    · rw [if_neg c2]
      by_cases c3 : 256 ≤ (-1 - v).toNatClampNeg ∨ z.2.2.1 (-1 - v).toNatClampNeg = 0
      · rw [rp_n c1 c2 rfl c3]
        exact ⟨Nat.le_add_right _ _, hc, hT, gvOK_s hg (by omega)⟩
      · rw [rp_b c1 c2 rfl c3]
        have hne : z.2.2.1 (-1 - v).toNatClampNeg ≠ 0 := fun e => c3 (Or.inr e)
        have hry := hg.1 _ hne
        have hyl := hT.2 _ hry
        have hT8 := TOK_set (w := 0) hT hyl.1 hyl.2.1 (Nat.zero_le _)
        have hT9 := (aUp_ok (kp := kp) hR 24 z.1 (z.2.2.1 (-1 - v).toNatClampNeg) 0 hT8 hyl.1 hyl.2.1 (upN_s _ _ _)).1
        have hn := nB_free hR hT hT9 hry
        show z.2.2.2.2.2.2.2.1 + (z.2.2.2.2.2.2.2.2 + 1) ≤ _ ∧ z.2.2.2.2.2.2.2.1 = z.2.2.2.2.2.2.2.2 + 1 + nB _ _ ∧ _
        have e9 : nB (true, frZ top L R kp (-1 - v).toNatClampNeg z).2.1 (true, frZ top L R kp (-1 - v).toNatClampNeg z).2.2.1 = nB z.1 z.2.1 - 1 := hn.1
        refine ⟨by omega, ?_, hT9, gvOK_s (gvOK_b hg hne) (by omega)⟩
        rw [e9]; omega
theorem rpN_c (hR : RuleOK S L R rc top) : ∀ (k i : Nat) (z : (Nat → Bool) × (Nat → Nat) × (Nat → Nat) × Nat × Nat × Nat × Nat × Nat × Nat), TOK top S L R z.1 z.2.1 → gvOK z.2.1 z.2.2.1 i → z.2.2.2.2.2.2.2.1 = z.2.2.2.2.2.2.2.2 + nB z.1 z.2.1 →
    (rpN top S L R kp scr k i z).2.2.2.2.2.2.2.2.1 + (rpN top S L R kp scr k i z).2.2.2.2.2.2.2.2.2 + nzs scr i ≤ z.2.2.2.2.2.2.2.1 + z.2.2.2.2.2.2.2.2 + nzs scr (i + k) ∧ (rpN top S L R kp scr k i z).2.2.2.2.2.2.2.2.1 = (rpN top S L R kp scr k i z).2.2.2.2.2.2.2.2.2 + nB (rpN top S L R kp scr k i z).2.1 (rpN top S L R kp scr k i z).2.2.1
  | 0, i, z, hT, hg, hc => ⟨Nat.le_refl _, hc⟩
  | k + 1, i, z, hT, hg, hc => by
    have h1 := rpOne_c (kp := kp) (v := scr i) hR hT hg hc
    have hm := nzs_mono scr (m := i + 1) (i + (k + 1)) (by omega)
    have e : nzs scr (i + 1) = nzs scr i + (if scr i = 0 then 0 else 1) := rfl
    rw [rpN]
    split
    · have h2 := rpN_c hR k (i + 1) _ h1.2.2.1 h1.2.2.2 h1.2.1
      rw [show i + 1 + k = i + (k + 1) by omega] at h2
      exact ⟨by have := h2.1; have := h1.1; omega, h2.2⟩
    · refine ⟨?_, h1.2.1⟩
      show (rpOne top S L R kp (scr i) i z).2.2.2.2.2.2.2.2.1 + (rpOne top S L R kp (scr i) i z).2.2.2.2.2.2.2.2.2 + nzs scr i ≤ _
      have := h1.1
      omega
end PureNum
/-- not too many gives -/
theorem num_b {a b d : Nat} (h : a + b + d ≤ 62) : a * b + 2 * d ≤ 961 := by
  have key : ∀ a, a < 63 → ∀ d, d < 63 → a * (62 - a - d) + 2 * d ≤ 961 := by decide +kernel
  have h1 := key a (by omega) d (by omega)
  have h2 : a * b ≤ a * (62 - a - d) := Nat.mul_le_mul_left a (by omega)
  omega
theorem num_g {a b d g f n : Nat} (h : a + b + d ≤ 62) (h1 : g + f ≤ a * b + 2 * d) (h2 : g = f + n) (h3 : n ≤ 256) : g ≤ 608 := by
  have := num_b h
  omega
