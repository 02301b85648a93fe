/-! The law's invariant: what the calls make of it. -/
section PureLN
variable {b : Bool} {c ld rp ot gc fc gc' fc' : Nat} {tz tz' scr : Nat → Int32}
theorem LN_c (h : LN b c ld rp ot gc fc tz scr) (hc : c + 1 ≤ 64) : LN b (c + 1) ld rp ot gc fc tz scr :=
  ⟨hc, by have := h.2.1; omega, h.2.2.1, h.2.2.2.1.imp id (fun q => by omega), fun q => ⟨by have := (h.2.2.2.2 q).1; omega, (h.2.2.2.2 q).2⟩⟩
theorem LN_told (h : LN b c ld rp ot gc fc tz scr) (hc : c + 1 ≤ 64) : LN b (c + 1) ld rp ot gc fc tz' scr :=
  ⟨hc, by have := h.2.1; omega, h.2.2.1, Or.inr (by have := h.2.1; omega), fun q => ⟨by have := (h.2.2.2.2 q).1; omega, (h.2.2.2.2 q).2⟩⟩
theorem LN_ot (h : LN true c ld rp ot gc fc tz scr) (hc : c + 1 ≤ 64) (hg : gc' + fc' ≤ gc + fc + 2) : LN true (c + 1) ld rp (ot + 1) gc' fc' tz scr :=
  ⟨hc, by have := h.2.1; omega, h.2.2.1, h.2.2.2.1.imp id (fun q => by omega), fun q => ⟨by have := (h.2.2.2.2 q).1; omega, by have := (h.2.2.2.2 q).2; omega⟩⟩
theorem LN_ld (h : LN b c ld rp ot gc fc tz scr) (hc : c + 1 ≤ 64) (i : Nat) (v : Int32) : LN b (c + 1) (ld + 1) rp ot gc fc tz (upd scr i v) :=
  ⟨hc, by have := h.2.1; omega, by have := (nzs_upd scr i v 256).1; have := h.2.2.1; omega, h.2.2.2.1.imp id (fun q => by omega), fun q => ⟨by have := (h.2.2.2.2 q).1; omega, by have := (h.2.2.2.2 q).2; rw [Nat.succ_mul]; omega⟩⟩
theorem LN_rp (h : LN true c ld rp ot gc fc tz scr) (hc : c + 1 ≤ 64) (hg : gc' + fc' ≤ gc + fc + nzs scr 256) : LN true (c + 1) ld (rp + 1) ot gc' fc' tz scr :=
  ⟨hc, by have := h.2.1; omega, h.2.2.1, h.2.2.2.1.imp id (fun q => by omega), fun q => ⟨by have := (h.2.2.2.2 q).1; omega, by have := (h.2.2.2.2 q).2; have := h.2.2.1; rw [Nat.mul_succ]; omega⟩⟩
theorem LN_build (h : LN b c ld rp ot gc fc tz scr) (hc : c + 1 ≤ 64) {k : Nat} (hk : tz k ≠ 0) : LN true (c + 1) ld rp ot 0 0 tz scr := by
  have h1 : ld + rp + ot + 1 ≤ c := h.2.2.2.1.elim (fun q => absurd (q k) hk) id
  exact ⟨hc, by omega, h.2.2.1, Or.inr (by omega), fun _ => ⟨by omega, Nat.zero_le _⟩⟩
end PureLN
section PureLB
variable {n n' : Nat} {pa ch kd ad ra su un fo kp gs gav pa' ch' kd' ad' ra' su' un' fo' gs' gav' : Nat → Nat} {tz tl ty sz2 lf2 rt2 : Nat → Int32} {rb tr2 : Nat → Bool}
  {top : Nat} {S L R : Nat → Nat} {rc : Nat → Bool} {sp : Nat → Bool} {rq nu : Nat → Nat} {mk spare bl rd hd : Nat}
theorem fo_25 (hR : RuleOK S L R rc top) (h : wI top S L R sp rq nu [] n mk spare pa ch kd ad ra su un fo bl rd hd) : ∀ j, 25 ≤ j → fo j = 0 := fun j hj => by
  rw [h.2.1]
  unfold cF
  rw [List.countP_eq_zero]
  intro q hq
  have h1 := (lvs_mem hR h.1.1 1 ex_1 q hq).1
  have h2 := (cls_ok hR h.1.1 h1).2.2.1
  simp only [Bool.and_eq_true, decide_eq_true_eq]
  omega
theorem LB_mem (h : LB n pa ch kd ad ra su un fo kp gs gav tz tl ty sz2 lf2 rt2 rb tr2) (hR : RuleOK S L R rc top) (hI : wI top S L R sp rq nu [] n' mk spare pa' ch' kd' ad' ra' su' un' fo' bl rd hd) (hn : n' ≤ 55940) : LB n' pa' ch' kd' ad' ra' su' un' fo' kp gs gav tz tl ty sz2 lf2 rt2 rb tr2 :=
  ⟨h.1, hI.1.2.2.2.2.1, ⟨hI.1.2.2.2.2.2.2.2.2.1, hI.1.2.2.2.2.2.2.2.2.2, hn⟩, fo_25 hR hI, h.2.2.2.2⟩
theorem LB_keep (h : LB n pa ch kd ad ra su un fo kp gs gav tz tl ty sz2 lf2 rt2 rb tr2) {i mm : Nat} (hi : 1 ≤ i ∧ i ≤ 24) : LB n pa ch kd ad ra su un fo (upN kp i mm) gs gav tz tl ty sz2 lf2 rt2 rb tr2 :=
  ⟨h.1, h.2.1, h.2.2.1, h.2.2.2.1, fun j hj => by rw [upN_n _ _ (by omega)]; exact h.2.2.2.2.1 j hj, h.2.2.2.2.2⟩
theorem LB_room (h : LB n pa ch kd ad ra su un fo kp gs gav tz tl ty sz2 lf2 rt2 rb tr2) (hg : gs' 0 = 0) : LB n pa ch kd ad ra su un fo kp gs' gav tz tl ty sz2 lf2 rt2 rb tr2 :=
  ⟨h.1, h.2.1, h.2.2.1, h.2.2.2.1, h.2.2.2.2.1, hg, h.2.2.2.2.2.2⟩
theorem LB_gav (h : LB n pa ch kd ad ra su un fo kp gs gav tz tl ty sz2 lf2 rt2 rb tr2) (hg : ∀ j, 256 ≤ j → gav' j = 0) : LB n pa ch kd ad ra su un fo kp gs gav' tz tl ty sz2 lf2 rt2 rb tr2 :=
  ⟨h.1, h.2.1, h.2.2.1, h.2.2.2.1, h.2.2.2.2.1, h.2.2.2.2.2.1, hg, h.2.2.2.2.2.2.2⟩
theorem LB_told (h : LB n pa ch kd ad ra su un fo kp gs gav tz tl ty sz2 lf2 rt2 rb tr2) {k : Nat} {a b c : Int32} (hk : 1 ≤ k) : LB n pa ch kd ad ra su un fo kp gs gav (upd tz k a) (upd tl k b) (upd ty k c) sz2 lf2 rt2 rb tr2 :=
  ⟨⟨by simp only [upd, if_neg (show ¬ 0 = k by omega)]; exact h.1.1, by simp only [upd, if_neg (show ¬ 0 = k by omega)]; exact h.1.2.1, by simp only [upd, if_neg (show ¬ 0 = k by omega)]; exact h.1.2.2⟩, h.2⟩
theorem LB_fam (h : LB n pa ch kd ad ra su un fo kp gs gav tz tl ty sz2 lf2 rt2 rb tr2) {k a b m : Nat} : LB n pa ch kd ad ra su un fo kp gs gav (fmS k a b m tz) (fmL k m tl) (fmR k m ty) sz2 lf2 rt2 rb tr2 :=
  ⟨⟨h.1.1, h.1.2.1, h.1.2.2⟩, h.2⟩
theorem LB_bad (h : LB n pa ch kd ad ra su un fo kp gs gav tz tl ty sz2 lf2 rt2 rb tr2) {t : Nat} (hS : RS tz tl ty t rc) (ht : 1 ≤ t ∧ t ≤ 24) : LB n pa ch kd ad ra su un fo kp gs gav tz tl ty sz2 lf2 rt2 rb rc :=
  ⟨h.1, h.2.1, h.2.2.1, h.2.2.2.1, h.2.2.2.2.1, h.2.2.2.2.2.1, h.2.2.2.2.2.2.1, h.2.2.2.2.2.2.2.1, h.2.2.2.2.2.2.2.2.1, fun j hj => (Bool.eq_false_iff).mpr (fun e => hj (RS_in hS ht e))⟩
theorem LB_build (h : LB n pa ch kd ad ra su un fo kp gs gav tz tl ty sz2 lf2 rt2 rb tr2) {t : Nat} (hS : RS tz tl ty t rc) (ht : 1 ≤ t ∧ t ≤ 24) (hR : RuleOK S L R rc top) (hI : wI top S L R sp rq nu [] n mk spare pa' ch' kd' ad' ra' su' un' fo' bl rd hd) : LB n pa' ch' kd' ad' ra' su' un' fo' (fun _ => 0) gs gav tz tl ty (fmi sz2 tz 25) (fmi lf2 tl 25) (fmi rt2 ty 25) rc rc := by
  have h1 := LB_mem h hR hI h.2.2.1.2.2
  have h2 : ∀ j, ¬ (1 ≤ j ∧ j ≤ 24) → rc j = false := fun j hj => by
    cases e : rc j
    · rfl
    · exact absurd (RS_in hS ht e) hj
  exact ⟨h1.1, h1.2.1, h1.2.2.1, h1.2.2.2.1, fun _ _ => rfl, h1.2.2.2.2.2.1, h1.2.2.2.2.2.2.1, ⟨h.2.2.2.2.2.2.2.1.1, h.2.2.2.2.2.2.2.1.2.1, h.2.2.2.2.2.2.2.1.2.2⟩, h2, h2⟩
end PureLB
/-- the least closed set is there -/
theorem RS_ex (tz tl ty : Nat → Int32) (t : Nat) : ∃ rc, RS tz tl ty t rc := by
  classical
  refine ⟨fun k => decide (∀ P : Nat → Bool, P t = true → clo tz tl ty P → P k = true), decide_eq_true (fun P h _ => h), fun k hk hb hl => ?_, fun P h1 h2 k hk => of_decide_eq_true hk P h1 h2⟩
  have hk := of_decide_eq_true hk
  exact ⟨decide_eq_true (fun P h1 h2 => (h2 k (hk P h1 h2) hb hl).1), decide_eq_true (fun P h1 h2 => (h2 k (hk P h1 h2) hb hl).2)⟩
theorem RS_nz {tz tl ty : Nat → Int32} {t : Nat} {rc : Nat → Bool} (h : RS tz tl ty t rc) (ht : 1 ≤ t ∧ t ≤ 24) (hz : lwb (fun j => rc j && bd tz tl ty j) = 0) : tz t ≠ 0 := fun e => by
  have h1 := (bd_ok (lwb_good h ht hz t h.1)).1
  rw [e] at h1
  exact absurd h1.1 (by decide)
/-- a family's words -/
theorem pos_w {v : Int32} (h : nI 1 ≤ v) : ∃ w, 1 ≤ w ∧ w < 2 ^ 31 ∧ v = nI w := by
  obtain ⟨w, a, b, c, -⟩ := rp_pos (v := v) (by
    have h1 : (0 : Int32) < nI 1 := by decide
    exact Int32.lt_of_lt_of_le h1 h)
  exact ⟨w, a, b, c⟩
theorem rng_w {a b : Nat} {v : Int32} (hb : b < 2 ^ 31) (h : nI a ≤ v) (h2 : v ≤ nI b) (ha : a ≤ b) : ∃ w, a ≤ w ∧ w ≤ b ∧ v = nI w := by
  have h0 : ¬ v < 0 := fun q => by
    have h3 : (0 : Int32) ≤ nI a := by rw [← nI_0]; exact nI_le (Nat.zero_le _) (by omega)
    exact Int32.lt_irrefl (Int32.lt_of_le_of_lt (Int32.le_trans h3 h) q)
  obtain ⟨w, hw, e⟩ := nI_of h0
  subst e
  have l1 := (nI_leI (by omega) hw).mp h
  have l2 := (nI_leI hw hb).mp h2
  exact ⟨w, l1, l2, rfl⟩
theorem fam_w {kv nv av bv : Int32} (h : (¬ kv < 0 ∧ kv ≤ nI 2) ∧ (nI 1 ≤ nv ∧ nv ≤ nI 24) ∧ (nI 4 ≤ av ∧ av ≤ nI 4194304) ∧ (kv = nI 1 → nI 4 ≤ bv ∧ bv ≤ nI 4194304)) :
    ∃ k n a b, kv = nI k ∧ nv = nI n ∧ av = nI a ∧ k ≤ 2 ∧ (1 ≤ n ∧ n ≤ 24) ∧ (4 ≤ a ∧ a ≤ 4194304) ∧ (k = 1 → bv = nI b ∧ 4 ≤ b ∧ b ≤ 4194304) := by
  obtain ⟨h1, h2, h3, h4⟩ := h
  obtain ⟨k, hk, e⟩ := nI_of h1.1
  obtain ⟨n, n1, n2, n3⟩ := rng_w (by decide) h2.1 h2.2 (by decide)
  obtain ⟨a, a1, a2, a3⟩ := rng_w (by decide) h3.1 h3.2 (by decide)
  have hk2 : k ≤ 2 := (nI_leI hk (by decide)).mp (e ▸ h1.2)
  by_cases c : k = 1
  · obtain ⟨b, b1, b2, b3⟩ := rng_w (by decide) (h4 (by rw [e, c])).1 (h4 (by rw [e, c])).2 (by decide)
    exact ⟨k, n, a, b, e, n3, a3, hk2, ⟨n1, n2⟩, ⟨a1, a2⟩, fun _ => ⟨b3, b1, b2⟩⟩
  · exact ⟨k, n, a, 0, e, n3, a3, hk2, ⟨n1, n2⟩, ⟨a1, a2⟩, fun q => absurd q c⟩
section PureRM
variable {top : Nat} {S L R kp : Nat → Nat} {rc : Nat → Bool} {scr : Nat → Int32}
theorem dbl_b {n m : Nat} (hn : n ≤ 55940) (hm : m ≤ 27970) : dbl n m ≤ 55940 := by unfold dbl; split <;> omega
theorem rpOne_m (hR : RuleOK S L R rc top) {v : Int32} {i : Nat} {z : (Nat → Bool) × (Nat → Nat) × (Nat → Nat) × Nat × Nat × Nat × Nat × Nat × Nat} (hT : TOK top S L R z.1 z.2.1) (hg : gvOK z.2.1 z.2.2.1 i) (hl : (lvs z.1 1).length ≤ 1 + 23 * z.2.2.2.2.2.2.2.1) (hm : z.2.2.2.2.2.1 ≤ 55940 ∧ z.2.2.2.2.2.2.1 ≤ 27970) (hb : (rpOne top S L R kp v i z).2.2.2.2.2.2.2.2.1 ≤ 608) :
    (lvs (rpOne top S L R kp v i z).2.1 1).length ≤ 1 + 23 * (rpOne top S L R kp v i z).2.2.2.2.2.2.2.2.1 ∧ (rpOne top S L R kp v i z).2.2.2.2.2.2.1 ≤ 55940 ∧ (rpOne top S L R kp v i z).2.2.2.2.2.2.2.1 ≤ 27970 := by
  by_cases c1 : 0 < v
  · obtain ⟨w, hw1, hw, hwv, hwc⟩ := rp_pos c1
    by_cases c2 : 256 ≤ nB z.1 z.2.1
    · rw [rp_f c1 c2]; exact ⟨hl, hm⟩
    · rw [rp_g c1 hwc c2] at hb ⊢
      change z.2.2.2.2.2.2.2.1 + (if (gC S L R (cls top L R) z.2.1 w z.1).2.1 = 0 then 0 else 1) ≤ 608 at hb
      show (lvs (gC S L R (cls top L R) z.2.1 w z.1).1 1).length ≤ 1 + 23 * (z.2.2.2.2.2.2.2.1 + (if (gC S L R (cls top L R) z.2.1 w z.1).2.1 = 0 then 0 else 1)) ∧ dbl z.2.2.2.2.2.1 (max z.2.2.2.2.2.2.1 (2 * (lvs (gC S L R (cls top L R) z.2.1 w z.1).1 1).length)) ≤ 55940 ∧ max z.2.2.2.2.2.2.1 (2 * (lvs (gC S L R (cls top L R) z.2.1 w z.1).1 1).length) ≤ 27970
      have hlen : (lvs (gC S L R (cls top L R) z.2.1 w z.1).1 1).length ≤ 1 + 23 * (z.2.2.2.2.2.2.2.1 + (if (gC S L R (cls top L R) z.2.1 w z.1).2.1 = 0 then 0 else 1)) := by
        by_cases c3 : gB S (cls top L R) z.2.1 w z.1 = 0
        · have := gC_len0 hR hT c3; omega
        · have := (gC_23 hR hT hw1 c3).2
          have hne : (gC S L R (cls top L R) z.2.1 w z.1).2.1 ≠ 0 := fun e => c3 ((gC_ne hR hT hw1).mp e)
          rw [if_neg hne]; omega
      have hmm : max z.2.2.2.2.2.2.1 (2 * (lvs (gC S L R (cls top L R) z.2.1 w z.1).1 1).length) ≤ 27970 := by
        generalize (if (gC S L R (cls top L R) z.2.1 w z.1).2.1 = 0 then 0 else 1) = t at hb hlen
        have := hm.2
        omega
      exact ⟨hlen, dbl_b hm.1 hmm, hmm⟩
  · by_cases c2 : v = 0
    · rw [rp_j c1 c2]
      refine ⟨?_, hm⟩
      show (lvs (jal z.1 z.2.1) 1).length ≤ _
      exact Nat.le_trans (len_jal hR _ z.1 hT (Nat.le_refl _)) hl
    · by_cases c3 : 256 ≤ (-1 - v).toNatClampNeg ∨ z.2.2.1 (-1 - v).toNatClampNeg = 0
      · rw [rp_n c1 c2 rfl c3]; exact ⟨hl, hm⟩
      · rw [rp_b c1 c2 rfl c3]
        refine ⟨?_, hm⟩
        have hne : z.2.2.1 (-1 - v).toNatClampNeg ≠ 0 := fun e => c3 (Or.inr e)
        have hry := hg.1 _ hne
        have hyl := hT.2 _ hry
        have hT8 := TOK_set (w := 0) hT hyl.1 hyl.2.1 (Nat.zero_le _)
        exact Nat.le_trans (aUp_len hR 24 z.1 _ 0 hT8 hyl.1 hyl.2.1 (upN_s _ _ _)) hl
theorem rpN_m (hR : RuleOK S L R rc top) : ∀ (k i : Nat) (z : (Nat → Bool) × (Nat → Nat) × (Nat → Nat) × Nat × Nat × Nat × Nat × Nat × Nat), TOK top S L R z.1 z.2.1 → gvOK z.2.1 z.2.2.1 i → z.2.2.2.2.2.2.2.1 = z.2.2.2.2.2.2.2.2 + nB z.1 z.2.1 → (lvs z.1 1).length ≤ 1 + 23 * z.2.2.2.2.2.2.2.1 → (z.2.2.2.2.2.1 ≤ 55940 ∧ z.2.2.2.2.2.2.1 ≤ 27970) → (rpN top S L R kp scr k i z).2.2.2.2.2.2.2.2.1 ≤ 608 →
    (rpN top S L R kp scr k i z).2.2.2.2.2.2.1 ≤ 55940 ∧ (rpN top S L R kp scr k i z).2.2.2.2.2.2.2.1 ≤ 27970
  | 0, i, z, hT, hg, hc, hl, hm, hb => hm
  | k + 1, i, z, hT, hg, hc, hl, hm, hb => by
    have h1 := rpOne_c (kp := kp) (v := scr i) hR hT hg hc
    have h9 := rpN_gc (top := top) (S := S) (L := L) (R := R) (kp := kp) (scr := scr) k (i + 1) (rpOne top S L R kp (scr i) i z).2
    have hb2 : (rpOne top S L R kp (scr i) i z).2.2.2.2.2.2.2.2.1 ≤ 608 := by
      rw [rpN] at hb
      split at hb
      · exact Nat.le_trans h9 hb
      · exact hb
    have h3 := rpOne_m (kp := kp) (v := scr i) hR hT hg hl hm hb2
    rw [rpN] at hb ⊢
    split
    · rename_i c
      rw [if_pos c] at hb
      exact rpN_m hR k (i + 1) _ h1.2.2.1 h1.2.2.2 h1.2.1 h3.1 h3.2 hb
    · exact h3.2
end PureRM
theorem gv_0 {rq : Nat → Nat} : gvOK rq (fun _ => 0) 0 := ⟨fun _ h => absurd rfl h, fun _ _ h => absurd rfl h, fun _ _ => rfl⟩
