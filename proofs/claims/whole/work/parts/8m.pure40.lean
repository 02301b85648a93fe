/-! Walking along all nodes, as the reference does. -/
def tvF (S L R : Nat → Nat) (w : Nat) : Nat → Nat → Nat
  | 0, _ => 0
  | n + 1, k => if (if L k = 0 then 0 else tvF S L R w n (L k) + tvF S L R w n (R k)) = 0 ∧ w ≤ S k then 1 else (if L k = 0 then 0 else tvF S L R w n (L k) + tvF S L R w n (R k))
def tv (S L R : Nat → Nat) (w k : Nat) : Nat := tvF S L R w 25 k
section PureG2
variable {top : Nat} {S L R : Nat → Nat} {rc : Nat → Bool} {sp : Nat → Bool} {rq : Nat → Nat} {w : Nat}
theorem tvF_stable (hR : RuleOK S L R rc top) : ∀ (n k : Nat), rc k = true → rnk S rc k < n → tvF S L R w n k = tvF S L R w (n + 1) k := by
  intro n
  induction n with
  | zero => intro k _ h; omega
  | succ n ih =>
    intro k hk h
    have e : (if L k = 0 then 0 else tvF S L R w n (L k) + tvF S L R w n (R k)) = (if L k = 0 then 0 else tvF S L R w (n + 1) (L k) + tvF S L R w (n + 1) (R k)) := by
      rcases (hR.2.1 k hk).2.2.2.2 with e | e
      · rw [if_pos e.1, if_pos e.1]
      · have b1 := rnk_lt hR e.1 e.2.2.1
        have b2 := rnk_lt hR e.2.1 e.2.2.2.1
        rw [ih _ e.1 (by omega), ih _ e.2.1 (by omega)]
    rw [tvF, e]
    rfl
theorem tv_s (hR : RuleOK S L R rc top) {k : Nat} (hk : rc k = true) : tv S L R w k = if (if L k = 0 then 0 else tv S L R w (L k) + tv S L R w (R k)) = 0 ∧ w ≤ S k then 1 else (if L k = 0 then 0 else tv S L R w (L k) + tv S L R w (R k)) := by
  unfold tv
  rw [tvF_stable hR 25 k hk (by have := rnk_23 hR hk; omega)]
  rfl
theorem tv_le (hR : RuleOK S L R rc top) : ∀ (n k : Nat), rc k = true → tvF S L R w n k ≤ S k := by
  intro n
  induction n with
  | zero => intro k _; exact Nat.zero_le _
  | succ n ih =>
    intro k hk
    have h0 := hR.2.1 k hk
    have e : (if L k = 0 then 0 else tvF S L R w n (L k) + tvF S L R w n (R k)) ≤ S k := by
      rcases h0.2.2.2.2 with e | e
      · rw [if_pos e.1]; exact Nat.zero_le _
      · have a := ih _ e.1
        have b := ih _ e.2.1
        split <;> omega
    rw [tvF]
    generalize (if L k = 0 then 0 else tvF S L R w n (L k) + tvF S L R w n (R k)) = m at e ⊢
    split <;> omega
theorem tv_yv (hR : RuleOK S L R rc top) (hw : 1 ≤ w) : ∀ (n k : Nat), rnk S rc k < n → rc k = true → tv S L R w k = yv S L R w k := by
  intro n
  induction n with
  | zero => intro k h; omega
  | succ n ih =>
    intro k h hk
    rw [tv_s hR hk, yv_s hR hw hk]
    rcases (hR.2.1 k hk).2.2.2.2 with e | e
    · rw [if_pos e.1, e.1, e.2, yv_0 hR hw]
      by_cases c : w ≤ S k
      · rw [if_pos ⟨rfl, c⟩, if_neg (by omega)]; rfl
      · rw [if_neg (fun q => c q.2), if_pos (by omega)]
    · have b1 := rnk_lt hR e.1 e.2.2.1
      have b2 := rnk_lt hR e.2.1 e.2.2.2.1
      have hL : ¬ L k = 0 := fun q => by have := (hR.2.1 _ e.1).1; omega
      rw [if_neg hL, ih _ (by omega) e.1, ih _ (by omega) e.2.1]
      by_cases c : S k < w
      · have y1 := yv_s hR hw e.1
        have y2 := yv_s hR hw e.2.1
        rw [if_pos (by omega)] at y1 y2
        rw [y1, y2, if_pos c, if_neg (fun q => by omega)]
      · rw [if_neg c]
        by_cases c2 : yv S L R w (L k) + yv S L R w (R k) = 0
        · rw [if_pos ⟨c2, by omega⟩, c2]; rfl
        · rw [if_neg (fun q => c2 q.1)]; omega
end PureG2
/-- a node that can't be joined with others: it is live, or it holds w -/
def stN (S cl rq : Nat → Nat) (w p : Nat) : Bool := decide (0 < rq p) || (decide (0 < w) && decide (w ≤ S (cl p)))
/-- one is told -/
def te1 (S cl tvv : Nat → Nat) (w : Nat) (t : Nat × Nat × Nat) (p : Nat) : Nat × Nat × Nat := (t.1 + 1, max t.2.1 (S (cl p)), t.2.2 + (if 0 < w then tvv (cl p) else 0))
/-- what waits, the last first, joined with a node -/
def mrg : List Nat → Nat → List Nat × Nat
  | [], p => ([], p)
  | t :: st, p => if 2 ≤ p ∧ p % 2 = 1 ∧ t + 1 = p then mrg st (p / 2) else (t :: st, p)
def nst (S cl tvv : Nat → Nat) (w : Nat) (z : List Nat × Nat × Nat × Nat) (p : Nat) : List Nat × Nat × Nat × Nat :=
  if 2 ≤ (mrg z.1 p).2 ∧ (mrg z.1 p).2 % 2 = 1 then ([], te1 S cl tvv w ((mrg z.1 p).1.reverse.foldl (te1 S cl tvv w) z.2) (mrg z.1 p).2) else ((mrg z.1 p).2 :: (mrg z.1 p).1, z.2)
def sst (S cl rq tvv : Nat → Nat) (w : Nat) (z : List Nat × Nat × Nat × Nat) (p : Nat) : List Nat × Nat × Nat × Nat :=
  if stN S cl rq w p then ([], (z.1.reverse.foldl (te1 S cl tvv w) z.2).1, (z.1.reverse.foldl (te1 S cl tvv w) z.2).2.1, (z.1.reverse.foldl (te1 S cl tvv w) z.2).2.2 + (if 0 < rq p then 0 else tvv (cl p))) else nst S cl tvv w z p
def Tad (a b : Nat × Nat × Nat) : Nat × Nat × Nat := (a.1 + b.1, max a.2.1 b.2.1, a.2.2 + b.2.2)
theorem Tad_a (a b c : Nat × Nat × Nat) : Tad (Tad a b) c = Tad a (Tad b c) := by unfold Tad; simp [Nat.add_assoc, Nat.max_assoc]
theorem Tad_0 (a : Nat × Nat × Nat) : Tad a (0, 0, 0) = a := by unfold Tad; simp
def val (S cl tvv : Nat → Nat) (w p : Nat) : Nat × Nat × Nat := (1, S (cl p), if 0 < w then tvv (cl p) else 0)
theorem te1_T (S cl tvv : Nat → Nat) (w : Nat) (t : Nat × Nat × Nat) (p : Nat) : te1 S cl tvv w t p = Tad t (val S cl tvv w p) := rfl
/-- some node below stands -/
def sbl (S cl rq : Nat → Nat) (sp : Nat → Bool) (w p : Nat) : Bool := (lvs sp p).any (stN S cl rq w)
section PureG3
variable {top : Nat} {S L R : Nat → Nat} {rc : Nat → Bool} {sp : Nat → Bool} {rq tvv cl : Nat → Nat} {w : Nat}
theorem te_F (l : List Nat) (t : Nat × Nat × Nat) : l.foldl (te1 S cl tvv w) t = Tad t (l.foldl (te1 S cl tvv w) (0, 0, 0)) := by
  induction l generalizing t with
  | nil => exact (Tad_0 t).symm
  | cons a l ih =>
    rw [List.foldl_cons, List.foldl_cons, ih, te1_T, ih (te1 S cl tvv w (0, 0, 0) a), te1_T, ← Tad_a, ← Tad_a, Tad_0]
/-- where nothing stands below a node, its leaves do as it does itself -/
theorem nst_all (hR : RuleOK S L R rc top) (hT : TOK top S L R sp rq) : ∀ (m p : Nat), ex sp p → (lvs sp p).length ≤ m → sbl S cl rq sp w p = false → ∀ z, (lvs sp p).foldl (sst S cl rq tvv w) z = nst S cl tvv w z p := by
  intro m
  induction m with
  | zero => intro p hx h; have := (nl_le hR hT p hx).1; omega
  | succ m ih =>
    intro p hx h hs z
    by_cases c : sp p = true
    · have hp := ex_pos hx
      have k1 : ex sp (2 * p) := Or.inr ⟨by omega, by rw [show 2 * p / 2 = p by omega]; exact c⟩
      have k2 : ex sp (2 * p + 1) := Or.inr ⟨by omega, by rw [show (2 * p + 1) / 2 = p by omega]; exact c⟩
      have e := lvs_s hR hT c
      have n1 := (nl_le hR hT _ k1).1
      have n2 := (nl_le hR hT _ k2).1
      rw [e, List.length_append] at h
      unfold sbl at hs
      rw [e, List.any_append, Bool.or_eq_false_iff] at hs
      rw [e, List.foldl_append, ih (2 * p) k1 (by omega) hs.1, ih (2 * p + 1) k2 (by omega) hs.2]
      have e1 : mrg z.1 (2 * p) = (z.1, 2 * p) := by
        cases z.1 with
        | nil => rfl
        | cons t st => rw [mrg, if_neg (by omega)]
      have e2 : nst S cl tvv w z (2 * p) = (2 * p :: z.1, z.2) := by
        unfold nst
        rw [e1, if_neg (by omega)]
      rw [e2]
      have e3 : mrg (2 * p :: z.1) (2 * p + 1) = mrg z.1 p := by
        rw [mrg, if_pos ⟨by omega, by omega, rfl⟩, show (2 * p + 1) / 2 = p by omega]
      unfold nst
      simp only [e3]
    · have c : sp p = false := by simpa using c
      rw [lvs_n c]
      unfold sbl at hs
      rw [lvs_n c] at hs
      have hs : stN S cl rq w p = false := by simpa using hs
      show sst S cl rq tvv w z p = _
      unfold sst
      rw [hs]
      rfl
/-- what a subtree tells -/
def Gx (S cl rq tvv : Nat → Nat) (sp : Nat → Bool) (w p : Nat) : Nat × Nat × Nat :=
  if sbl S cl rq sp w p = false then val S cl tvv w p else if 0 < p ∧ p < 16777216 ∧ sp p = true then Tad (Gx S cl rq tvv sp w (2 * p)) (Gx S cl rq tvv sp w (2 * p + 1)) else (0, 0, if 0 < rq p then 0 else tvv (cl p))
termination_by 33554432 - p
decreasing_by all_goals omega
theorem Gx_s (hR : RuleOK S L R rc top) (hT : TOK top S L R sp rq) {p : Nat} (hs : sp p = true) (h : sbl S cl rq sp w p = true) : Gx S cl rq tvv sp w p = Tad (Gx S cl rq tvv sp w (2 * p)) (Gx S cl rq tvv sp w (2 * p + 1)) := by
  have hx := hT.1 p hs
  have hb := sid_b hR hT hx.2.1
  have h2 : p < 16777216 := by
    have h3 := dep_pow (dep p) p hx.1 rfl
    have h4 : 2 ^ (dep p + 1) ≤ 2 ^ 24 := Nat.pow_le_pow_right (by decide) (by omega)
    omega
  rw [Gx, if_neg (by rw [h]; decide), if_pos ⟨by omega, h2, hs⟩]
theorem Gx_n {p : Nat} (h : sbl S cl rq sp w p = false) : Gx S cl rq tvv sp w p = val S cl tvv w p := by rw [Gx, if_pos h]
theorem Gx_l {p : Nat} (hs : sp p = false) (h : sbl S cl rq sp w p = true) : Gx S cl rq tvv sp w p = (0, 0, if 0 < rq p then 0 else tvv (cl p)) := by
  rw [Gx, if_neg (by rw [h]; decide), if_neg (by rw [hs]; simp)]
theorem sst_all (hR : RuleOK S L R rc top) (hT : TOK top S L R sp rq) : ∀ (m p : Nat), ex sp p → (lvs sp p).length ≤ m → sbl S cl rq sp w p = true → ∀ z, (lvs sp p).foldl (sst S cl rq tvv w) z = ([], Tad (z.1.reverse.foldl (te1 S cl tvv w) z.2) (Gx S cl rq tvv sp w p)) := by
  intro m
  induction m with
  | zero => intro p hx h; have := (nl_le hR hT p hx).1; omega
  | succ m ih =>
    intro p hx h hs z
    by_cases c : sp p = true
    · have hp := ex_pos hx
      have k1 : ex sp (2 * p) := Or.inr ⟨by omega, by rw [show 2 * p / 2 = p by omega]; exact c⟩
      have k2 : ex sp (2 * p + 1) := Or.inr ⟨by omega, by rw [show (2 * p + 1) / 2 = p by omega]; exact c⟩
      have e := lvs_s hR hT c
      have n1 := (nl_le hR hT _ k1).1
      have n2 := (nl_le hR hT _ k2).1
      have hs0 := hs
      rw [e, List.length_append] at h
      rw [Gx_s hR hT c hs, e, List.foldl_append]
      unfold sbl at hs
      rw [e, List.any_append, Bool.or_eq_true] at hs
      have e1 : mrg z.1 (2 * p) = (z.1, 2 * p) := by
        cases z.1 with
        | nil => rfl
        | cons t st => rw [mrg, if_neg (by omega)]
      have e2 : nst S cl tvv w z (2 * p) = (2 * p :: z.1, z.2) := by
        unfold nst
        rw [e1, if_neg (by omega)]
      cases c1 : sbl S cl rq sp w (2 * p)
      · have c2 : sbl S cl rq sp w (2 * p + 1) = true := hs.resolve_left (fun q => by unfold sbl at c1; rw [c1] at q; exact absurd q (by decide))
        rw [nst_all hR hT m (2 * p) k1 (by omega) c1, e2, ih (2 * p + 1) k2 (by omega) c2, Gx_n c1]
        show ([], Tad ((2 * p :: z.1).reverse.foldl _ z.2) _) = _
        rw [List.reverse_cons, List.foldl_append, ← Tad_a]
        rfl
      · rw [ih (2 * p) k1 (by omega) c1]
        cases c2 : sbl S cl rq sp w (2 * p + 1)
        · rw [nst_all hR hT m (2 * p + 1) k2 (by omega) c2, Gx_n c2, ← Tad_a]
          unfold nst
          show (if 2 ≤ 2 * p + 1 ∧ (2 * p + 1) % 2 = 1 then _ else _) = _
          rw [if_pos (by omega)]
          rfl
        · rw [ih (2 * p + 1) k2 (by omega) c2, ← Tad_a]
          rfl
    · have c : sp p = false := by simpa using c
      rw [Gx_l c hs, lvs_n c]
      unfold sbl at hs
      rw [lvs_n c] at hs
      have hs : stN S cl rq w p = true := by simpa using hs
      show sst S cl rq tvv w z p = _
      unfold sst Tad
      rw [hs]
      simp
/-- the whole walk -/
theorem walk_all (hR : RuleOK S L R rc top) (hT : TOK top S L R sp rq) : ((lvs sp 1).foldl (sst S cl rq tvv w) ([], 0, 0, 0)).1.reverse.foldl (te1 S cl tvv w) ((lvs sp 1).foldl (sst S cl rq tvv w) ([], 0, 0, 0)).2 = Gx S cl rq tvv sp w 1 := by
  cases c : sbl S cl rq sp w 1
  · rw [nst_all hR hT _ 1 ex_1 (Nat.le_refl _) c, Gx_n c]
    have e0 : nst S cl tvv w ([], 0, 0, 0) 1 = ([1], 0, 0, 0) := by
      unfold nst
      exact if_neg (show ¬ (2 ≤ 1 ∧ 1 % 2 = 1) by omega)
    rw [e0]
    show te1 S cl tvv w (0, 0, 0) 1 = _
    unfold te1 val
    simp
  · rw [sst_all hR hT _ 1 ex_1 (Nat.le_refl _) c]
    show Tad (0, 0, 0) _ = _
    unfold Tad
    simp
end PureG3
section PureG4
variable {top : Nat} {S L R : Nat → Nat} {rc : Nat → Bool} {sp : Nat → Bool} {rq tvv : Nat → Nat} {w : Nat}
theorem sbl_0 (hR : RuleOK S L R rc top) (hT : TOK top S L R sp rq) {cl : Nat → Nat} {p : Nat} (hx : ex sp p) : sbl S cl rq sp 0 p = lvb sp rq p := by
  have h := lvb_iff hR hT p hx
  unfold sbl
  cases e : lvb sp rq p
  · rw [List.any_eq_false]
    intro q hq
    unfold stN
    have : ¬ 0 < rq q := fun c => by rw [h.mpr ⟨q, hq, c⟩] at e; exact absurd e (by decide)
    simp [this]
  · rw [List.any_eq_true]
    obtain ⟨q, h1, h2⟩ := h.mp e
    exact ⟨q, h1, by unfold stN; simp [h2]⟩
/-- with nothing wanted: the free nodes, if all was joined -/
theorem Gx_0 (hR : RuleOK S L R rc top) (hT : TOK top S L R sp rq) {cl : Nat → Nat} : ∀ (m p : Nat), ex sp p → (lvs sp p).length ≤ m → Gx S cl rq tvv sp 0 p = ((wl sp rq p).length, (wl sp rq p).foldl (fun g q => max g (S (cl q))) 0, 0) ∨ (lvb sp rq p = true ∧ sp p = false ∧ Gx S cl rq tvv sp 0 p = (0, 0, if 0 < rq p then 0 else tvv (cl p)) ∧ wl sp rq p = []) := by
  intro m
  induction m with
  | zero => intro p hx h; have := (nl_le hR hT p hx).1; omega
  | succ m ih =>
    intro p hx h
    have hb := sbl_0 (cl := cl) hR hT hx
    cases c : lvb sp rq p
    · left
      rw [Gx_n (by rw [hb]; exact c), wl, if_pos c]
      unfold val
      simp
    · by_cases c2 : sp p = true
      · left
        have hp := ex_pos hx
        have k1 : ex sp (2 * p) := Or.inr ⟨by omega, by rw [show 2 * p / 2 = p by omega]; exact c2⟩
        have k2 : ex sp (2 * p + 1) := Or.inr ⟨by omega, by rw [show (2 * p + 1) / 2 = p by omega]; exact c2⟩
        have e := lvs_s hR hT c2
        have n1 := (nl_le hR hT _ k1).1
        have n2 := (nl_le hR hT _ k2).1
        rw [e, List.length_append] at h
        have h2 : p < 16777216 := by
          have hb := sid_b hR hT hx
          have h3 := dep_pow (dep p) p hp rfl
          have h4 : 2 ^ (dep p + 1) ≤ 2 ^ 24 := Nat.pow_le_pow_right (by decide) (by omega)
          omega
        have ew : wl sp rq p = wl sp rq (2 * p) ++ wl sp rq (2 * p + 1) := by
          rw [wl, if_neg (by rw [c]; decide), if_pos ⟨by omega, h2, c2⟩]
        have key : ∀ q, ex sp q → (lvs sp q).length ≤ m → Gx S cl rq tvv sp 0 q = ((wl sp rq q).length, (wl sp rq q).foldl (fun g q => max g (S (cl q))) 0, 0) := fun q hq hm => by
          rcases ih q hq hm with i | ⟨i1, i2, i3, i4⟩
          · exact i
          · have : 0 < rq q := by
              rw [lvb_n i2] at i1; exact of_decide_eq_true i1
            rw [i3, i4, if_pos this]; rfl
        have fm : ∀ (l : List Nat) (a : Nat), l.foldl (fun g q => max g (S (cl q))) a = max a (l.foldl (fun g q => max g (S (cl q))) 0) := by
          intro l
          induction l with
          | nil => intro a; simp
          | cons b l il => intro a; rw [List.foldl_cons, List.foldl_cons, il, il (max 0 _)]; omega
        rw [Gx_s hR hT c2 (by rw [hb]; exact c), key _ k1 (by omega), key _ k2 (by omega), ew]
        unfold Tad
        rw [List.length_append, List.foldl_append, fm _ (List.foldl _ 0 _)]
        rfl
      · have c2 : sp p = false := by simpa using c2
        right
        refine ⟨rfl, c2, Gx_l c2 (by rw [hb]; exact c), ?_⟩
        rw [wl, if_neg (by rw [c]; decide), if_neg (by rw [c2]; simp)]
theorem Gx_00 (hR : RuleOK S L R rc top) (hT : TOK top S L R sp rq) {cl : Nat → Nat} : (Gx S cl rq tvv sp 0 1).1 = (wl sp rq 1).length ∧ (Gx S cl rq tvv sp 0 1).2.1 = (wl sp rq 1).foldl (fun g q => max g (S (cl q))) 0 := by
  rcases Gx_0 (tvv := tvv) (cl := cl) hR hT _ 1 ex_1 (Nat.le_refl _) with e | ⟨-, -, e, e2⟩
  · rw [e]; exact ⟨rfl, rfl⟩
  · rw [e, e2]; exact ⟨rfl, rfl⟩
theorem kid_c (hR : RuleOK S L R rc top) (hT : TOK top S L R sp rq) {p : Nat} (hs : sp p = true) : cls top L R (2 * p) = L (cls top L R p) ∧ cls top L R (2 * p + 1) = R (cls top L R p) ∧ ex sp (2 * p) ∧ ex sp (2 * p + 1) ∧ S (L (cls top L R p)) < S (cls top L R p) ∧ S (R (cls top L R p)) < S (cls top L R p) ∧ rc (L (cls top L R p)) = true ∧ rc (R (cls top L R p)) = true := by
  have hx := hT.1 p hs
  have hc := cls_ok hR hT hx.2.1
  rcases (hR.2.1 _ hc.1).2.2.2.2 with e | e
  · exact absurd e.1 hx.2.2
  · exact ⟨cls_e hx.1, cls_o hx.1, Or.inr ⟨by omega, by rw [show 2 * p / 2 = p by omega]; exact hs⟩, Or.inr ⟨by omega, by rw [show (2 * p + 1) / 2 = p by omega]; exact hs⟩, e.2.2.1, e.2.2.2.1, e.1, e.2.1⟩
/-- too small for w: nothing to give below -/
theorem Gx_sm (hR : RuleOK S L R rc top) (hT : TOK top S L R sp rq) (hw : 1 ≤ w) (ht : ∀ k, rc k = true → tvv k = yv S L R w k) : ∀ (m p : Nat), ex sp p → (lvs sp p).length ≤ m → S (cls top L R p) < w → (Gx S (cls top L R) rq tvv sp w p).2.2 = 0 := by
  intro m
  induction m with
  | zero => intro p hx h; have := (nl_le hR hT p hx).1; omega
  | succ m ih =>
    intro p hx h hS
    have hc := cls_ok hR hT hx
    have hy : tvv (cls top L R p) = 0 := by rw [ht _ hc.1, yv_s hR hw hc.1, if_pos hS]
    cases c : sbl S (cls top L R) rq sp w p
    · rw [Gx_n c]; unfold val; rw [if_pos (by omega), hy]
    · by_cases c2 : sp p = true
      · have hk := kid_c hR hT c2
        have e := lvs_s hR hT c2
        have n1 := (nl_le hR hT _ hk.2.2.1).1
        have n2 := (nl_le hR hT _ hk.2.2.2.1).1
        rw [e, List.length_append] at h
        rw [Gx_s hR hT c2 c]
        have a := ih (2 * p) hk.2.2.1 (by omega) (by rw [hk.1]; omega)
        have b := ih (2 * p + 1) hk.2.2.2.1 (by omega) (by rw [hk.2.1]; omega)
        unfold Tad
        show _ + _ = 0
        omega
      · have c2 : sp p = false := by simpa using c2
        rw [Gx_l c2 c, hy]
        show (if 0 < rq p then 0 else 0) = 0
        split <;> rfl
/-- how many times w could be given -/
theorem Gx_rT (hR : RuleOK S L R rc top) (hT : TOK top S L R sp rq) (hw : 1 ≤ w) (ht : ∀ k, rc k = true → tvv k = yv S L R w k) : ∀ (m p : Nat), ex sp p → (lvs sp p).length ≤ m → (Gx S (cls top L R) rq tvv sp w p).2.2 = rT S L R (cls top L R) sp rq w p := by
  intro m
  induction m with
  | zero => intro p hx h; have := (nl_le hR hT p hx).1; omega
  | succ m ih =>
    intro p hx h
    have hc := cls_ok hR hT hx
    have hp := ex_pos hx
    have h2 : p < 16777216 := by
      have hb := sid_b hR hT hx
      have h3 := dep_pow (dep p) p hp rfl
      have h4 : 2 ^ (dep p + 1) ≤ 2 ^ 24 := Nat.pow_le_pow_right (by decide) (by omega)
      omega
    have lv0 : sbl S (cls top L R) rq sp w p = false → lvb sp rq p = false := fun c => by
      cases e : lvb sp rq p
      · rfl
      · obtain ⟨q, q1, q2⟩ := (lvb_iff hR hT p hx).mp e
        unfold sbl at c
        rw [List.any_eq_false] at c
        have := c q q1
        unfold stN at this
        rw [decide_eq_true q2] at this
        exact absurd rfl this
    by_cases c2 : sp p = true
    · have hk := kid_c hR hT c2
      have e := lvs_s hR hT c2
      have n1 := (nl_le hR hT _ hk.2.2.1).1
      have n2 := (nl_le hR hT _ hk.2.2.2.1).1
      have hl := h
      rw [e, List.length_append] at h
      have a := ih (2 * p) hk.2.2.1 (by omega)
      have b := ih (2 * p + 1) hk.2.2.2.1 (by omega)
      by_cases c3 : w ≤ S (L (cls top L R p)) ∨ w ≤ S (R (cls top L R p))
      · rw [rT, if_pos ⟨by omega, h2, c2, c3⟩, ← a, ← b]
        cases c : sbl S (cls top L R) rq sp w p
        · have c0 := c
          unfold sbl at c
          rw [e, List.any_append, Bool.or_eq_false_iff] at c
          rw [Gx_n c0, Gx_n (show sbl S (cls top L R) rq sp w (2 * p) = false from c.1), Gx_n (show sbl S (cls top L R) rq sp w (2 * p + 1) = false from c.2)]
          unfold val
          show (if 0 < w then _ else 0) = (if 0 < w then _ else 0) + (if 0 < w then _ else 0)
          rw [if_pos (by omega), if_pos (by omega), if_pos (by omega), hk.1, hk.2.1, ht _ hc.1, ht _ hk.2.2.2.2.2.2.1, ht _ hk.2.2.2.2.2.2.2, yv_s hR hw hc.1, if_neg (by omega)]
          have y1 := yv_s hR hw hk.2.2.2.2.2.2.1
          have y2 := yv_s hR hw hk.2.2.2.2.2.2.2
          rcases c3 with c3 | c3
          · rw [if_neg (by omega)] at y1; omega
          · rw [if_neg (by omega)] at y2; omega
        · rw [Gx_s hR hT c2 c]; rfl
      · rw [rT, if_neg (fun q => c3 q.2.2.2)]
        cases c : sbl S (cls top L R) rq sp w p
        · rw [if_neg (by rw [lv0 c]; decide), Gx_n c]
          unfold val
          show (if 0 < w then _ else 0) = _
          rw [if_pos (by omega), ht _ hc.1]
        · have hlv : lvb sp rq p = true := by
            rw [lvb_iff hR hT p hx]
            unfold sbl at c
            rw [List.any_eq_true] at c
            obtain ⟨q, q1, q2⟩ := c
            refine ⟨q, q1, ?_⟩
            apply Classical.byContradiction
            intro q3
            unfold stN at q2
            rw [decide_eq_false q3, Bool.false_or, Bool.and_eq_true, decide_eq_true_eq, decide_eq_true_eq] at q2
            rw [e] at q1
            rcases List.mem_append.mp q1 with q4 | q4
            · have := lvs_in hR hT _ hk.2.2.1 q q4; rw [hk.1] at this; omega
            · have := lvs_in hR hT _ hk.2.2.2.1 q q4; rw [hk.2.1] at this; omega
          rw [if_pos hlv, Gx_s hR hT c2 c]
          have a := Gx_sm hR hT hw ht m (2 * p) hk.2.2.1 (by omega) (by rw [hk.1]; omega)
          have b := Gx_sm hR hT hw ht m (2 * p + 1) hk.2.2.2.1 (by omega) (by rw [hk.2.1]; omega)
          unfold Tad
          show _ + _ = 0
          omega
    · have c2 : sp p = false := by simpa using c2
      rw [rT, if_neg (by rw [c2]; simp), lvb_n c2]
      cases c : sbl S (cls top L R) rq sp w p
      · have := lv0 c
        rw [lvb_n c2] at this
        rw [this, if_neg (by decide), Gx_n c]
        unfold val
        show (if 0 < w then _ else 0) = _
        rw [if_pos (by omega), ht _ hc.1]
      · rw [Gx_l c2 c, ht _ hc.1]
        by_cases c3 : 0 < rq p
        · rw [if_pos c3, decide_eq_true c3, if_pos rfl]
        · rw [if_neg c3, decide_eq_false c3, if_neg (by decide)]
end PureG4
/-! The reference's reckoning. -/
def tmS (tm : Nat → Int32) : Nat → Bool := fun k => decide (1 ≤ k ∧ k ≤ 24) && !decide (tm k = -1)
def tmI (rc : Nat → Bool) (tvv : Nat → Nat) (tm : Nat → Int32) : Prop := ∀ k, 1 ≤ k → k ≤ 24 → tm k = -1 ∨ (rc k = true ∧ tm k = nI (tvv k))
def tmC (L R : Nat → Nat) (rc : Nat → Bool) (tm : Nat → Int32) (j : Nat) : Prop := ∀ k, k < j → rc k = true → tm k ≠ -1 ∨ (L k ≠ 0 ∧ (tm (L k) = -1 ∨ tm (R k) = -1))
section PureH
variable {top : Nat} {S L R : Nat → Nat} {rc : Nat → Bool} {tvv : Nat → Nat} {tm : Nat → Int32} {j : Nat}
theorem tmC_s (h : tmC L R rc tm j) (hs : rc j = true → tm j ≠ -1 ∨ (L j ≠ 0 ∧ (tm (L j) = -1 ∨ tm (R j) = -1))) : tmC L R rc tm (j + 1) := fun k hk => by
  by_cases e : k = j
  · subst e; exact hs
  · exact h k (by omega)
theorem tm_neg {v : Int32} {n : Nat} (h : v = -1 ∨ v = nI n) (hn : n < 2 ^ 31) : (v < 0 → v = -1) ∧ (¬ v < 0 → v = nI n ∧ v ≠ -1) := by
  rcases h with h | h
  · exact ⟨fun _ => h, fun q => absurd (by rw [h]; decide) q⟩
  · refine ⟨fun q => absurd q (by rw [h]; exact nI_pos hn), fun q => ⟨h, fun e => q (by rw [e]; decide)⟩⟩
theorem tm_set (hR : RuleOK S L R rc top) (hC : tmC L R rc tm 25) : ∀ (n k : Nat), rnk S rc k < n → rc k = true → tm k ≠ -1 := by
  intro n
  induction n with
  | zero => intro k h; omega
  | succ n ih =>
    intro k h hk
    have hb := hR.2.1 k hk
    rcases hC k (by omega) hk with c | ⟨c1, c2⟩
    · exact c
    · rcases hb.2.2.2.2 with d | d
      · exact absurd d.1 c1
      · have b1 := rnk_lt hR d.1 d.2.2.1
        have b2 := rnk_lt hR d.2.1 d.2.2.2.1
        rcases c2 with c2 | c2
        · exact absurd c2 (ih _ (by omega) d.1)
        · exact absurd c2 (ih _ (by omega) d.2.1)
theorem tm_end (hR : RuleOK S L R rc top) (hI : tmI rc tvv tm) (hC : tmC L R rc tm 25) {k : Nat} (hk : rc k = true) : tm k = nI (tvv k) := by
  have hb := hR.2.1 k hk
  rcases hI k hb.1 hb.2.1 with e | e
  · exact absurd e (tm_set hR hC _ k (Nat.lt_succ_self _) hk)
  · exact e.2
theorem tmS_up {v : Int32} (h1 : 1 ≤ j ∧ j ≤ 24) (h : tm j = -1) (hv : v ≠ -1) : cnt (tmS tm) 25 < cnt (tmS (upd tm j v)) 25 := by
  refine cnt_lu (fun k hk => ?_) (j := j) ?_ ?_ 25 (by omega)
  · unfold tmS at hk ⊢
    rw [Bool.and_eq_true] at hk ⊢
    refine ⟨hk.1, ?_⟩
    by_cases e : k = j
    · subst e; simp [upd, hv]
    · simp only [upd, if_neg e]; exact hk.2
  · unfold tmS; rw [h]; simp
  · unfold tmS; simp [upd, hv, h1.1, h1.2]
theorem tmS_mono {v : Int32} (hv : v ≠ -1) : cnt (tmS tm) 25 ≤ cnt (tmS (upd tm j v)) 25 := by
  refine cnt_mono (fun k hk => ?_) 25
  unfold tmS at hk ⊢
  rw [Bool.and_eq_true] at hk ⊢
  refine ⟨hk.1, ?_⟩
  by_cases e : k = j
  · subst e; simp [upd, hv]
  · simp only [upd, if_neg e]; exact hk.2
theorem tmI_up (h : tmI rc tvv tm) (hj : rc j = true) : tmI rc tvv (upd tm j (nI (tvv j))) := fun k h1 h2 => by
  by_cases e : k = j
  · subst e; exact Or.inr ⟨hj, by simp [upd]⟩
  · simp only [upd, if_neg e]; exact h k h1 h2
end PureH
