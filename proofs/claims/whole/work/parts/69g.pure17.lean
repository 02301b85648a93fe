/-! What a node of each number yields; what the whole memory yields. -/
def yvF (S L R : Nat → Nat) (w : Nat) : Nat → Nat → Nat
  | 0, _ => 0
  | n + 1, k => if S k < w then 0 else max 1 (yvF S L R w n (L k) + yvF S L R w n (R k))
def yv (S L R : Nat → Nat) (w k : Nat) : Nat := yvF S L R w 25 k
def rT (S L R cl : Nat → Nat) (sp : Nat → Bool) (rq : Nat → Nat) (w p : Nat) : Nat :=
  if 0 < p ∧ p < 16777216 ∧ sp p = true ∧ (w ≤ S (L (cl p)) ∨ w ≤ S (R (cl p))) then rT S L R cl sp rq w (2 * p) + rT S L R cl sp rq w (2 * p + 1) else if lvb sp rq p = true then 0 else yv S L R w (cl p)
termination_by 33554432 - p
decreasing_by all_goals omega
def aftT (S L R cl : Nat → Nat) (sp : Nat → Bool) (rq : Nat → Nat) (w p : Nat) : Nat := if p ≤ 1 then 0 else if p % 2 = 0 then rT S L R cl sp rq w (p + 1) + aftT S L R cl sp rq w (p / 2) else aftT S L R cl sp rq w (p / 2)
termination_by p
decreasing_by all_goals omega
theorem n_max {a b : Nat} (ha : a < 2 ^ 31) (hb : b < 2 ^ 31) : (if nI a < nI b then nI b else nI a) = nI (max a b) := by
  by_cases h : a < b
  · rw [if_pos (nI_lt h hb), Nat.max_eq_right (by omega)]
  · rw [if_neg (nI_nlt (by omega) ha), Nat.max_eq_left (by omega)]
section PureR
variable {top : Nat} {S L R : Nat → Nat} {rc : Nat → Bool} {sp : Nat → Bool} {rq nu : Nat → Nat} {mk n spare : Nat} {pa ch kd ad ra su un fo kp bs gs : Nat → Nat} {bad : List Nat} {bl rd hd : Nat} {w ncl i : Nat}
theorem yvF_0 (hR : RuleOK S L R rc top) (hw : 1 ≤ w) : ∀ n, yvF S L R w n 0 = 0 := by
  intro n
  cases n with
  | zero => rfl
  | succ n => rw [yvF, if_pos (by rw [hR.2.2.1]; omega)]
theorem yvF_stable (hR : RuleOK S L R rc top) (hw : 1 ≤ w) : ∀ (n k : Nat), rc k = true → rnk S rc k < n → yvF S L R w n k = yvF S L R w (n + 1) k := by
  intro n
  induction n with
  | zero => intro k _ h; omega
  | succ n ih =>
    intro k hk h
    show (if S k < w then 0 else max 1 (yvF S L R w n (L k) + yvF S L R w n (R k))) = (if S k < w then 0 else max 1 (yvF S L R w (n + 1) (L k) + yvF S L R w (n + 1) (R k)))
    rcases (hR.2.1 k hk).2.2.2.2 with e | e
    · rw [e.1, e.2, yvF_0 hR hw, yvF_0 hR hw]
    · have b1 := rnk_lt hR e.1 e.2.2.1
      have b2 := rnk_lt hR e.2.1 e.2.2.2.1
      rw [ih _ e.1 (by omega), ih _ e.2.1 (by omega)]
theorem yv_0 (hR : RuleOK S L R rc top) (hw : 1 ≤ w) : yv S L R w 0 = 0 := yvF_0 hR hw 25
theorem yv_s (hR : RuleOK S L R rc top) (hw : 1 ≤ w) {k : Nat} (hk : rc k = true) : yv S L R w k = if S k < w then 0 else max 1 (yv S L R w (L k) + yv S L R w (R k)) := by
  unfold yv
  rw [yvF_stable hR hw 25 k hk (by have := rnk_23 hR hk; omega)]
  rfl
theorem yvF_le (hR : RuleOK S L R rc top) (hw : 1 ≤ w) : ∀ (n k : Nat), rc k = true → yvF S L R w n k ≤ S k := by
  intro n
  induction n with
  | zero => intro k _; exact Nat.zero_le _
  | succ n ih =>
    intro k hk
    rw [yvF]
    have h0 := hR.2.1 k hk
    split
    · exact Nat.zero_le _
    · rcases h0.2.2.2.2 with e | e
      · rw [e.1, e.2, yvF_0 hR hw]
        exact Nat.max_le.mpr ⟨by omega, by omega⟩
      · have a := ih _ e.1
        have b := ih _ e.2.1
        exact Nat.max_le.mpr ⟨by omega, by omega⟩
theorem yv_le (hR : RuleOK S L R rc top) (hw : 1 ≤ w) {k : Nat} (hk : rc k = true) : yv S L R w k ≤ S k := yvF_le hR hw 25 k hk
/-- a child's number stands before its parent's in the row of the sizes -/
theorem bs_before (hb : bOK S rc ncl bs) (hi : i < ncl) {k : Nat} (hk : rc k = true) (h : S k < S (bs i)) : ∃ j, j < i ∧ bs j = k := by
  obtain ⟨j, hj, e⟩ := hb.2.2.1 k hk
  refine ⟨j, ?_, e⟩
  apply Classical.byContradiction
  intro c
  have := hb.2.2.2 i j (by omega) hj
  rw [e] at this
  omega
/-- the shares of the first i are right -/
def shI (S L R : Nat → Nat) (w : Nat) (bs : Nat → Nat) (i : Nat) (gs : Nat → Nat) : Prop := gs 0 = 0 ∧ ∀ j, j < i → gs (bs j) = yv S L R w (bs j)
theorem shI_kid (hR : RuleOK S L R rc top) (hw : 1 ≤ w) (hb : bOK S rc ncl bs) (hi : i < ncl) (h : shI S L R w bs i gs) : gs (L (bs i)) = yv S L R w (L (bs i)) ∧ gs (R (bs i)) = yv S L R w (R (bs i)) ∧ yv S L R w (L (bs i)) + yv S L R w (R (bs i)) < 2 ^ 31 := by
  have h0 := hR.2.1 _ (hb.2.1 i hi)
  rcases h0.2.2.2.2 with e | e
  · rw [e.1, e.2, yv_0 hR hw, h.1]
    exact ⟨rfl, rfl, by decide⟩
  · obtain ⟨j1, a1, a2⟩ := bs_before hb hi e.1 e.2.2.1
    obtain ⟨j2, b1, b2⟩ := bs_before hb hi e.2.1 e.2.2.2.1
    have c1 := yv_le (w := w) hR hw e.1
    have c2 := yv_le (w := w) hR hw e.2.1
    have d1 := h.2 j1 a1
    have d2 := h.2 j2 b1
    rw [a2] at d1
    rw [b2] at d2
    exact ⟨d1, d2, by omega⟩
theorem shI_step (hR : RuleOK S L R rc top) (hb : bOK S rc ncl bs) (hi : i < ncl) (h : shI S L R w bs i gs) : shI S L R w bs (i + 1) (upN gs (bs i) (yv S L R w (bs i))) := by
  have h0 := hR.2.1 _ (hb.2.1 i hi)
  refine ⟨by rw [upN_n _ _ (by omega)]; exact h.1, fun j hj => ?_⟩
  by_cases e : bs j = bs i
  · rw [e, upN_s]
  · rw [upN_n _ _ e]
    exact h.2 j (by rcases (show j < i ∨ j = i by omega) with q | q; exact q; rw [q] at e; exact absurd rfl e)
theorem shI_end (hb : bOK S rc ncl bs) (h : shI S L R w bs ncl gs) {k : Nat} (hk : rc k = true) : gs k = yv S L R w k := by
  obtain ⟨i, hi, e⟩ := hb.2.2.1 k hk
  rw [← e]
  exact h.2 i hi
theorem rT_unf (cl : Nat → Nat) (p : Nat) : rT S L R cl sp rq w p = if 0 < p ∧ p < 16777216 ∧ sp p = true ∧ (w ≤ S (L (cl p)) ∨ w ≤ S (R (cl p))) then rT S L R cl sp rq w (2 * p) + rT S L R cl sp rq w (2 * p + 1) else if lvb sp rq p = true then 0 else yv S L R w (cl p) := by rw [rT]
theorem rT_s (hR : RuleOK S L R rc top) (hT : TOK top S L R sp rq) {p : Nat} (hs : sp p = true) (h : w ≤ S (L (cls top L R p)) ∨ w ≤ S (R (cls top L R p))) : rT S L R (cls top L R) sp rq w p = rT S L R (cls top L R) sp rq w (2 * p) + rT S L R (cls top L R) sp rq w (2 * p + 1) := by
  have h1 := hT.1 p hs
  rw [rT_unf, if_pos ⟨h1.1, ex_lt hR hT h1.2.1, hs, h⟩]
theorem rT_n {cl : Nat → Nat} {p : Nat} (h : sp p = false ∨ ¬ (w ≤ S (L (cl p)) ∨ w ≤ S (R (cl p)))) : rT S L R cl sp rq w p = if lvb sp rq p = true then 0 else yv S L R w (cl p) := by
  rw [rT_unf, if_neg (fun q => by
    rcases h with h | h
    · rw [h] at q; exact absurd q.2.2.1 (by decide)
    · exact h q.2.2.2)]
theorem aftT_1 {cl : Nat → Nat} : aftT S L R cl sp rq w 1 = 0 := by rw [aftT]; rfl
theorem aftT_e {cl : Nat → Nat} {p : Nat} (h : 1 ≤ p) : aftT S L R cl sp rq w (2 * p) = rT S L R cl sp rq w (2 * p + 1) + aftT S L R cl sp rq w p := by rw [aftT, if_neg (by omega), if_pos (by omega), show 2 * p / 2 = p by omega]
theorem aftT_o {cl : Nat → Nat} {p : Nat} (h : 1 ≤ p) : aftT S L R cl sp rq w (2 * p + 1) = aftT S L R cl sp rq w p := by rw [aftT, if_neg (by omega), if_neg (by omega), show (2 * p + 1) / 2 = p by omega]
theorem aftT_bh (hT : TOK top S L R sp rq) {cl : Nat → Nat} : ∀ p, ex sp p → (bh p = 0 → aftT S L R cl sp rq w p = 0) ∧ (bh p ≠ 0 → aftT S L R cl sp rq w p = rT S L R cl sp rq w (bh p) + aftT S L R cl sp rq w (bh p)) := by
  refine ex_ind hT ?_ (fun p h1 hx hs hp => ⟨?_, ?_⟩)
  · rw [bh_1, aftT_1]
    exact ⟨fun _ => rfl, fun h => absurd rfl h⟩
  · rw [bh_e h1, aftT_e h1, aftT_o h1]
    exact ⟨fun h => by omega, fun _ => rfl⟩
  · rw [bh_o h1, aftT_o h1]
    exact hp
/-- a walk that stands at q, with g told: what comes in all, and how many steps there may be -/
def wrm (S L R cl : Nat → Nat) (sp : Nat → Bool) (rq : Nat → Nat) (w q g k t : Nat) : Prop := (q = 0 ∧ g = t) ∨ (ex sp q ∧ rmn sp q ≤ k ∧ g + (rT S L R cl sp rq w q + aftT S L R cl sp rq w q) = t)
theorem wrm_1 (hR : RuleOK S L R rc top) (h : wI top S L R sp rq nu bad n mk spare pa ch kd ad ra su un fo bl rd hd) {cl : Nat → Nat} : wrm S L R cl sp rq w 1 0 mk (rT S L R cl sp rq w 1) := by
  have h1 := rmn_le hR h.1.1 1 ex_1
  have hm := mk_len h
  exact Or.inr ⟨ex_1, by omega, by rw [aftT_1]; omega⟩
theorem wrm_k (hR : RuleOK S L R rc top) (hT : TOK top S L R sp rq) {cl : Nat → Nat} {q g k t : Nat} (h : wrm S L R cl sp rq w q g k t) (hq : q ≠ 0) : 0 < k ∧ ex sp q := by
  rcases h with h | h
  · exact absurd h.1 hq
  · have := (nl_le hR hT q h.1).1
    have h2 := h.2.1
    unfold rmn at h2
    exact ⟨by omega, h.1⟩
theorem wrm_dn (hR : RuleOK S L R rc top) (hT : TOK top S L R sp rq) {q g k t : Nat} (h : wrm S L R (cls top L R) sp rq w q g k t) (hq : q ≠ 0) (hs : sp q = true) (hh : w ≤ S (L (cls top L R q)) ∨ w ≤ S (R (cls top L R q))) : wrm S L R (cls top L R) sp rq w (2 * q) g (k - 1) t := by
  rcases h with h | ⟨h1, h2, h3⟩
  · exact absurd h.1 hq
  · have p1 := ex_pos h1
    refine Or.inr ⟨ex_l p1 hs, ?_, ?_⟩
    · unfold rmn at h2 ⊢
      rw [lvs_s hR hT hs, List.length_append] at h2
      rw [afn_e p1]
      have := (nl_le hR hT _ (ex_l p1 hs)).1
      have := (nl_le hR hT _ (ex_r p1 hs)).1
      omega
    · rw [rT_s hR hT hs hh] at h3
      rw [aftT_e p1]
      omega
theorem wrm_bh (hR : RuleOK S L R rc top) (hT : TOK top S L R sp rq) {cl : Nat → Nat} {q g k t v : Nat} (h : wrm S L R cl sp rq w q g k t) (hq : q ≠ 0) (hv : rT S L R cl sp rq w q = v) : wrm S L R cl sp rq w (bh q) (g + v) (k - 1) t := by
  rcases h with h | ⟨h1, h2, h3⟩
  · exact absurd h.1 hq
  · have a := aftT_bh (S := S) (L := L) (R := R) (w := w) (rq := rq) hT (cl := cl) q h1
    have b := aft_bh (rq := rq) hT q h1
    have nl := (nl_le hR hT q h1).1
    rw [hv] at h3
    by_cases e : bh q = 0
    · rw [a.1 e] at h3
      exact Or.inl ⟨e, by omega⟩
    · rw [a.2 e] at h3
      have b2 := b.2 e
      refine Or.inr ⟨b2.1, ?_, by omega⟩
      unfold rmn at h2 ⊢
      rw [b2.2.2] at h2
      omega
end PureR
