/-! The memory's rows and books together; its changes, as the class makes them. -/
def wI (top : Nat) (S L R : Nat → Nat) (sp : Nat → Bool) (rq nu : Nat → Nat) (bad : List Nat) (n mk spare : Nat) (pa ch kd ad ra su un fo : Nat → Nat) (bl rd hd : Nat) : Prop :=
  tI top S L R sp rq nu bad n mk spare pa ch kd ad ra su un ∧ mI top S L R sp rq fo bl rd hd
/-- the rule's rows, as the class holds them -/
def rOK (S L R : Nat → Nat) (rc : Nat → Bool) (sz lf rt : Nat → Int32) : Prop := ∀ k, (rc k = true ∨ k = 0) → sz k = nI (S k) ∧ lf k = nI (L k) ∧ rt k = nI (R k)
def bud (x : Nat) : Nat := if x % 2 = 0 then x + 1 else x - 1
def upG (cl kp rq : Nat → Nat) (z : (Nat → Bool) × Nat × Nat) : Bool := decide (kp (cl z.2.1) < cF cl z.1 rq (cl z.2.1)) && (decide (2 ≤ z.2.1) && (!z.1 (bud z.2.1) && decide (rq (bud z.2.1) = 0)))
/-- joining upward: what is split, the node, how many joins -/
def aUp (cl kp rq : Nat → Nat) : Nat → (Nat → Bool) × Nat × Nat → (Nat → Bool) × Nat × Nat := mDes (fun z => !upG cl kp rq z) (fun z => (upB z.1 (z.2.1 / 2) false, z.2.1 / 2, z.2.2 + 1))
def cvL (S L R : Nat → Nat) (w k : Nat) : Bool := decide (w ≤ S (L k) ∧ (S (R k) < w ∨ S (L k) ≤ S (R k)))
/-- splitting downward -/
def aCv (S L R cl : Nat → Nat) (w : Nat) : Nat → (Nat → Bool) × Nat × Nat → (Nat → Bool) × Nat × Nat := mDes (fun z => decide (¬ (w ≤ S (L (cl z.2.1)) ∨ w ≤ S (R (cl z.2.1))))) (fun z => (upB z.1 z.2.1 true, if cvL S L R w (cl z.2.1) then 2 * z.2.1 else 2 * z.2.1 + 1, z.2.2 + 1))
section PureJ
variable {top : Nat} {S L R : Nat → Nat} {rc : Nat → Bool} {sp : Nat → Bool} {rq nu : Nat → Nat} {mk n spare : Nat} {pa ch kd ad ra su un fo kp : Nat → Nat} {bad : List Nat} {bl rd hd : Nat}
theorem wI_len (hR : RuleOK S L R rc top) (h : wI top S L R sp rq nu bad n mk spare pa ch kd ad ra su un fo bl rd hd) : (lvs sp 1).length ≤ 1048576 := by
  have h1 := (nl_le hR h.1.1 1 ex_1).2
  have h2 := (S_pos hR h.1.1 (ex_1 (sp := sp))).2.1
  omega
theorem wI_fo (hR : RuleOK S L R rc top) (h : wI top S L R sp rq nu bad n mk spare pa ch kd ad ra su un fo bl rd hd) : ∀ j, fo j ≤ 1048576 := fun j => by
  have h1 := wI_len hR h
  rw [h.2.1]
  exact Nat.le_trans List.countP_le_length h1
theorem wI_kid (hR : RuleOK S L R rc top) (h : wI top S L R sp rq nu bad n mk spare pa ch kd ad ra su un fo bl rd hd) {x : Nat} (hs : sp x = true) : kd (ch (nu x)) = L (cls top L R x) ∧ kd (ch (nu x) + 1) = R (cls top L R x) ∧ kd (nu x) = cls top L R x := by
  have hT := h.1.1
  have hS := h.1.2.1
  have h0 := hT.1 x hs
  have hk := kS_kid hR hT hS hs
  rw [hk.1, ← hk.2.2.2, (hS.2.1 _ (ex_l h0.1 hs)).2.2.1, (hS.2.1 _ (ex_r h0.1 hs)).2.2.1, (hS.2.1 x h0.2.1).2.2.1, cls_e h0.1, cls_o h0.1]
  exact ⟨rfl, rfl, rfl⟩
theorem wI_unite (hR : RuleOK S L R rc top) (h : wI top S L R sp rq nu bad n mk spare pa ch kd ad ra su un fo bl rd hd) {x : Nat} (hj : joi sp rq x) (hb : ∀ p ∈ bad, p ∈ x :: ancs x) :
    1 ≤ fo (kd (ch (nu x))) ∧ 1 ≤ upN fo (kd (ch (nu x))) (fo (kd (ch (nu x))) - 1) (kd (ch (nu x) + 1)) ∧
    wI top S L R (upB sp x false) rq nu (ancs x) n mk (ch (nu x)) (upN pa (ch (nu x)) spare) (upN ch (nu x) 0) kd ad (upN ra (nu x) 0) (upN su (nu x) (1 * 2 ^ kd (nu x))) (upN un (nu x) 1)
      (upN (upN (upN fo (kd (ch (nu x))) (fo (kd (ch (nu x))) - 1)) (kd (ch (nu x) + 1)) (upN fo (kd (ch (nu x))) (fo (kd (ch (nu x))) - 1) (kd (ch (nu x) + 1)) - 1)) (kd (nu x)) (upN (upN fo (kd (ch (nu x))) (fo (kd (ch (nu x))) - 1)) (kd (ch (nu x) + 1)) (upN fo (kd (ch (nu x))) (fo (kd (ch (nu x))) - 1) (kd (ch (nu x) + 1)) - 1) (kd (nu x)) + 1)) bl rd hd := by
  have a := tI_unite hR h.1 hj hb
  have b := mI_unite hR h.1.1 h.2 hj
  obtain ⟨e1, e2, e3⟩ := wI_kid hR h hj.1
  rw [← e1, ← e2, ← e3] at b
  exact ⟨b.1, b.2.1, a, b.2.2⟩
theorem bud_half {x : Nat} (h : 2 ≤ x) : bud x / 2 = x / 2 ∧ 2 ≤ bud x ∧ bud x ≠ x := by
  unfold bud
  split <;> omega
theorem nu_bud (hR : RuleOK S L R rc top) (h : wI top S L R sp rq nu bad n mk spare pa ch kd ad ra su un fo bl rd hd) {x : Nat} (hx : ex sp x) (h2 : 2 ≤ x) : nu x ^^^ 1 = nu (bud x) ∧ ex sp (bud x) := by
  obtain ⟨u1, u2⟩ := ex_up h.1.1 hx h2
  have hk := h.1.2.1.2.2.1 _ u2
  have h1 : 1 ≤ x / 2 := by omega
  unfold bud
  rcases (show x = 2 * (x / 2) ∨ x = 2 * (x / 2) + 1 by omega) with e | e
  · rw [if_pos (by omega)]
    have e2 : x + 1 = 2 * (x / 2) + 1 := by omega
    rw [e2]
    refine ⟨?_, ex_r h1 u2⟩
    rw [hk.1, show nu x = nu (2 * (x / 2)) by rw [← e]]
    exact xor1_e hk.2.1
  · rw [if_neg (by omega)]
    have e2 : x - 1 = 2 * (x / 2) := by omega
    rw [e2]
    refine ⟨?_, ex_l h1 u2⟩
    rw [show nu x = nu (2 * (x / 2) + 1) by rw [← e], hk.1]
    exact xor1_o (by omega)
theorem bud_lt (hR : RuleOK S L R rc top) (h : wI top S L R sp rq nu bad n mk spare pa ch kd ad ra su un fo bl rd hd) {x : Nat} (hx : ex sp x) : nu x ^^^ 1 < n := by
  have h64 := h.1.2.2.2.2.2.2.2.2.2
  by_cases h2 : 2 ≤ x
  · have := nu_bud hR h hx h2
    rw [this.1]
    exact (tI_lt h.1 this.2).2
  · have : x = 1 := by have := ex_pos hx; omega
    rw [this, h.1.2.1.1]
    show 0 < n
    omega
theorem bud_free (hR : RuleOK S L R rc top) (h : wI top S L R sp rq nu bad n mk spare pa ch kd ad ra su un fo bl rd hd) {x : Nat} (hx : ex sp x) : (¬ nu x ^^^ 1 = 0 ∧ ch (nu x ^^^ 1) = 0 ∧ ra (nu x ^^^ 1) = 0) ↔ (2 ≤ x ∧ sp (bud x) = false ∧ rq (bud x) = 0) := by
  by_cases h2 : 2 ≤ x
  · have hb := nu_bud hR h hx h2
    have := isFr_iff hR h.1.1 h.1.2.1 hb.2
    unfold isFr at this
    rw [decide_eq_true_eq] at this
    rw [hb.1, this]
    exact ⟨fun q => ⟨h2, q⟩, fun q => q.2⟩
  · have e : x = 1 := by have := ex_pos hx; omega
    constructor
    · intro q
      rw [e, h.1.2.1.1] at q
      exact absurd rfl q.1
    · intro q; exact absurd q.1 h2
theorem up_joi (hT : TOK top S L R sp rq) {x : Nat} (hx : ex sp x) (hs : sp x = false) (hr : rq x = 0) (hq : 2 ≤ x ∧ sp (bud x) = false ∧ rq (bud x) = 0) : joi sp rq (x / 2) := by
  obtain ⟨h2, hb, hc⟩ := hq
  obtain ⟨u1, u2⟩ := ex_up hT hx h2
  unfold bud at hb hc
  rcases (show x = 2 * (x / 2) ∨ x = 2 * (x / 2) + 1 by omega) with e | e
  · rw [if_pos (by omega), show x + 1 = 2 * (x / 2) + 1 by omega] at hb hc
    exact ⟨u2, by rw [← e]; exact hs, hb, by rw [← e]; exact hr, hc⟩
  · rw [if_neg (by omega), show x - 1 = 2 * (x / 2) by omega] at hb hc
    exact ⟨u2, hb, by rw [← e]; exact hs, hc, by rw [← e]; exact hr⟩
/-- behind a join the node is a free leaf -/
theorem joi_leaf (hT : TOK top S L R sp rq) {x : Nat} (hj : joi sp rq x) : ex (upB sp x false) x ∧ upB sp x false x = false ∧ rq x = 0 :=
  ⟨(ex_join hT hj).mpr ⟨(hT.1 x hj.1).2.1, by have := (hT.1 x hj.1).1; omega, by omega⟩, upB_s _ _ _, rq_sp hT hj.1⟩
theorem pa_up (h : wI top S L R sp rq nu bad n mk spare pa ch kd ad ra su un fo bl rd hd) {x : Nat} (hx : ex sp x) (h2 : 2 ≤ x) : pa (nu x) = nu (x / 2) := by
  have := (h.1.2.1.2.1 x hx).2.2.2.2.1
  rw [if_neg (by omega)] at this
  exact this
theorem wI_split (hR : RuleOK S L R rc top) (h : wI top S L R sp rq nu bad n mk spare pa ch kd ad ra su un fo bl rd hd) {x : Nat} (hx : ex sp x) (hs : sp x = false) (hr : rq x = 0) (hL : ¬ L (cls top L R x) = 0) (hb : ∀ p ∈ bad, p ∈ x :: ancs x) :
    1 ≤ fo (cls top L R x) ∧
    wI top S L R (upB sp x true) rq (nuS nu x (tpP mk spare)) (x :: ancs x) (tpN n mk spare) (tpM mk spare) (tpS pa spare)
      (upN (upN pa (tpP mk spare) (nu x)) (tpP mk spare + 1) (nu x)) (upN (upN (upN ch (tpP mk spare) 0) (tpP mk spare + 1) 0) (nu x) (tpP mk spare)) (upN (upN kd (tpP mk spare) (L (cls top L R x))) (tpP mk spare + 1) (R (cls top L R x)))
      (upN (upN ad (tpP mk spare) (ad (nu x))) (tpP mk spare + 1) (upN ad (tpP mk spare) (ad (nu x)) (nu x) + S (L (cls top L R x)))) (upN (upN ra (tpP mk spare) 0) (tpP mk spare + 1) 0) (upN (upN su (tpP mk spare) (1 * 2 ^ L (cls top L R x))) (tpP mk spare + 1) (1 * 2 ^ R (cls top L R x))) (upN (upN un (tpP mk spare) 1) (tpP mk spare + 1) 1)
      (upN (upN (upN fo (cls top L R x) (fo (cls top L R x) - 1)) (L (cls top L R x)) (upN fo (cls top L R x) (fo (cls top L R x) - 1) (L (cls top L R x)) + 1)) (R (cls top L R x)) (upN (upN fo (cls top L R x) (fo (cls top L R x) - 1)) (L (cls top L R x)) (upN fo (cls top L R x) (fo (cls top L R x) - 1) (L (cls top L R x)) + 1) (R (cls top L R x)) + 1)) bl rd hd := by
  have a := tI_split hR h.1 hx hs hr hL hb
  have b := mI_split hR h.1.1 h.2 hx hs hr hL
  exact ⟨b.1, a, b.2⟩
/-- what holds of the node that is split on: its map -/
theorem nuS_old {x P p : Nat} (h1 : 1 ≤ x) (hs : sp x = false) (hp : ex sp p) : nuS nu x P p = nu p := by
  have hn := not_ex_kids h1 hs
  exact nuS_o _ (fun e => hn.1 (by rw [← e]; exact hp)) (fun e => hn.2 (by rw [← e]; exact hp))
theorem ancs_kid {x : Nat} (h1 : 1 ≤ x) : ancs (2 * x) = x :: ancs x ∧ ancs (2 * x + 1) = x :: ancs x := by
  rw [ancs_s (x := 2 * x) (by omega), ancs_s (x := 2 * x + 1) (by omega), show 2 * x / 2 = x by omega, show (2 * x + 1) / 2 = x by omega]
  exact ⟨rfl, rfl⟩
theorem aUp_ok (hR : RuleOK S L R rc top) : ∀ (k : Nat) (sp : Nat → Bool) (x j : Nat), TOK top S L R sp rq → ex sp x → sp x = false → rq x = 0 →
    TOK top S L R (aUp (cls top L R) kp rq k (sp, x, j)).1 rq ∧ ex (aUp (cls top L R) kp rq k (sp, x, j)).1 (aUp (cls top L R) kp rq k (sp, x, j)).2.1 ∧ (aUp (cls top L R) kp rq k (sp, x, j)).1 (aUp (cls top L R) kp rq k (sp, x, j)).2.1 = false ∧ rq (aUp (cls top L R) kp rq k (sp, x, j)).2.1 = 0 ∧ (∀ p, ex (aUp (cls top L R) kp rq k (sp, x, j)).1 p → ex sp p) ∧ (∀ p, 0 < rq p → ex sp p → ex (aUp (cls top L R) kp rq k (sp, x, j)).1 p) := by
  intro k
  induction k with
  | zero => intro sp x j hT hx hs hr; exact ⟨hT, hx, hs, hr, fun _ h => h, fun _ _ h => h⟩
  | succ k ih =>
    intro sp x j hT hx hs hr
    cases hg : upG (cls top L R) kp rq (sp, x, j)
    · have : aUp (cls top L R) kp rq (k + 1) (sp, x, j) = (sp, x, j) := mDes_e (Or.inl (by rw [hg]; rfl))
      rw [this]
      exact ⟨hT, hx, hs, hr, fun _ h => h, fun _ _ h => h⟩
    · have hs2 : aUp (cls top L R) kp rq (k + 1) (sp, x, j) = aUp (cls top L R) kp rq k (upB sp (x / 2) false, x / 2, j + 1) := mDes_s (k := k + 1) (by rw [hg]; rfl) (by omega) rfl
      have hq : 2 ≤ x ∧ sp (bud x) = false ∧ rq (bud x) = 0 := by
        unfold upG at hg
        simp only [Bool.and_eq_true, decide_eq_true_eq, Bool.not_eq_true'] at hg
        exact hg.2
      have hj := up_joi hT hx hs hr hq
      have hl := joi_leaf hT hj
      obtain ⟨c1, c2, c3, c4, c5, c6⟩ := ih (upB sp (x / 2) false) (x / 2) (j + 1) (TOK_join hT hj) hl.1 hl.2.1 hl.2.2
      rw [hs2]
      refine ⟨c1, c2, c3, c4, fun p hp => ((ex_join hT hj).mp (c5 p hp)).1, fun p h0 hp => c6 p h0 ((ex_join hT hj).mpr ⟨hp, fun e => ?_, fun e => ?_⟩)⟩
      · rw [e, hj.2.2.2.1] at h0; omega
      · rw [e, hj.2.2.2.2] at h0; omega
/-- a row of different numbers below m -/
theorem nd_len : ∀ (m : Nat) (l : List Nat), l.Nodup → (∀ x ∈ l, x < m) → l.length ≤ m := by
  intro m
  induction m with
  | zero =>
    intro l _ h
    cases l with
    | nil => exact Nat.le_refl _
    | cons a l => exact absurd (h a List.mem_cons_self) (Nat.not_lt_zero _)
  | succ m ih =>
    intro l hn h
    have h1 := ih (l.erase m) (hn.erase m) (fun x hx => by
      have h2 := h x (List.mem_of_mem_erase hx)
      have h3 : x ≠ m := fun e => by rw [e] at hx; exact (List.Nodup.not_mem_erase hn) hx
      omega)
    have h4 := List.length_erase (a := m) (l := l)
    split at h4 <;> omega
theorem wI_mk (hR : RuleOK S L R rc top) (h : wI top S L R sp rq nu bad n mk spare pa ch kd ad ra su un fo bl rd hd) : (lvs sp 1).length ≤ mk := by
  have hT := h.1.1
  have hm := lvs_mem hR hT 1 ex_1
  have h1 : ((lvs sp 1).map nu).Nodup := by
    rw [List.Nodup, List.pairwise_map]
    exact List.Pairwise.imp_of_mem (fun {a b} ha hb hab e => hab (h.1.2.1.2.2.2 a b (hm a ha).1 (hm b hb).1 e)) (lvs_nodup hR hT (ex_1 (sp := sp)))
  have h2 := nd_len mk _ h1 (fun x hx => by
    obtain ⟨q, hq, e⟩ := List.mem_map.mp hx
    rw [← e]
    exact (h.1.2.1.2.1 q (hm q hq).1).2.1)
  rw [List.length_map] at h2
  exact h2
end PureJ
