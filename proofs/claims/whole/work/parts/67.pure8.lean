/-! What the tree's reads answer of the abstract memory. -/
theorem mDes_sim {α β : Type} (rel : α → β → Prop) {s1 : α → Bool} {n1 : α → α} {s2 : β → Bool} {n2 : β → β} (hs : ∀ x y, rel x y → s1 x = s2 y) (hn : ∀ x y, rel x y → s2 y = false → rel (n1 x) (n2 y)) : ∀ (k : Nat) (x : α) (y : β), rel x y → rel (mDes s1 n1 k x) (mDes s2 n2 k y) := by
  intro k
  induction k with
  | zero => intro x y h; exact h
  | succ k ih =>
    intro x y h
    cases hq : s2 y
    · rw [mDes_s (k := k + 1) (show s1 x = false by rw [hs x y h]; exact hq) (by omega) rfl, mDes_s (k := k + 1) hq (by omega) rfl]
      exact ih _ _ (hn x y h hq)
    · rw [mDes_e (Or.inl (by rw [hs x y h]; exact hq)), mDes_e (Or.inl hq)]
      exact h
theorem mDes_end {α : Type} {st : α → Bool} {nx : α → α} (I : α → Prop) (mu : α → Nat) (h : ∀ x, I x → st x = false → I (nx x) ∧ mu (nx x) < mu x) : ∀ (k : Nat) (x : α), I x → mu x ≤ k → I (mDes st nx k x) ∧ st (mDes st nx k x) = true := by
  intro k
  induction k with
  | zero =>
    intro x hx hm
    refine ⟨hx, ?_⟩
    show st x = true
    cases hq : st x
    · have := (h x hx hq).2
      omega
    · rfl
  | succ k ih =>
    intro x hx hm
    cases hq : st x
    · rw [mDes_s (k := k + 1) hq (by omega) rfl]
      have := h x hx hq
      exact ih _ this.1 (by omega)
    · rw [mDes_e (Or.inl hq)]
      exact ⟨hx, hq⟩
section PureH
variable {top : Nat} {S L R : Nat → Nat} {rc : Nat → Bool} {sp : Nat → Bool} {rq nu : Nat → Nat} {mk n spare : Nat} {pa ch kd ad ra su un : Nat → Nat} {bad : List Nat}
/-- a child is of a lower rank -/
theorem rnk_kid (hR : RuleOK S L R rc top) (hT : TOK top S L R sp rq) {p : Nat} (hs : sp p = true) : rnk S rc (cls top L R (2 * p)) < rnk S rc (cls top L R p) ∧ rnk S rc (cls top L R (2 * p + 1)) < rnk S rc (cls top L R p) := by
  have h1 := (hT.1 p hs).1
  have hk := sp_sides hR hT hs
  rw [cls_e h1, cls_o h1]
  exact ⟨rnk_lt hR hk.1 hk.2.2.1, rnk_lt hR hk.2.1 hk.2.2.2.1⟩
theorem ch_sp (hR : RuleOK S L R rc top) (hT : TOK top S L R sp rq) (h : kS top S L R sp rq nu mk pa ch kd ad ra) {p : Nat} (hx : ex sp p) : decide (ch (nu p) = 0) = !sp p := by
  cases hs : sp p
  · rw [kS_leaf h hx hs]; rfl
  · have := kS_kid hR hT h hs
    rw [decide_eq_false (by omega)]; rfl
/-- going down to a leaf: by the rows as by the nodes -/
theorem desc (hR : RuleOK S L R rc top) (hT : TOK top S L R sp rq) (h : kS top S L R sp rq nu mk pa ch kd ad ra) {nx go : Nat → Nat} (hg : ∀ p, ex sp p → sp p = true → nx (nu p) = nu (go p) ∧ (go p = 2 * p ∨ go p = 2 * p + 1)) (I : Nat → Prop) (hI : ∀ p, ex sp p → sp p = true → I p → I (go p)) (h1 : I 1) :
    ∃ q, mDes (fun x => decide (ch x = 0)) nx 24 1 = nu q ∧ ex sp q ∧ sp q = false ∧ I q := by
  have rel := mDes_sim (fun (x y : Nat) => x = nu y ∧ ex sp y) (s1 := fun x => decide (ch x = 0)) (n1 := nx) (s2 := fun p => !sp p) (n2 := go)
    (fun x y hxy => by rw [hxy.1]; exact ch_sp hR hT h hxy.2) (fun x y hxy hs => by
      have hs2 : sp y = true := by simpa using hs
      obtain ⟨e1, e2⟩ := hg y hxy.2 hs2
      refine ⟨by rw [hxy.1]; exact e1, ?_⟩
      rcases e2 with e | e
      · rw [e]; exact ex_l (ex_pos hxy.2) hs2
      · rw [e]; exact ex_r (ex_pos hxy.2) hs2) 24 1 1 ⟨h.1.symm, ex_1⟩
  have en := mDes_end (st := fun p => !sp p) (nx := go) (fun p => ex sp p ∧ I p) (fun p => rnk S rc (cls top L R p)) (fun p hp hs => by
      have hs2 : sp p = true := by simpa using hs
      obtain ⟨e1, e2⟩ := hg p hp.1 hs2
      have hk := rnk_kid hR hT hs2
      have hi := hI p hp.1 hs2 hp.2
      rcases e2 with e | e
      · rw [e] at hi ⊢; exact ⟨⟨ex_l (ex_pos hp.1) hs2, hi⟩, hk.1⟩
      · rw [e] at hi ⊢; exact ⟨⟨ex_r (ex_pos hp.1) hs2, hi⟩, hk.2⟩) 24 1 ⟨ex_1, h1⟩ (by
      have := dep_23 hR hT 1 ex_1
      omega)
  refine ⟨_, rel.1, rel.2, by simpa using en.2, en.1.2⟩
theorem mDepth_dep (hT : TOK top S L R sp rq) (h : kS top S L R sp rq nu mk pa ch kd ad ra) : ∀ (k p d : Nat), ex sp p → dep p ≤ k → mDepth pa k (nu p) d = d + dep p := by
  intro k
  induction k with
  | zero =>
    intro p d hx hd
    have : dep p = 0 := by omega
    rw [this]; rfl
  | succ k ih =>
    intro p d hx hd
    have h1 := ex_pos hx
    by_cases e : p = 1
    · subst e
      rw [mDepth_e pa (Or.inl h.1), dep_1]; rfl
    · have h2 : 2 ≤ p := by omega
      obtain ⟨u1, u2⟩ := ex_up hT hx h2
      have ne : ¬ nu p = 1 := fun q => e (h.2.2.2 p 1 hx ex_1 (by rw [q, h.1]))
      have hp := (h.2.1 p hx).2.2.2.2.1
      rw [if_neg e] at hp
      have hd2 : dep p = dep (p / 2) + 1 := by rw [dep, if_neg (by omega)]
      rw [mDepth_s pa ne (by omega), hp, show k + 1 - 1 = k by omega, ih (p / 2) (d + 1) u1 (by omega), hd2]
      omega
theorem itN_up (hT : TOK top S L R sp rq) (h : kS top S L R sp rq nu mk pa ch kd ad ra) : ∀ (k p : Nat), ex sp p → k ≤ dep p → itN pa k (nu p) = nu (p / 2 ^ k) ∧ ex sp (p / 2 ^ k) := by
  intro k
  induction k with
  | zero => intro p hx _; simp [itN, hx]
  | succ k ih =>
    intro p hx hd
    have h1 := ex_pos hx
    have h2 : 2 ≤ p := by
      rcases (show p = 1 ∨ 2 ≤ p by omega) with e | e
      · rw [e, dep_1] at hd; omega
      · exact e
    obtain ⟨u1, u2⟩ := ex_up hT hx h2
    have hp := (h.2.1 p hx).2.2.2.2.1
    rw [if_neg (by omega)] at hp
    have hd2 : dep p = dep (p / 2) + 1 := by rw [dep, if_neg (by omega)]
    show itN pa k (pa (nu p)) = _ ∧ _
    rw [hp, Nat.pow_succ, Nat.mul_comm, ← Nat.div_div_eq_div_mul]
    exact ih (p / 2) u1 (by omega)
/-- a place tells its side -/
theorem nu_side (hT : TOK top S L R sp rq) (h : kS top S L R sp rq nu mk pa ch kd ad ra) {p : Nat} (hx : ex sp p) (h2 : 2 ≤ p) : nu p &&& 1 = p % 2 := by
  obtain ⟨u1, u2⟩ := ex_up hT hx h2
  have hk := h.2.2.1 _ u2
  rw [Nat.and_one_is_mod]
  rcases (show p = 2 * (p / 2) ∨ p = 2 * (p / 2) + 1 by omega) with e | e
  · rw [e, hk.2.1]; omega
  · rw [e, hk.1]; omega
/-- the live leaf at an address -/
theorem fLive_some (hR : RuleOK S L R rc top) (hT : TOK top S L R sp rq) (h : kS top S L R sp rq nu mk pa ch kd ad ra) {p : Nat} (hx : ex sp p) (hs : sp p = false) : fLive (nI (adr top S L R p)) ch ad = nu p := by
  have hlt : ∀ q, ex sp q → adr top S L R q < 2 ^ 31 := fun q hq => by
    have h1 := adr_le hR hT q hq
    have h2 := (hR.2.1 top hR.1).2.2.2.1
    omega
  obtain ⟨q, e1, e2, e3, e4⟩ := desc hR hT h (nx := fun x => if nI (adr top S L R p) < nI (ad (ch x + 1)) then ch x else ch x + 1) (go := fun y => if adr top S L R p < adr top S L R (2 * y + 1) then 2 * y else 2 * y + 1)
    (fun y hy hsy => by
      have hk := kS_kid hR hT h hsy
      have hr := ex_r (ex_pos hy) hsy
      have ha := (h.2.1 _ hr).2.2.2.1
      rw [hk.1, ← hk.2.2.2, ha]
      by_cases c : adr top S L R p < adr top S L R (2 * y + 1)
      · rw [if_pos c, if_pos (nI_lt c (hlt _ hr))]
        exact ⟨rfl, Or.inl rfl⟩
      · rw [if_neg c, if_neg (nI_nlt (by omega) (hlt _ hx))]
        exact ⟨rfl, Or.inr rfl⟩)
    (fun y => p ∈ lvs sp y) (fun y hy hsy hp => by
      have h1 := ex_pos hy
      rw [lvs_s hR hT hsy] at hp
      rcases List.mem_append.mp hp with hp | hp
      · have a := lvs_in hR hT _ (ex_l h1 hsy) p hp
        have b := (S_pos hR hT hx).1
        rw [adr_e h1, cls_e h1] at a
        rw [if_pos (by rw [adr_o h1]; omega)]
        exact hp
      · have a := lvs_in hR hT _ (ex_r h1 hsy) p hp
        rw [if_neg (by omega)]
        exact hp) (lvs_all hR hT hx hs)
  rw [lvs_n e3, List.mem_singleton] at e4
  subst e4
  exact e1
theorem fLive_any (hR : RuleOK S L R rc top) (hT : TOK top S L R sp rq) (h : kS top S L R sp rq nu mk pa ch kd ad ra) (v : Int32) : ∃ q, fLive v ch ad = nu q ∧ ex sp q ∧ sp q = false := by
  obtain ⟨q, e1, e2, e3, -⟩ := desc hR hT h (nx := fun x => if v < nI (ad (ch x + 1)) then ch x else ch x + 1) (go := fun y => if v < nI (adr top S L R (2 * y + 1)) then 2 * y else 2 * y + 1)
    (fun y hy hsy => by
      have hk := kS_kid hR hT h hsy
      have ha := (h.2.1 _ (ex_r (ex_pos hy) hsy)).2.2.2.1
      rw [hk.1, ← hk.2.2.2, ha]
      by_cases c : v < nI (adr top S L R (2 * y + 1))
      · rw [if_pos c, if_pos c]
        exact ⟨rfl, Or.inl rfl⟩
      · rw [if_neg c, if_neg c]
        exact ⟨rfl, Or.inr rfl⟩) (fun _ => True) (fun _ _ _ _ => trivial) trivial
  exact ⟨q, e1, e2, e3⟩
/-- the i-th leaf -/
theorem fUns_at (hR : RuleOK S L R rc top) (hT : TOK top S L R sp rq) (h : kS top S L R sp rq nu mk pa ch kd ad ra) (hU : kU top L R sp rq nu [] su un) {i : Nat} (hi : i < (lvs sp 1).length) : ∃ q, (fUns ch un i).1 = nu q ∧ ex sp q ∧ sp q = false ∧ (lvs sp 1)[i]? = some q := by
  have rel := mDes_sim (fun (x y : Nat × Nat) => x.1 = nu y.1 ∧ x.2 = y.2 ∧ ex sp y.1) (s1 := fun x => decide (ch x.1 = 0)) (n1 := fun x => if x.2 < un (ch x.1) then (ch x.1, x.2) else (ch x.1 + 1, x.2 - un (ch x.1))) (s2 := fun y => !sp y.1) (n2 := fun y => if y.2 < (lvs sp (2 * y.1)).length then (2 * y.1, y.2) else (2 * y.1 + 1, y.2 - (lvs sp (2 * y.1)).length))
    (fun x y hxy => by rw [hxy.1]; exact ch_sp hR hT h hxy.2.2) (fun x y hxy hs => by
      have hs2 : sp y.1 = true := by simpa using hs
      have hk := kS_kid hR hT h hs2
      have h1 := ex_pos hxy.2.2
      have hu := (hU _ (ex_l h1 hs2) List.not_mem_nil).2
      rw [hxy.1, hxy.2.1, hk.1, hu]
      split
      · exact ⟨rfl, rfl, ex_l h1 hs2⟩
      · exact ⟨hk.2.2.2.symm, rfl, ex_r h1 hs2⟩) 24 (1, i) (1, i) ⟨h.1.symm, rfl, ex_1⟩
  have en := mDes_end (st := fun y : Nat × Nat => !sp y.1) (nx := fun y => if y.2 < (lvs sp (2 * y.1)).length then (2 * y.1, y.2) else (2 * y.1 + 1, y.2 - (lvs sp (2 * y.1)).length)) (fun y => ex sp y.1 ∧ y.2 < (lvs sp y.1).length ∧ (lvs sp y.1)[y.2]? = (lvs sp 1)[i]?) (fun y => rnk S rc (cls top L R y.1)) (fun y hy hs => by
      have hs2 : sp y.1 = true := by simpa using hs
      have hk := rnk_kid hR hT hs2
      have h1 := ex_pos hy.1
      obtain ⟨a1, a2, a3⟩ := hy
      rw [lvs_s hR hT hs2] at a2 a3
      rw [List.length_append] at a2
      split
      · rename_i c
        rw [List.getElem?_append_left c] at a3
        exact ⟨⟨ex_l h1 hs2, c, a3⟩, hk.1⟩
      · rename_i c
        rw [List.getElem?_append_right (by omega)] at a3
        exact ⟨⟨ex_r h1 hs2, by show y.2 - (lvs sp (2 * y.1)).length < (lvs sp (2 * y.1 + 1)).length; omega, a3⟩, hk.2⟩) 24 (1, i) ⟨ex_1, hi, rfl⟩ (by
      have := dep_23 hR hT 1 ex_1
      show rnk S rc (cls top L R 1) ≤ 24
      omega)
  generalize hz : mDes (fun y : Nat × Nat => !sp y.1) (fun y => if y.2 < (lvs sp (2 * y.1)).length then (2 * y.1, y.2) else (2 * y.1 + 1, y.2 - (lvs sp (2 * y.1)).length)) 24 (1, i) = z at rel en
  have hs : sp z.1 = false := by simpa using en.2
  obtain ⟨b1, b2, b3⟩ := en.1
  rw [lvs_n hs] at b2 b3
  have : z.2 = 0 := by simpa using b2
  rw [this] at b3
  exact ⟨z.1, rel.1, rel.2.2, hs, b3.symm⟩
/-- a node whose children can be joined -/
theorem fJoi_joi (hR : RuleOK S L R rc top) (hT : TOK top S L R sp rq) (h : kS top S L R sp rq nu mk pa ch kd ad ra) (hU : kU top L R sp rq nu [] su un) (hb : ¬ su 1 &&& 1 = 0) : ∃ x, fJoi ch ra su = nu x ∧ joi sp rq x := by
  have bit : ∀ p, ex sp p → (su (nu p) &&& 1 = 0 ↔ (smy (cls top L R) sp rq p).testBit 0 = false) := fun p hp => by
    rw [(hU p hp List.not_mem_nil).1, Nat.and_one_is_mod, Nat.testBit_zero, decide_eq_false_iff_not]
    omega
  have b1 : (smy (cls top L R) sp rq 1).testBit 0 = true := by
    cases hq : (smy (cls top L R) sp rq 1).testBit 0
    · exact absurd (by have := (bit 1 ex_1).mpr hq; rwa [h.1] at this) hb
    · rfl
  have rel := mDes_sim (fun (x y : Nat) => x = nu y ∧ ex sp y ∧ (smy (cls top L R) sp rq y).testBit 0 = true) (s1 := isFP ch ra) (n1 := fun x => if su (ch x) &&& 1 = 0 then ch x + 1 else ch x) (s2 := isf sp rq) (n2 := fun y => if (smy (cls top L R) sp rq (2 * y)).testBit 0 = true then 2 * y else 2 * y + 1)
    (fun x y hxy => by
      have h0 := smy_0 hR hT hxy.2.1
      rw [hxy.2.2] at h0
      have hs : sp y = true := by cases e : sp y; rw [e] at h0; simp at h0; rfl
      rw [hxy.1]; exact isFP_isf hR hT h hs) (fun x y hxy hs => by
      have h0 := smy_0 hR hT hxy.2.1
      rw [hxy.2.2, hs] at h0
      have hsy : sp y = true := by cases e : sp y; rw [e] at h0; simp at h0; rfl
      have h1 := ex_pos hxy.2.1
      have hk := kS_kid hR hT h hsy
      have hl := bit _ (ex_l h1 hsy)
      rw [hxy.1, hk.1]
      cases e : (smy (cls top L R) sp rq (2 * y)).testBit 0
      · rw [hsy, e] at h0
        rw [if_pos (hl.mpr e), if_neg (by decide)]
        exact ⟨hk.2.2.2.symm, ex_r h1 hsy, by simpa using h0.symm⟩
      · rw [if_neg (fun q => by rw [hl.mp q] at e; exact absurd e (by decide)), if_pos rfl]
        exact ⟨rfl, ex_l h1 hsy, e⟩) 24 1 1 ⟨h.1.symm, ex_1, b1⟩
  have en := mDes_end (st := isf sp rq) (nx := fun y => if (smy (cls top L R) sp rq (2 * y)).testBit 0 = true then 2 * y else 2 * y + 1) (fun y => ex sp y ∧ (smy (cls top L R) sp rq y).testBit 0 = true) (fun y => rnk S rc (cls top L R y)) (fun y hy hs => by
      have h0 := smy_0 hR hT hy.1
      rw [hy.2, hs] at h0
      have hsy : sp y = true := by cases e : sp y; rw [e] at h0; simp at h0; rfl
      have h1 := ex_pos hy.1
      have hk := rnk_kid hR hT hsy
      cases e : (smy (cls top L R) sp rq (2 * y)).testBit 0
      · rw [hsy, e] at h0
        rw [if_neg (by decide)]
        exact ⟨⟨ex_r h1 hsy, by simpa using h0.symm⟩, hk.2⟩
      · rw [if_pos rfl]
        exact ⟨⟨ex_l h1 hsy, e⟩, hk.1⟩) 24 1 ⟨ex_1, b1⟩ (by
      have := dep_23 hR hT 1 ex_1
      omega)
  refine ⟨_, rel.1, ?_⟩
  have hx := en.1
  have hsx : sp (mDes (isf sp rq) (fun y => if (smy (cls top L R) sp rq (2 * y)).testBit 0 = true then 2 * y else 2 * y + 1) 24 1) = true := by
    have h0 := smy_0 hR hT hx.1
    rw [hx.2] at h0
    cases e : sp (mDes (isf sp rq) (fun y => if (smy (cls top L R) sp rq (2 * y)).testBit 0 = true then 2 * y else 2 * y + 1) 24 1)
    · rw [e] at h0; simp at h0
    · rfl
  exact (isf_iff hsx).mp en.2
end PureH
