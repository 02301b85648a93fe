/-! The outermost free node of some numbers; the best node for w words. -/
def gm (cl rq : Nat → Nat) (M q : Nat) : Bool := decide (rq q = 0) && M.testBit (cl q)
def fit (S cl rq : Nat → Nat) (w q : Nat) : Bool := decide (rq q = 0) && decide (w ≤ S (cl q))
def bstep (S cl rq : Nat → Nat) (w b q : Nat) : Nat := if fit S cl rq w q && (decide (b = 0) || decide (S (cl q) < S (cl b))) then q else b
def bst (S cl rq : Nat → Nat) (w : Nat) (l : List Nat) : Nat := l.foldl (bstep S cl rq w) 0
def isB (f : Nat → Bool) (s : Nat → Nat) (l : List Nat) (y : Nat) : Prop := ∃ l1 l2, l = l1 ++ y :: l2 ∧ f y = true ∧ (∀ z ∈ l1, f z = true → s y < s z) ∧ ∀ z ∈ l2, f z = true → s y ≤ s z
theorem isB_uniq {f : Nat → Bool} {s : Nat → Nat} {l : List Nat} {y z : Nat} (h1 : isB f s l y) (h2 : isB f s l z) : y = z := by
  obtain ⟨a1, a2, ea, fa, la, ra⟩ := h1
  obtain ⟨b1, b2, eb, fb, lb, rb⟩ := h2
  rw [ea] at eb
  rcases List.append_eq_append_iff.mp eb with ⟨c, e1, e2⟩ | ⟨c, e1, e2⟩
  · cases c with
    | nil => exact (List.cons.inj e2).1
    | cons d c =>
      obtain ⟨e3, e4⟩ := List.cons.inj e2
      subst e3
      have i1 := lb y (by rw [e1]; exact List.mem_append_right _ List.mem_cons_self) fa
      have i2 := ra z (by rw [e4]; exact List.mem_append_right _ List.mem_cons_self) fb
      omega
  · cases c with
    | nil => exact (List.cons.inj e2).1.symm
    | cons d c =>
      obtain ⟨e3, e4⟩ := List.cons.inj e2
      subst e3
      have i1 := la z (by rw [e1]; exact List.mem_append_right _ List.mem_cons_self) fb
      have i2 := rb y (by rw [e4]; exact List.mem_append_right _ List.mem_cons_self) fa
      omega
section PureN
variable {top : Nat} {S L R cl : Nat → Nat} {rc : Nat → Bool} {sp : Nat → Bool} {rq nu : Nat → Nat} {mk n spare : Nat} {pa ch kd ad ra su un fo kp : Nat → Nat} {bad : List Nat} {bl rd hd : Nat} {sz lf rt : Nat → Int32} {w : Nat}
def bP (S cl rq : Nat → Nat) (w : Nat) (pre : List Nat) (b : Nat) : Prop := (b = 0 ∧ ∀ z ∈ pre, fit S cl rq w z = false) ∨ (b ≠ 0 ∧ isB (fit S cl rq w) (fun q => S (cl q)) pre b)
theorem bP_step {pre : List Nat} {b q : Nat} (hq : q ≠ 0) (h : bP S cl rq w pre b) : bP S cl rq w (pre ++ [q]) (bstep S cl rq w b q) := by
  unfold bstep
  cases hf : fit S cl rq w q
  · rw [Bool.false_and, if_neg (by decide)]
    rcases h with ⟨h0, h1⟩ | ⟨h0, l1, l2, e, f1, i1, i2⟩
    · refine Or.inl ⟨h0, fun z hz => ?_⟩
      rcases List.mem_append.mp hz with hz | hz
      · exact h1 z hz
      · rw [List.mem_singleton.mp hz]; exact hf
    · refine Or.inr ⟨h0, l1, l2 ++ [q], by rw [e, List.append_assoc]; rfl, f1, i1, fun z hz fz => ?_⟩
      rcases List.mem_append.mp hz with hz | hz
      · exact i2 z hz fz
      · rw [List.mem_singleton.mp hz, hf] at fz; exact absurd fz (by decide)
  · rw [Bool.true_and]
    rcases h with ⟨h0, h1⟩ | ⟨h0, l1, l2, e, f1, i1, i2⟩
    · rw [if_pos (by simp [h0])]
      refine Or.inr ⟨hq, pre, [], rfl, hf, fun z hz fz => ?_, fun z hz => by cases hz⟩
      rw [h1 z hz] at fz; exact absurd fz (by decide)
    · by_cases c : S (cl q) < S (cl b)
      · rw [if_pos (by simp [c])]
        refine Or.inr ⟨hq, pre, [], rfl, hf, fun z hz fz => ?_, fun z hz => by cases hz⟩
        show S (cl q) < S (cl z)
        rw [e] at hz
        rcases List.mem_append.mp hz with hz | hz
        · have := i1 z hz fz
          simp only at this
          omega
        · rcases List.mem_cons.mp hz with e2 | hz
          · rw [e2]; exact c
          · have := i2 z hz fz
            simp only at this
            omega
      · rw [if_neg (by simp [h0, c])]
        refine Or.inr ⟨h0, l1, l2 ++ [q], by rw [e, List.append_assoc]; rfl, f1, i1, fun z hz fz => ?_⟩
        rcases List.mem_append.mp hz with hz | hz
        · exact i2 z hz fz
        · rw [List.mem_singleton.mp hz]
          show S (cl b) ≤ S (cl q)
          omega
theorem bP_fold : ∀ (l pre : List Nat) (b : Nat), (∀ z ∈ l, z ≠ 0) → bP S cl rq w pre b → bP S cl rq w (pre ++ l) (l.foldl (bstep S cl rq w) b) := by
  intro l
  induction l with
  | nil => intro pre b _ h; rw [List.append_nil]; exact h
  | cons q l ih =>
    intro pre b h0 h
    have := ih (pre ++ [q]) (bstep S cl rq w b q) (fun z hz => h0 z (List.mem_cons_of_mem _ hz)) (bP_step (h0 q List.mem_cons_self) h)
    rw [List.append_assoc] at this
    exact this
theorem bst_spec {l : List Nat} (h0 : ∀ z ∈ l, z ≠ 0) : bP S cl rq w l (bst S cl rq w l) := by
  have := bP_fold (S := S) (cl := cl) (rq := rq) (w := w) l [] 0 h0 (Or.inl ⟨rfl, fun z hz => by cases hz⟩)
  exact this
/-- the mask's bits, seen by the sums -/
theorem mask_any (hR : RuleOK S L R rc top) (hT : TOK top S L R sp rq) {M : Nat} (hM : ∀ k, M.testBit k = true → 1 ≤ k ∧ k ≤ 24) {p : Nat} (hx : ex sp p) : ¬ smy (cls top L R) sp rq p &&& M = 0 ↔ ∃ q ∈ lvs sp p, gm (cls top L R) rq M q = true := by
  have hb := (smy_bits hR hT p hx).1
  constructor
  · intro h
    obtain ⟨k, hk⟩ := Nat.exists_testBit_of_ne_zero h
    rw [Nat.testBit_and, Bool.and_eq_true] at hk
    have hk2 := hM k hk.2
    obtain ⟨q, hq, h1, h2⟩ := (hb k hk2.1 hk2.2).mp hk.1
    exact ⟨q, hq, by unfold gm; rw [h1, h2, hk.2]; rfl⟩
  · rintro ⟨q, hq, hg⟩ h0
    unfold gm at hg
    rw [Bool.and_eq_true, decide_eq_true_eq] at hg
    have hk2 := hM _ hg.2
    have := (hb _ hk2.1 hk2.2).mpr ⟨q, hq, hg.1, rfl⟩
    have h9 : (smy (cls top L R) sp rq p &&& M).testBit (cls top L R q) = true := by rw [Nat.testBit_and, this, hg.2]; rfl
    rw [h0, Nat.zero_testBit] at h9
    exact absurd h9 (by decide)
theorem find_none {f : Nat → Bool} {l : List Nat} (h : ¬ ∃ q ∈ l, f q = true) : l.find? f = none := by
  rw [List.find?_eq_none]
  exact fun q hq hf => h ⟨q, hq, hf⟩
theorem find_some {f : Nat → Bool} {l : List Nat} (h : ∃ q ∈ l, f q = true) : (l.find? f).isSome = true := by
  obtain ⟨q, hq, hf⟩ := h
  rw [List.find?_isSome]
  exact ⟨q, hq, hf⟩
/-- the leaf that lies furthest to the left, among those of the mask -/
theorem fOut_l (hR : RuleOK S L R rc top) (h : wI top S L R sp rq nu [] n mk spare pa ch kd ad ra su un fo bl rd hd) {M : Nat} (hM : ∀ k, M.testBit k = true → 1 ≤ k ∧ k ≤ 24) (h0 : ¬ su 1 &&& M = 0) : ∃ q, fOut ch su M 0 = nu q ∧ ex sp q ∧ sp q = false ∧ (lvs sp 1).find? (gm (cls top L R) rq M) = some q := by
  have hT := h.1.1
  have hS := h.1.2.1
  have hU := fun p hp => (h.1.2.2.1 p hp List.not_mem_nil).1
  have any := fun p (hp : ex sp p) => by have := mask_any hR hT hM hp; rw [← hU p hp] at this; exact this
  obtain ⟨q, e1, e2, e3, e4, e5⟩ := desc hR hT hS (nx := fun x => if su (ch x + 0) &&& M = 0 then (ch x + 0) ^^^ 1 else ch x + 0) (go := fun p => if su (nu (2 * p)) &&& M = 0 then 2 * p + 1 else 2 * p)
    (fun p hp hs => by
      have hk := kS_kid hR hT hS hs
      rw [Nat.add_zero, hk.1]
      by_cases c : su (nu (2 * p)) &&& M = 0
      · rw [if_pos c, if_pos c, xor1_e hk.2.2.1, hk.2.2.2]
        exact ⟨rfl, Or.inr rfl⟩
      · rw [if_neg c, if_neg c]
        exact ⟨rfl, Or.inl rfl⟩)
    (fun p => (¬ su (nu p) &&& M = 0) ∧ (lvs sp 1).find? (gm (cls top L R) rq M) = (lvs sp p).find? (gm (cls top L R) rq M))
    (fun p hp hs hI => by
      have h1 := ex_pos hp
      have hl := any _ (ex_l h1 hs)
      have hr := any _ (ex_r h1 hs)
      have hp9 := (any p hp).mp hI.1
      have hf := hI.2
      rw [lvs_s hR hT hs] at hp9 hf
      rw [List.find?_append] at hf
      by_cases c : su (nu (2 * p)) &&& M = 0
      · rw [if_pos c]
        have hn : ¬ ∃ q ∈ lvs sp (2 * p), gm (cls top L R) rq M q = true := fun z => hl.mpr z c
        rw [find_none hn, Option.none_or] at hf
        obtain ⟨q, hq, hg⟩ := hp9
        rcases List.mem_append.mp hq with hq | hq
        · exact absurd ⟨q, hq, hg⟩ hn
        · exact ⟨hr.mpr ⟨q, hq, hg⟩, hf⟩
      · rw [if_neg c]
        have hs9 := find_some (hl.mp c)
        rw [Option.or_of_isSome hs9] at hf
        exact ⟨c, hf⟩)
    ⟨by rw [hS.1]; exact h0, rfl⟩
  refine ⟨q, e1, e2, e3, ?_⟩
  have hq := (any q e2).mp e4
  rw [lvs_n e3] at hq
  obtain ⟨q2, hq2, hg⟩ := hq
  rw [List.mem_singleton.mp hq2] at hg
  rw [e5, lvs_n e3, List.find?_cons, hg]
/-- the leaf that lies furthest to the right -/
theorem fOut_r (hR : RuleOK S L R rc top) (h : wI top S L R sp rq nu [] n mk spare pa ch kd ad ra su un fo bl rd hd) {M : Nat} (hM : ∀ k, M.testBit k = true → 1 ≤ k ∧ k ≤ 24) (h0 : ¬ su 1 &&& M = 0) : ∃ q, fOut ch su M 1 = nu q ∧ ex sp q ∧ sp q = false ∧ (lvs sp 1).reverse.find? (gm (cls top L R) rq M) = some q := by
  have hT := h.1.1
  have hS := h.1.2.1
  have hU := fun p hp => (h.1.2.2.1 p hp List.not_mem_nil).1
  have any := fun p (hp : ex sp p) => by have := mask_any hR hT hM hp; rw [← hU p hp] at this; exact this
  obtain ⟨q, e1, e2, e3, e4, e5⟩ := desc hR hT hS (nx := fun x => if su (ch x + 1) &&& M = 0 then (ch x + 1) ^^^ 1 else ch x + 1) (go := fun p => if su (nu (2 * p + 1)) &&& M = 0 then 2 * p else 2 * p + 1)
    (fun p hp hs => by
      have hk := kS_kid hR hT hS hs
      rw [hk.1, ← hk.2.2.2]
      by_cases c : su (nu (2 * p + 1)) &&& M = 0
      · rw [if_pos c, if_pos c, xor1_o (by omega), hk.2.2.2]
        exact ⟨rfl, Or.inl rfl⟩
      · rw [if_neg c, if_neg c]
        exact ⟨rfl, Or.inr rfl⟩)
    (fun p => (¬ su (nu p) &&& M = 0) ∧ (lvs sp 1).reverse.find? (gm (cls top L R) rq M) = (lvs sp p).reverse.find? (gm (cls top L R) rq M))
    (fun p hp hs hI => by
      have h1 := ex_pos hp
      have hl := any _ (ex_l h1 hs)
      have hr := any _ (ex_r h1 hs)
      have hp9 := (any p hp).mp hI.1
      have hf := hI.2
      rw [lvs_s hR hT hs] at hp9 hf
      rw [List.reverse_append, List.find?_append] at hf
      by_cases c : su (nu (2 * p + 1)) &&& M = 0
      · rw [if_pos c]
        have hn : ¬ ∃ q ∈ lvs sp (2 * p + 1), gm (cls top L R) rq M q = true := fun z => hr.mpr z c
        have hn2 : ¬ ∃ q ∈ (lvs sp (2 * p + 1)).reverse, gm (cls top L R) rq M q = true := fun ⟨q, hq, hg⟩ => hn ⟨q, List.mem_reverse.mp hq, hg⟩
        rw [find_none hn2, Option.none_or] at hf
        obtain ⟨q, hq, hg⟩ := hp9
        rcases List.mem_append.mp hq with hq | hq
        · exact ⟨hl.mpr ⟨q, hq, hg⟩, hf⟩
        · exact absurd ⟨q, hq, hg⟩ hn
      · rw [if_neg c]
        obtain ⟨q, hq, hg⟩ := hr.mp c
        have hs9 := find_some (f := gm (cls top L R) rq M) (l := (lvs sp (2 * p + 1)).reverse) ⟨q, List.mem_reverse.mpr hq, hg⟩
        rw [Option.or_of_isSome hs9] at hf
        exact ⟨c, hf⟩)
    ⟨by rw [hS.1]; exact h0, rfl⟩
  refine ⟨q, e1, e2, e3, ?_⟩
  have hq := (any q e2).mp e4
  rw [lvs_n e3] at hq
  obtain ⟨q2, hq2, hg⟩ := hq
  rw [List.mem_singleton.mp hq2] at hg
  rw [e5, lvs_n e3, List.reverse_singleton, List.find?_cons, hg]
end PureN
