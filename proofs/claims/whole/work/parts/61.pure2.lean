/-! The leaves in the order of addresses; what is live below a node; splitting and joining, seen by the leaves. -/
def upB (f : Nat → Bool) (k : Nat) (v : Bool) : Nat → Bool := fun j => if j = k then v else f j
theorem upB_s (f : Nat → Bool) (k : Nat) (v : Bool) : upB f k v k = v := by simp [upB]
theorem upB_n (f : Nat → Bool) {k j : Nat} (v : Bool) (h : j ≠ k) : upB f k v j = f j := by simp [upB, h]
theorem upB_u (f : Nat → Bool) {k : Nat} {v w : Bool} (h : f k = w) : upB (upB f k v) k w = f := by
  funext j
  by_cases hj : j = k
  · rw [hj, upB_s, h]
  · rw [upB_n _ _ hj, upB_n _ _ hj]
def lvs (sp : Nat → Bool) (p : Nat) : List Nat := if 0 < p ∧ p < 16777216 ∧ sp p = true then lvs sp (2 * p) ++ lvs sp (2 * p + 1) else [p]
termination_by 33554432 - p
decreasing_by all_goals omega
/-- is something live there or below -/
def lvb (sp : Nat → Bool) (rq : Nat → Nat) (p : Nat) : Bool := if 0 < p ∧ p < 16777216 ∧ sp p = true then lvb sp rq (2 * p) || lvb sp rq (2 * p + 1) else decide (0 < rq p)
termination_by 33554432 - p
decreasing_by all_goals omega
section PureB
variable {top : Nat} {S L R : Nat → Nat} {rc : Nat → Bool} {sp : Nat → Bool} {rq : Nat → Nat}
theorem lvs_n {p : Nat} (h : sp p = false) : lvs sp p = [p] := by
  rw [lvs, if_neg (fun q => by rw [h] at q; exact absurd q.2.2 (by decide))]
theorem lvs_s (hR : RuleOK S L R rc top) (hT : TOK top S L R sp rq) {p : Nat} (h : sp p = true) : lvs sp p = lvs sp (2 * p) ++ lvs sp (2 * p + 1) := by
  have h1 := hT.1 p h
  rw [lvs, if_pos ⟨h1.1, ex_lt hR hT h1.2.1, h⟩]
theorem lvb_n {p : Nat} (h : sp p = false) : lvb sp rq p = decide (0 < rq p) := by
  rw [lvb, if_neg (fun q => by rw [h] at q; exact absurd q.2.2 (by decide))]
theorem lvb_s (hR : RuleOK S L R rc top) (hT : TOK top S L R sp rq) {p : Nat} (h : sp p = true) : lvb sp rq p = (lvb sp rq (2 * p) || lvb sp rq (2 * p + 1)) := by
  have h1 := hT.1 p h
  rw [lvb, if_pos ⟨h1.1, ex_lt hR hT h1.2.1, h⟩]
/-- from the leaves up -/
theorem dn_ind (hR : RuleOK S L R rc top) (hT : TOK top S L R sp rq) {P : Nat → Prop} (hl : ∀ p, ex sp p → sp p = false → P p) (hs : ∀ p, 1 ≤ p → ex sp p → sp p = true → P (2 * p) → P (2 * p + 1) → P p) : ∀ p, ex sp p → P p := by
  have key : ∀ (n p : Nat), 33554432 - p ≤ n → ex sp p → P p := by
    intro n
    induction n with
    | zero =>
      intro p h hx
      have := ex_lt hR hT hx
      omega
    | succ n ih =>
      intro p h hx
      cases hq : sp p
      · exact hl p hx hq
      · have h1 := ex_pos hx
        have h2 := ex_lt hR hT hx
        exact hs p h1 hx hq (ih _ (by omega) (ex_l h1 hq)) (ih _ (by omega) (ex_r h1 hq))
  exact fun p hx => key _ p (Nat.le_refl _) hx
theorem lvs_mem (hR : RuleOK S L R rc top) (hT : TOK top S L R sp rq) : ∀ p, ex sp p → ∀ q ∈ lvs sp p, ex sp q ∧ sp q = false := by
  refine dn_ind hR hT (fun p hx hq q h => ?_) (fun p h1 hx hq i1 i2 q h => ?_)
  · rw [lvs_n hq] at h
    rw [List.mem_singleton.mp h]
    exact ⟨hx, hq⟩
  · rw [lvs_s hR hT hq] at h
    rcases List.mem_append.mp h with h | h
    · exact i1 q h
    · exact i2 q h
theorem lvs_in (hR : RuleOK S L R rc top) (hT : TOK top S L R sp rq) : ∀ p, ex sp p → ∀ q ∈ lvs sp p, adr top S L R p ≤ adr top S L R q ∧ adr top S L R q + S (cls top L R q) ≤ adr top S L R p + S (cls top L R p) := by
  refine dn_ind hR hT (fun p hx hq q h => ?_) (fun p h1 hx hq i1 i2 q h => ?_)
  · rw [lvs_n hq] at h
    rw [List.mem_singleton.mp h]
    exact ⟨Nat.le_refl _, Nat.le_refl _⟩
  · have hs := sp_sides hR hT hq
    rw [lvs_s hR hT hq] at h
    rcases List.mem_append.mp h with h | h
    · have := i1 q h
      rw [adr_e h1, cls_e h1] at this
      omega
    · have := i2 q h
      rw [adr_o h1, cls_o h1] at this
      omega
/-- the leaves stand in the order of their addresses, apart -/
theorem lvs_sort (hR : RuleOK S L R rc top) (hT : TOK top S L R sp rq) : ∀ p, ex sp p → (lvs sp p).Pairwise (fun a b => adr top S L R a + S (cls top L R a) ≤ adr top S L R b) := by
  refine dn_ind hR hT (fun p hx hq => ?_) (fun p h1 hx hq i1 i2 => ?_)
  · rw [lvs_n hq]
    exact List.pairwise_singleton _ _
  · rw [lvs_s hR hT hq, List.pairwise_append]
    refine ⟨i1, i2, fun a ha b hb => ?_⟩
    have e1 := (lvs_in hR hT _ (ex_l h1 hq) a ha).2
    have e2 := (lvs_in hR hT _ (ex_r h1 hq) b hb).1
    rw [adr_e h1, cls_e h1] at e1
    rw [adr_o h1] at e2
    omega
theorem S_pos (hR : RuleOK S L R rc top) (hT : TOK top S L R sp rq) {p : Nat} (hx : ex sp p) : 4 ≤ S (cls top L R p) ∧ S (cls top L R p) ≤ 4194304 ∧ 1 ≤ cls top L R p ∧ cls top L R p ≤ 24 := by
  have := hR.2.1 _ (cls_rc hR hT p hx)
  exact ⟨this.2.2.1, this.2.2.2.1, this.1, this.2.1⟩
theorem lvs_nodup (hR : RuleOK S L R rc top) (hT : TOK top S L R sp rq) {p : Nat} (hx : ex sp p) : (lvs sp p).Nodup := by
  have h := lvs_sort hR hT p hx
  have hm := lvs_mem hR hT p hx
  rw [List.Nodup]
  refine List.Pairwise.imp_of_mem (fun {a b} ha hb hab e => ?_) h
  subst e
  have := (S_pos hR hT (hm a ha).1).1
  omega
/-- every leaf that is there is among them -/
theorem lvs_sub (hR : RuleOK S L R rc top) (hT : TOK top S L R sp rq) : ∀ p, ex sp p → ∀ q ∈ lvs sp p, q ∈ lvs sp 1 := by
  refine ex_ind hT (fun q h => h) (fun p h1 hx hs hp => ⟨fun q h => hp q ?_, fun q h => hp q ?_⟩)
  · rw [lvs_s hR hT hs]; exact List.mem_append_left _ h
  · rw [lvs_s hR hT hs]; exact List.mem_append_right _ h
theorem lvs_all (hR : RuleOK S L R rc top) (hT : TOK top S L R sp rq) {p : Nat} (hx : ex sp p) (hs : sp p = false) : p ∈ lvs sp 1 :=
  lvs_sub hR hT p hx p (by rw [lvs_n hs]; exact List.mem_singleton.mpr rfl)
/-- the tree with one more split -/
theorem TOK_split (hR : RuleOK S L R rc top) (hT : TOK top S L R sp rq) {x : Nat} (hx : ex sp x) (hs : sp x = false) (hr : rq x = 0) (hL : ¬ L (cls top L R x) = 0) : TOK top S L R (upB sp x true) rq := by
  have up : ∀ p, sp p = true → upB sp x true p = true := fun p h => by
    by_cases e : p = x
    · rw [e, upB_s]
    · rw [upB_n _ _ e]; exact h
  have exu : ∀ p, ex sp p → ex (upB sp x true) p := fun p h => h.imp id (fun h => ⟨h.1, up _ h.2⟩)
  refine ⟨fun p h => ?_, fun p h => ?_⟩
  · by_cases e : p = x
    · rw [e]
      exact ⟨ex_pos hx, exu x hx, hL⟩
    · rw [upB_n _ _ e] at h
      exact ⟨(hT.1 p h).1, exu p (hT.1 p h).2.1, (hT.1 p h).2.2⟩
  · have h9 := hT.2 p h
    have e : p ≠ x := fun e => by rw [e, hr] at h; omega
    exact ⟨exu p h9.1, by rw [upB_n _ _ e]; exact h9.2.1, h9.2.2⟩
theorem sp_kids (hT : TOK top S L R sp rq) {x : Nat} (h1 : 1 ≤ x) (hs : sp x = false) : sp (2 * x) = false ∧ sp (2 * x + 1) = false := by
  have key : ∀ y, 2 ≤ y → y / 2 = x → sp y = false := fun y h2 hy => by
    cases h : sp y
    · rfl
    · rcases (hT.1 y h).2.1 with e | e
      · omega
      · rw [hy, hs] at e
        exact absurd e.2 (by decide)
  exact ⟨key _ (by omega) (by omega), key _ (by omega) (by omega)⟩
theorem lvs_split (hR : RuleOK S L R rc top) (hT : TOK top S L R sp rq) {x : Nat} (hx : ex sp x) (hs : sp x = false) (hr : rq x = 0) (hL : ¬ L (cls top L R x) = 0) :
    ∀ p, ex sp p → lvs (upB sp x true) p = (lvs sp p).flatMap (fun q => if q = x then [2 * x, 2 * x + 1] else [q]) := by
  have hT2 := TOK_split hR hT hx hs hr hL
  have h1 := ex_pos hx
  have hk := sp_kids hT h1 hs
  refine dn_ind hR hT (fun p hp hq => ?_) (fun p hp1 hp hq i1 i2 => ?_)
  · rw [lvs_n hq]
    by_cases e : p = x
    · subst e
      rw [lvs_s hR hT2 (upB_s _ _ _), lvs_n (by rw [upB_n _ _ (by omega)]; exact hk.1), lvs_n (by rw [upB_n _ _ (by omega)]; exact hk.2)]
      simp
    · rw [lvs_n (by rw [upB_n _ _ e]; exact hq)]
      simp [e]
  · have e : p ≠ x := fun e => by rw [e, hs] at hq; exact absurd hq (by decide)
    rw [lvs_s hR hT2 (by rw [upB_n _ _ e]; exact hq), lvs_s hR hT hq, List.flatMap_append, i1, i2]
theorem flat_at {x : Nat} {f : Nat → List Nat} (hf : ∀ q, q ≠ x → f q = [q]) : ∀ (l : List Nat), x ∉ l → l.flatMap f = l := by
  intro l
  induction l with
  | nil => intro _; rfl
  | cons a l ih =>
    intro h
    rw [List.flatMap_cons, hf a (fun e => h (by rw [e]; exact List.mem_cons_self)), ih (fun h2 => h (List.mem_cons_of_mem _ h2))]
    rfl
/-- .. at its place -/
theorem lvs_split_at (hR : RuleOK S L R rc top) (hT : TOK top S L R sp rq) {x : Nat} (hx : ex sp x) (hs : sp x = false) (hr : rq x = 0) (hL : ¬ L (cls top L R x) = 0) {l1 l2 : List Nat} (he : lvs sp 1 = l1 ++ x :: l2) : lvs (upB sp x true) 1 = l1 ++ 2 * x :: (2 * x + 1) :: l2 := by
  have hn := lvs_nodup hR hT (ex_1 (sp := sp))
  rw [he] at hn
  have h1 : x ∉ l1 := fun h => (List.nodup_append.mp hn).2.2 x h x List.mem_cons_self rfl
  have h2 : x ∉ l2 := (List.nodup_cons.mp (List.nodup_append.mp hn).2.1).1
  rw [lvs_split hR hT hx hs hr hL 1 ex_1, he, List.flatMap_append, List.flatMap_cons]
  have hf : ∀ q, q ≠ x → (fun q => if q = x then [2 * x, 2 * x + 1] else [q]) q = [q] := fun q hq => if_neg hq
  rw [flat_at hf l1 h1, flat_at hf l2 h2, if_pos rfl]
  rfl
end PureB
