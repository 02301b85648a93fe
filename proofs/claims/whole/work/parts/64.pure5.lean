/-! The tree in rows: what its rows hold of the abstract memory, by a map nu from nodes to places. -/
theorem upN_id (f : Nat → Nat) (i : Nat) : upN f i (f i) = f := by
  funext j
  by_cases h : j = i
  · rw [h, upN_s]
  · rw [upN_n _ _ h]
def kS (top : Nat) (S L R : Nat → Nat) (sp : Nat → Bool) (rq nu : Nat → Nat) (mk : Nat) (pa ch kd ad ra : Nat → Nat) : Prop :=
  nu 1 = 1 ∧ (∀ p, ex sp p → 1 ≤ nu p ∧ nu p < mk ∧ kd (nu p) = cls top L R p ∧ ad (nu p) = adr top S L R p ∧ pa (nu p) = (if p = 1 then 0 else nu (p / 2)) ∧ ch (nu p) = (if sp p = true then nu (2 * p) else 0) ∧ ra (nu p) = rq p) ∧
  (∀ p, sp p = true → nu (2 * p + 1) = nu (2 * p) + 1 ∧ nu (2 * p) % 2 = 0 ∧ 2 ≤ nu (2 * p)) ∧ (∀ p q, ex sp p → ex sp q → nu p = nu q → p = q)
/-- the sums are right, but at the nodes of bad -/
def kU (top : Nat) (L R : Nat → Nat) (sp : Nat → Bool) (rq nu : Nat → Nat) (bad : List Nat) (su un : Nat → Nat) : Prop := ∀ p, ex sp p → p ∉ bad → su (nu p) = smy (cls top L R) sp rq p ∧ un (nu p) = (lvs sp p).length
def chn (pa : Nat → Nat) : Nat → List Nat → Prop
  | s, [] => s = 0
  | s, i :: r => s = i ∧ chn pa (pa i) r
/-- the spare pairs: a chain, off the tree -/
def kF (sp : Nat → Bool) (nu pa : Nat → Nat) (mk spare : Nat) (sl : List Nat) : Prop := chn pa spare sl ∧ sl.Nodup ∧ ∀ i ∈ sl, 2 ≤ i ∧ i % 2 = 0 ∧ i + 1 < mk ∧ ∀ p, ex sp p → nu p ≠ i ∧ nu p ≠ i + 1
section PureE
variable {top : Nat} {S L R : Nat → Nat} {rc : Nat → Bool} {sp : Nat → Bool} {rq nu : Nat → Nat} {mk n spare : Nat} {pa ch kd ad ra su un : Nat → Nat} {sl bad : List Nat}
theorem chn_off (f : Nat → Nat) {k v : Nat} : ∀ (l : List Nat) (s : Nat), k ∉ l → chn f s l → chn (upN f k v) s l := by
  intro l
  induction l with
  | nil => intro s _ h; exact h
  | cons i r ih =>
    intro s hk h
    refine ⟨h.1, ?_⟩
    rw [upN_n _ _ (fun e => hk (by rw [← e]; exact List.mem_cons_self))]
    exact ih _ (fun q => hk (List.mem_cons_of_mem _ q)) h.2
theorem kS_kid (hR : RuleOK S L R rc top) (hT : TOK top S L R sp rq) (h : kS top S L R sp rq nu mk pa ch kd ad ra) {p : Nat} (hs : sp p = true) : ch (nu p) = nu (2 * p) ∧ 2 ≤ nu (2 * p) ∧ nu (2 * p) % 2 = 0 ∧ nu (2 * p + 1) = nu (2 * p) + 1 := by
  have h1 := hT.1 p hs
  have h2 := (h.2.1 p h1.2.1).2.2.2.2.2.1
  rw [if_pos hs] at h2
  have h3 := h.2.2.1 p hs
  exact ⟨h2, h3.2.2, h3.2.1, h3.1⟩
theorem kS_leaf (h : kS top S L R sp rq nu mk pa ch kd ad ra) {p : Nat} (hx : ex sp p) (hs : sp p = false) : ch (nu p) = 0 := by
  have h2 := (h.2.1 p hx).2.2.2.2.2.1
  rw [if_neg (by rw [hs]; decide)] at h2
  exact h2
/-- is a place's node free, by the rows -/
theorem isFr_iff (hR : RuleOK S L R rc top) (hT : TOK top S L R sp rq) (h : kS top S L R sp rq nu mk pa ch kd ad ra) {p : Nat} (hx : ex sp p) : isFr ch ra (nu p) = true ↔ sp p = false ∧ rq p = 0 := by
  have h9 := h.2.1 p hx
  unfold isFr
  rw [decide_eq_true_eq]
  constructor
  · intro ⟨_, b, c⟩
    refine ⟨?_, by rw [← h9.2.2.2.2.2.2]; exact c⟩
    cases hs : sp p
    · rfl
    · have := kS_kid hR hT h hs
      omega
  · intro ⟨b, c⟩
    exact ⟨by omega, kS_leaf h hx b, by rw [h9.2.2.2.2.2.2]; exact c⟩
theorem isFP_isf (hR : RuleOK S L R rc top) (hT : TOK top S L R sp rq) (h : kS top S L R sp rq nu mk pa ch kd ad ra) {p : Nat} (hs : sp p = true) : isFP ch ra (nu p) = isf sp rq p := by
  have h1 := (hT.1 p hs).1
  have hk := kS_kid hR hT h hs
  have a := isFr_iff hR hT h (ex_l h1 hs)
  have b := isFr_iff hR hT h (ex_r h1 hs)
  unfold isFP
  rw [hk.1, ← hk.2.2.2]
  cases e : isf sp rq p
  · rw [Bool.and_eq_false_iff]
    have hn : ¬ joi sp rq p := fun q => by rw [(isf_iff hs).mpr q] at e; exact absurd e (by decide)
    cases e1 : isFr ch ra (nu (2 * p))
    · exact Or.inl rfl
    · cases e2 : isFr ch ra (nu (2 * p + 1))
      · exact Or.inr rfl
      · have a1 := a.mp e1
        have b1 := b.mp e2
        exact absurd ⟨hs, a1.1, b1.1, a1.2, b1.2⟩ hn
  · have hj := (isf_iff hs).mp e
    rw [a.mpr ⟨hj.2.1, hj.2.2.2.1⟩, b.mpr ⟨hj.2.2.1, hj.2.2.2.2⟩]
    rfl
theorem nl_le (hR : RuleOK S L R rc top) (hT : TOK top S L R sp rq) : ∀ p, ex sp p → 1 ≤ (lvs sp p).length ∧ 4 * (lvs sp p).length ≤ S (cls top L R p) := by
  refine dn_ind hR hT (fun p hx hq => ?_) (fun p h1 hx hq i1 i2 => ?_)
  · rw [lvs_n hq]
    exact ⟨by simp, by have := (S_pos hR hT hx).1; simpa using this⟩
  · rw [lvs_s hR hT hq, List.length_append]
    have hs := sp_sides hR hT hq
    rw [cls_e h1] at i1
    rw [cls_o h1] at i2
    omega
/-- a request is set at a leaf -/
theorem TOK_set (hT : TOK top S L R sp rq) {x w : Nat} (hx : ex sp x) (hs : sp x = false) (hw : w ≤ S (cls top L R x)) : TOK top S L R sp (upN rq x w) := by
  refine ⟨hT.1, fun p hp => ?_⟩
  by_cases e : p = x
  · subst e
    rw [upN_s]
    exact ⟨hx, hs, hw⟩
  · rw [upN_n _ _ e] at hp ⊢
    exact hT.2 p hp
theorem kS_set (h : kS top S L R sp rq nu mk pa ch kd ad ra) {x w : Nat} (hx : ex sp x) : kS top S L R sp (upN rq x w) nu mk pa ch kd ad (upN ra (nu x) w) := by
  refine ⟨h.1, fun p hp => ?_, h.2.2.1, h.2.2.2⟩
  have h9 := h.2.1 p hp
  refine ⟨h9.1, h9.2.1, h9.2.2.1, h9.2.2.2.1, h9.2.2.2.2.1, h9.2.2.2.2.2.1, ?_⟩
  by_cases e : p = x
  · subst e
    rw [upN_s, upN_s]
  · rw [upN_n _ _ e, upN_n _ _ (fun q => e (h.2.2.2 p x hp hx q))]
    exact h9.2.2.2.2.2.2
theorem kU_set (hR : RuleOK S L R rc top) (hT : TOK top S L R sp rq) (h : kS top S L R sp rq nu mk pa ch kd ad ra) (hU : kU top L R sp rq nu bad su un) {x w : Nat} (hx : ex sp x) (hs : sp x = false) (hb : ∀ p ∈ bad, p ∈ x :: ancs x) :
    kU top L R sp (upN rq x w) nu (ancs x) (upN su (nu x) (if w = 0 then 1 * 2 ^ kd (nu x) else 33554432)) un ∨ x ∈ bad := by
  by_cases hxb : x ∈ bad
  · exact Or.inr hxb
  refine Or.inl (fun p hp hn => ?_)
  by_cases e : p = x
  · subst e
    rw [upN_s, smy_n hs, upN_s, (h.2.1 p hx).2.2.1]
    exact ⟨rfl, (hU p hx hxb).2⟩
  · have hn2 : p ∉ x :: ancs x := fun q => (List.mem_cons.mp q).elim e hn
    have o := off_line (cl := cls top L R) hR hT (sp2 := sp) (rq2 := upN rq x w) (x := x) (fun _ _ => rfl) (fun y hy => upN_n _ _ hy) p hp hn2
    have u := hU p hp (fun q => hn2 (hb p q))
    rw [upN_n _ _ (fun q => e (h.2.2.2 p x hp hx q)), o.2.2]
    exact u
/-- behind a refresh from x up all sums are right -/
theorem kU_ref (hR : RuleOK S L R rc top) (hT : TOK top S L R sp rq) (h : kS top S L R sp rq nu mk pa ch kd ad ra) : ∀ (k y : Nat) (su un : Nat → Nat), ex sp y → dep y ≤ k → kU top L R sp rq nu (ancs y) su un →
    kU top L R sp rq nu [] (fRef pa ch ra k (pa (nu y), su, un)).2.1 (fRef pa ch ra k (pa (nu y), su, un)).2.2 := by
  intro k
  induction k with
  | zero =>
    intro y su un hy hd hU
    have h1 := ex_pos hy
    have hy1 : y = 1 := by
      by_cases e : y ≤ 1
      · omega
      · rw [dep, if_neg e] at hd
        omega
    subst hy1
    rw [ancs_1] at hU
    exact hU
  | succ k ih =>
    intro y su un hy hd hU
    by_cases e : y = 1
    · subst e
      have hp := (h.2.1 1 hy).2.2.2.2.1
      rw [if_pos rfl] at hp
      have : fRef pa ch ra (k + 1) (pa (nu 1), su, un) = (pa (nu 1), su, un) := mDes_e (Or.inl (decide_eq_true hp))
      rw [this]
      rw [ancs_1] at hU
      exact hU
    · have h2 : 2 ≤ y := by have := ex_pos hy; omega
      obtain ⟨u1, u2⟩ := ex_up hT hy h2
      have hp := (h.2.1 y hy).2.2.2.2.1
      rw [if_neg e] at hp
      have hj := h.2.1 (y / 2) u1
      have hk := kS_kid hR hT h u2
      have h1 : 1 ≤ y / 2 := by omega
      have st : fRef pa ch ra (k + 1) (pa (nu y), su, un) = fRef pa ch ra k (pa (nu (y / 2)), upN su (nu (y / 2)) (if isFP ch ra (nu (y / 2)) then (su (ch (nu (y / 2))) ||| su (ch (nu (y / 2)) + 1)) ||| 1 else su (ch (nu (y / 2))) ||| su (ch (nu (y / 2)) + 1)), upN un (nu (y / 2)) (un (ch (nu (y / 2))) + un (ch (nu (y / 2)) + 1))) := by
        rw [hp]
        exact mDes_s (k := k + 1) (decide_eq_false (show ¬ nu (y / 2) = 0 by omega)) (by omega) rfl
      rw [st]
      refine ih (y / 2) _ _ u1 (by rw [dep, if_neg (by omega)] at hd; omega) (fun p hx hn => ?_)
      rw [ancs_s h2] at hU
      by_cases e2 : p = y / 2
      · subst e2
        have nl : 2 * (y / 2) ∉ y / 2 :: ancs (y / 2) := fun q => by
          rcases List.mem_cons.mp q with z | z
          · omega
          · have := ancs_lt _ _ z
            omega
        have nr : 2 * (y / 2) + 1 ∉ y / 2 :: ancs (y / 2) := fun q => by
          rcases List.mem_cons.mp q with z | z
          · omega
          · have := ancs_lt _ _ z
            omega
        have a := hU _ (ex_l h1 u2) nl
        have b := hU _ (ex_r h1 u2) nr
        rw [upN_s, upN_s, isFP_isf hR hT h u2, hk.1, ← hk.2.2.2, a.1, a.2, b.1, b.2, smy_s0 h1 (ex_lt hR hT u1) u2, lvs_s0 h1 (ex_lt hR hT u1) u2, List.length_append]
        exact ⟨rfl, rfl⟩
      · have ne : nu p ≠ nu (y / 2) := fun q => e2 (h.2.2.2 p _ hx u1 q)
        rw [upN_n _ _ ne, upN_n _ _ ne]
        exact hU p hx (fun q => (List.mem_cons.mp q).elim e2 hn)
end PureE
