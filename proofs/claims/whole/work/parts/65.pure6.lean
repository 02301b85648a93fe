/-! Uniting and splitting, in the rows. -/
section PureF
variable {top : Nat} {S L R : Nat → Nat} {rc : Nat → Bool} {sp : Nat → Bool} {rq nu : Nat → Nat} {mk n spare : Nat} {pa ch kd ad ra su un : Nat → Nat} {sl bad : List Nat}
theorem kS_unite (hT : TOK top S L R sp rq) (h : kS top S L R sp rq nu mk pa ch kd ad ra) {x v : Nat} (hj : joi sp rq x) : kS top S L R (upB sp x false) rq nu mk (upN pa (nu (2 * x)) v) (upN ch (nu x) 0) kd ad (upN ra (nu x) 0) := by
  have h0 := hT.1 x hj.1
  refine ⟨h.1, fun p hp => ?_, fun p hp => ?_, fun p q hp hq => h.2.2.2 p q ((ex_join hT hj).mp hp).1 ((ex_join hT hj).mp hq).1⟩
  · obtain ⟨hx, n1, n2⟩ := (ex_join hT hj).mp hp
    have h9 := h.2.1 p hx
    refine ⟨h9.1, h9.2.1, h9.2.2.1, h9.2.2.2.1, ?_, ?_, ?_⟩
    · rw [upN_n _ _ (fun q => n1 (h.2.2.2 p _ hx (ex_l h0.1 hj.1) q))]
      exact h9.2.2.2.2.1
    · by_cases e : p = x
      · subst e
        rw [upN_s, upB_s]
        rfl
      · rw [upN_n _ _ (fun q => e (h.2.2.2 p x hx h0.2.1 q)), upB_n _ _ e]
        exact h9.2.2.2.2.2.1
    · by_cases e : p = x
      · subst e
        rw [upN_s, rq_sp hT hj.1]
      · rw [upN_n _ _ (fun q => e (h.2.2.2 p x hx h0.2.1 q))]
        exact h9.2.2.2.2.2.2
  · have e : p ≠ x := fun e => by rw [e, upB_s] at hp; exact absurd hp (by decide)
    rw [upB_n _ _ e] at hp
    exact h.2.2.1 p hp
theorem kU_unite (hR : RuleOK S L R rc top) (hT : TOK top S L R sp rq) (h : kS top S L R sp rq nu mk pa ch kd ad ra) (hU : kU top L R sp rq nu bad su un) {x : Nat} (hj : joi sp rq x) (hb : ∀ p ∈ bad, p ∈ x :: ancs x) :
    kU top L R (upB sp x false) rq nu (ancs x) (upN su (nu x) (1 * 2 ^ kd (nu x))) (upN un (nu x) 1) := by
  have h0 := hT.1 x hj.1
  intro p hp hn
  obtain ⟨hx, n1, n2⟩ := (ex_join hT hj).mp hp
  by_cases e : p = x
  · subst e
    rw [upN_s, upN_s, smy_n (upB_s _ _ _), lvs_n (upB_s _ _ _), rq_sp hT hj.1, (h.2.1 p hx).2.2.1]
    exact ⟨rfl, rfl⟩
  · have hn2 : p ∉ x :: ancs x := fun q => (List.mem_cons.mp q).elim e hn
    have o := off_line (cl := cls top L R) hR hT (sp2 := upB sp x false) (rq2 := rq) (x := x) (fun y hy => upB_n _ _ hy) (fun _ _ => rfl) p hx hn2
    have ne : nu p ≠ nu x := fun q => e (h.2.2.2 p x hx h0.2.1 q)
    rw [upN_n _ _ ne, upN_n _ _ ne, o.1, o.2.2]
    exact hU p hx (fun q => hn2 (hb p q))
theorem kF_unite (hT : TOK top S L R sp rq) (h : kS top S L R sp rq nu mk pa ch kd ad ra) (hF : kF sp nu pa mk spare sl) {x : Nat} (hj : joi sp rq x) : kF (upB sp x false) nu (upN pa (nu (2 * x)) spare) mk (nu (2 * x)) (nu (2 * x) :: sl) := by
  have h0 := hT.1 x hj.1
  have hl := ex_l h0.1 hj.1
  have hr := ex_r h0.1 hj.1
  have hk := h.2.2.1 x hj.1
  have n0 : nu (2 * x) ∉ sl := fun q => ((hF.2.2 _ q).2.2.2 _ hl).1 rfl
  refine ⟨⟨rfl, ?_⟩, List.nodup_cons.mpr ⟨n0, hF.2.1⟩, fun i hi => ?_⟩
  · rw [upN_s]
    exact chn_off pa sl spare n0 hF.1
  · rcases List.mem_cons.mp hi with e | e
    · subst e
      refine ⟨hk.2.2, hk.2.1, by have := (h.2.1 _ hr).2.1; omega, fun p hp => ?_⟩
      obtain ⟨hx, n1, n2⟩ := (ex_join hT hj).mp hp
      refine ⟨fun q => n1 (h.2.2.2 p _ hx hl q), fun q => n2 (h.2.2.2 p _ hx hr (by rw [q, hk.1]))⟩
    · have h9 := hF.2.2 i e
      exact ⟨h9.1, h9.2.1, h9.2.2.1, fun p hp => h9.2.2.2 p ((ex_join hT hj).mp hp).1⟩
theorem not_ex_kids {x : Nat} (h1 : 1 ≤ x) (hs : sp x = false) : ¬ ex sp (2 * x) ∧ ¬ ex sp (2 * x + 1) := by
  refine ⟨fun q => ?_, fun q => ?_⟩
  · rcases q with e | e
    · omega
    · rw [show 2 * x / 2 = x by omega, hs] at e; exact absurd e.2 (by decide)
  · rcases q with e | e
    · omega
    · rw [show (2 * x + 1) / 2 = x by omega, hs] at e; exact absurd e.2 (by decide)
theorem rq_kids (hT : TOK top S L R sp rq) {x : Nat} (h1 : 1 ≤ x) (hs : sp x = false) : rq (2 * x) = 0 ∧ rq (2 * x + 1) = 0 := by
  have hn := not_ex_kids h1 hs
  refine ⟨?_, ?_⟩
  · rcases Nat.eq_zero_or_pos (rq (2 * x)) with e | e
    · exact e
    · exact absurd (hT.2 _ e).1 hn.1
  · rcases Nat.eq_zero_or_pos (rq (2 * x + 1)) with e | e
    · exact e
    · exact absurd (hT.2 _ e).1 hn.2
/-- the map behind a split of x into the pair at P -/
def nuS (nu : Nat → Nat) (x P : Nat) : Nat → Nat := upN (upN nu (2 * x) P) (2 * x + 1) (P + 1)
theorem nuS_l (nu : Nat → Nat) (x P : Nat) : nuS nu x P (2 * x) = P := by unfold nuS; rw [upN_n _ _ (by omega), upN_s]
theorem nuS_r (nu : Nat → Nat) (x P : Nat) : nuS nu x P (2 * x + 1) = P + 1 := by unfold nuS; rw [upN_s]
theorem nuS_o (nu : Nat → Nat) {x P p : Nat} (h1 : p ≠ 2 * x) (h2 : p ≠ 2 * x + 1) : nuS nu x P p = nu p := by unfold nuS; rw [upN_n _ _ h2, upN_n _ _ h1]
theorem up2_l (f : Nat → Nat) (P a b : Nat) : upN (upN f P a) (P + 1) b P = a := by rw [upN_n _ _ (by omega), upN_s]
theorem up2_r (f : Nat → Nat) (P a b : Nat) : upN (upN f P a) (P + 1) b (P + 1) = b := upN_s _ _ _
theorem up2_o (f : Nat → Nat) {P a b i : Nat} (h1 : i ≠ P) (h2 : i ≠ P + 1) : upN (upN f P a) (P + 1) b i = f i := by rw [upN_n _ _ h2, upN_n _ _ h1]
theorem kS_split (hT : TOK top S L R sp rq) (h : kS top S L R sp rq nu mk pa ch kd ad ra) {x P mk2 : Nat} (hx : ex sp x) (hs : sp x = false) (hfr : ∀ p, ex sp p → nu p ≠ P ∧ nu p ≠ P + 1) (hP2 : 2 ≤ P) (hPe : P % 2 = 0) (hm : mk ≤ mk2) (hPm : P + 1 < mk2) :
    kS top S L R (upB sp x true) rq (nuS nu x P) mk2 (upN (upN pa P (nu x)) (P + 1) (nu x)) (upN (upN (upN ch P 0) (P + 1) 0) (nu x) P) (upN (upN kd P (L (cls top L R x))) (P + 1) (R (cls top L R x))) (upN (upN ad P (ad (nu x))) (P + 1) (upN ad P (ad (nu x)) (nu x) + S (L (cls top L R x)))) (upN (upN ra P 0) (P + 1) 0) := by
  have h1 := ex_pos hx
  have hn := not_ex_kids h1 hs
  have hrk := rq_kids hT h1 hs
  have hsk := sp_kids hT h1 hs
  have hfx := hfr x hx
  have old : ∀ p, ex sp p → p ≠ 2 * x ∧ p ≠ 2 * x + 1 := fun p hp => ⟨fun e => hn.1 (by rw [← e]; exact hp), fun e => hn.2 (by rw [← e]; exact hp)⟩
  have h0 := h.2.1 x hx
  have adx : upN ad P (ad (nu x)) (nu x) = adr top S L R x := by rw [upN_n _ _ hfx.1]; exact h0.2.2.2.1
  refine ⟨?_, fun p hp => ?_, fun p hp => ?_, fun p q hp hq e => ?_⟩
  · have := old 1 ex_1
    rw [nuS_o _ this.1 this.2]; exact h.1
  · rcases (ex_split h1 hs).mp hp with hp | e | e
    · have ho := old p hp
      have h9 := h.2.1 p hp
      have hf := hfr p hp
      rw [nuS_o _ ho.1 ho.2, up2_o _ hf.1 hf.2, up2_o _ hf.1 hf.2, up2_o _ hf.1 hf.2, up2_o _ hf.1 hf.2]
      refine ⟨h9.1, by omega, h9.2.2.1, h9.2.2.2.1, ?_, ?_, h9.2.2.2.2.2.2⟩
      · rw [h9.2.2.2.2.1]
        by_cases e : p = 1
        · rw [if_pos e, if_pos e]
        · rw [if_neg e, if_neg e]
          have h2 : 2 ≤ p := by have := ex_pos hp; omega
          have := old (p / 2) (ex_up hT hp h2).1
          rw [nuS_o _ this.1 this.2]
      · by_cases e : p = x
        · subst e
          rw [upN_s, upB_s, if_pos rfl, nuS_l]
        · rw [upN_n _ _ (fun q => e (h.2.2.2 p x hp hx q)), up2_o _ hf.1 hf.2, upB_n _ _ e, h9.2.2.2.2.2.1, nuS_o _ (by omega) (by omega)]
    · subst e
      rw [nuS_l, up2_l, up2_l, up2_l, up2_l, upN_n _ _ (fun q => hfx.1 q.symm), up2_l, upB_n _ _ (by omega), hsk.1, if_neg (by omega), show 2 * x / 2 = x by omega, nuS_o _ (by omega) (by omega), cls_e h1, adr_e h1, hrk.1, h0.2.2.2.1]
      exact ⟨by omega, by omega, rfl, rfl, rfl, rfl, rfl⟩
    · subst e
      rw [nuS_r, up2_r, up2_r, up2_r, up2_r, upN_n _ _ (fun q => hfx.2 q.symm), up2_r, upB_n _ _ (by omega), hsk.2, if_neg (by omega), show (2 * x + 1) / 2 = x by omega, nuS_o _ (by omega) (by omega), cls_o h1, adr_o h1, hrk.2, adx]
      exact ⟨by omega, by omega, rfl, rfl, rfl, rfl, rfl⟩
  · by_cases e : p = x
    · subst e
      rw [nuS_l, nuS_r]
      exact ⟨rfl, hPe, hP2⟩
    · rw [upB_n _ _ e] at hp
      rw [nuS_o _ (by omega) (by omega), nuS_o _ (by omega) (by omega)]
      exact h.2.2.1 p hp
  · rcases (ex_split h1 hs).mp hp with hp | e1 | e1 <;> rcases (ex_split h1 hs).mp hq with hq | e2 | e2
    · rw [nuS_o _ (old p hp).1 (old p hp).2, nuS_o _ (old q hq).1 (old q hq).2] at e
      exact h.2.2.2 p q hp hq e
    · rw [e2, nuS_l, nuS_o _ (old p hp).1 (old p hp).2] at e
      exact absurd e (hfr p hp).1
    · rw [e2, nuS_r, nuS_o _ (old p hp).1 (old p hp).2] at e
      exact absurd e (hfr p hp).2
    · rw [e1, nuS_l, nuS_o _ (old q hq).1 (old q hq).2] at e
      exact absurd e.symm (hfr q hq).1
    · rw [e1, e2]
    · rw [e1, e2, nuS_l, nuS_r] at e; omega
    · rw [e1, nuS_r, nuS_o _ (old q hq).1 (old q hq).2] at e
      exact absurd e.symm (hfr q hq).2
    · rw [e1, e2, nuS_l, nuS_r] at e; omega
    · rw [e1, e2]
theorem kU_split (hR : RuleOK S L R rc top) (hT : TOK top S L R sp rq) (hU : kU top L R sp rq nu bad su un) {x P : Nat} (hx : ex sp x) (hs : sp x = false) (hb : ∀ p ∈ bad, p ∈ x :: ancs x) (hfr : ∀ p, ex sp p → nu p ≠ P ∧ nu p ≠ P + 1) :
    kU top L R (upB sp x true) rq (nuS nu x P) (x :: ancs x) (upN (upN su P (1 * 2 ^ L (cls top L R x))) (P + 1) (1 * 2 ^ R (cls top L R x))) (upN (upN un P 1) (P + 1) 1) := by
  have h1 := ex_pos hx
  have hn := not_ex_kids h1 hs
  have hrk := rq_kids hT h1 hs
  have hsk := sp_kids hT h1 hs
  intro p hp hnp
  rcases (ex_split h1 hs).mp hp with hp | e | e
  · have ho : p ≠ 2 * x ∧ p ≠ 2 * x + 1 := ⟨fun e => hn.1 (by rw [← e]; exact hp), fun e => hn.2 (by rw [← e]; exact hp)⟩
    have o := off_line (cl := cls top L R) hR hT (sp2 := upB sp x true) (rq2 := rq) (x := x) (fun y hy => upB_n _ _ hy) (fun _ _ => rfl) p hp hnp
    have hf := hfr p hp
    rw [nuS_o _ ho.1 ho.2, up2_o _ hf.1 hf.2, up2_o _ hf.1 hf.2, o.1, o.2.2]
    exact hU p hp (fun q => hnp (hb p q))
  · subst e
    have e1 : upB sp x true (2 * x) = false := by rw [upB_n _ _ (by omega)]; exact hsk.1
    rw [nuS_l, up2_l, up2_l, smy_n e1, lvs_n e1, hrk.1, cls_e h1]
    exact ⟨rfl, rfl⟩
  · subst e
    have e1 : upB sp x true (2 * x + 1) = false := by rw [upB_n _ _ (by omega)]; exact hsk.2
    rw [nuS_r, up2_r, up2_r, smy_n e1, lvs_n e1, hrk.2, cls_o h1]
    exact ⟨rfl, rfl⟩
/-- the pair that is taken lies off the tree; the spare ones behind it -/
theorem tp_fresh (h : kS top S L R sp rq nu mk pa ch kd ad ra) (hF : kF sp nu pa mk spare sl) (hm : mk % 2 = 0) (hm2 : 2 ≤ mk) : (∀ p, ex sp p → nu p ≠ tpP mk spare ∧ nu p ≠ tpP mk spare + 1) ∧ 2 ≤ tpP mk spare ∧ tpP mk spare % 2 = 0 ∧ tpP mk spare + 1 < tpM mk spare ∧ mk ≤ tpM mk spare ∧ tpM mk spare % 2 = 0 := by
  cases sl with
  | nil =>
    have e : spare = 0 := hF.1
    unfold tpP tpM
    rw [if_pos e, if_pos e]
    refine ⟨fun p hp => ?_, by omega, by omega, by omega, by omega, by omega⟩
    have := (h.2.1 p hp).2.1
    omega
  | cons i r =>
    have e : spare = i := hF.1.1
    have h9 := hF.2.2 i List.mem_cons_self
    unfold tpP tpM
    rw [if_neg (by omega), if_neg (by omega), e]
    exact ⟨h9.2.2.2, h9.1, h9.2.1, h9.2.2.1, Nat.le_refl _, hm⟩
theorem kF_split (h : kS top S L R sp rq nu mk pa ch kd ad ra) (hF : kF sp nu pa mk spare sl) (hm : mk % 2 = 0) (hm2 : 2 ≤ mk) {x v w : Nat} (hx : ex sp x) (hs : sp x = false) :
    kF (upB sp x true) (nuS nu x (tpP mk spare)) (upN (upN pa (tpP mk spare) v) (tpP mk spare + 1) w) (tpM mk spare) (tpS pa spare) sl.tail := by
  have h1 := ex_pos hx
  have hn := not_ex_kids h1 hs
  cases sl with
  | nil =>
    have e : spare = 0 := hF.1
    refine ⟨?_, List.nodup_nil, fun i hi => by cases hi⟩
    show tpS pa spare = 0
    unfold tpS
    rw [if_pos e, e]
  | cons i r =>
    have e : spare = i := hF.1.1
    have h9 := hF.2.2 i List.mem_cons_self
    have eP : tpP mk spare = i := by unfold tpP; rw [if_neg (by omega), e]
    have eS : tpS pa spare = pa i := by unfold tpS; rw [if_neg (by omega), e]
    have eM : tpM mk spare = mk := by unfold tpM; rw [if_neg (by omega)]
    have hnd := List.nodup_cons.mp hF.2.1
    rw [eP, eS, eM]
    have p1 : i + 1 ∉ r := fun q => by have := (hF.2.2 _ (List.mem_cons_of_mem _ q)).2.1; omega
    refine ⟨chn_off _ r _ p1 (chn_off _ r _ hnd.1 hF.1.2), hnd.2, fun j hj => ?_⟩
    have hj9 := hF.2.2 j (List.mem_cons_of_mem _ hj)
    have hji : j ≠ i := fun q => hnd.1 (by rw [← q]; exact hj)
    refine ⟨hj9.1, hj9.2.1, hj9.2.2.1, fun p hp => ?_⟩
    rcases (ex_split h1 hs).mp hp with hp | q | q
    · rw [nuS_o _ (fun q => hn.1 (by rw [← q]; exact hp)) (fun q => hn.2 (by rw [← q]; exact hp))]
      exact hj9.2.2.2 p hp
    · rw [q, nuS_l]
      exact ⟨by omega, by omega⟩
    · rw [q, nuS_r]
      exact ⟨by omega, by omega⟩
end PureF
