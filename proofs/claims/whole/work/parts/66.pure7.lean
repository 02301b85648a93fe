/-! The rows' bounds; all that is known of the rows of a tree. -/
def aOK (n : Nat) (pa ch kd ad ra su un : Nat → Nat) : Prop :=
  (∀ i, pa i < n) ∧ (∀ i, ch i + 1 < n) ∧ (∀ i, ch i % 2 = 0) ∧ (∀ i, kd i ≤ 24) ∧ (∀ i, ad i < 2 ^ 31) ∧ (∀ i, ra i < 2 ^ 31) ∧ (∀ i, su i < 2 ^ 31) ∧ (∀ i, un i < 2 ^ 31) ∧
  ((∀ j, n ≤ j → pa j = 0) ∧ (∀ j, n ≤ j → ch j = 0) ∧ (∀ j, n ≤ j → kd j = 0) ∧ (∀ j, n ≤ j → ad j = 0) ∧ (∀ j, n ≤ j → ra j = 0) ∧ (∀ j, n ≤ j → su j = 0) ∧ (∀ j, n ≤ j → un j = 0))
/-- the rows hold the memory; the sums are right but at the nodes of bad -/
def tI (top : Nat) (S L R : Nat → Nat) (sp : Nat → Bool) (rq nu : Nat → Nat) (bad : List Nat) (n mk spare : Nat) (pa ch kd ad ra su un : Nat → Nat) : Prop :=
  TOK top S L R sp rq ∧ kS top S L R sp rq nu mk pa ch kd ad ra ∧ kU top L R sp rq nu bad su un ∧ (∃ sl, kF sp nu pa mk spare sl ∧ 2 * sl.length + 2 * (lvs sp 1).length = mk) ∧ aOK n pa ch kd ad ra su un ∧ mk % 2 = 0 ∧ 2 ≤ mk ∧ mk ≤ n ∧ n % 2 = 0 ∧ 64 ≤ n
section PureG
variable {top : Nat} {S L R : Nat → Nat} {rc : Nat → Bool} {sp : Nat → Bool} {rq nu : Nat → Nat} {mk n spare : Nat} {pa ch kd ad ra su un : Nat → Nat} {bad : List Nat}
theorem pow_kd {k : Nat} (h : k ≤ 24) : 1 * 2 ^ k < 2 ^ 31 := by
  rw [Nat.one_mul]
  exact Nat.pow_lt_pow_right (by decide) (by omega)
theorem aOK_set (h : aOK n pa ch kd ad ra su un) {i w : Nat} (hi : i < n) (hw : w < 2 ^ 31) : aOK n pa ch kd ad (upN ra i w) (upN su i (if w = 0 then 1 * 2 ^ kd i else 33554432)) un := by
  obtain ⟨a1, a2, a3, a4, a5, a6, a7, a8, z1, z2, z3, z4, z5, z6, z7⟩ := h
  refine ⟨a1, a2, a3, a4, a5, upN_lt a6 hw, upN_lt a7 ?_, a8, z1, z2, z3, z4, upN_z z5 hi, upN_z z6 hi, z7⟩
  split
  · exact pow_kd (a4 i)
  · decide
theorem aOK_unite (h : aOK n pa ch kd ad ra su un) {i cc v : Nat} (hi : i < n) (hc : cc < n) (hv : v < n) : aOK n (upN pa cc v) (upN ch i 0) kd ad (upN ra i 0) (upN su i (1 * 2 ^ kd i)) (upN un i 1) := by
  obtain ⟨a1, a2, a3, a4, a5, a6, a7, a8, z1, z2, z3, z4, z5, z6, z7⟩ := h
  have h2 : 0 + 1 < n := by have := a2 0; omega
  exact ⟨upN_lt a1 hv, upN_all (P := fun z => z + 1 < n) a2 h2, upN_all (P := fun z => z % 2 = 0) a3 rfl, a4, a5, upN_lt a6 (by decide), upN_lt a7 (pow_kd (a4 i)), upN_lt a8 (by decide), upN_z z1 hc, upN_z z2 hi, z3, z4, upN_z z5 hi, upN_z z6 hi, upN_z z7 hi⟩
theorem aOK_split (h : aOK n pa ch kd ad ra su un) {i P N lc rd lz : Nat} (hN : n ≤ N) (hi : i < n) (hP : P + 1 < N) (hPe : P % 2 = 0) (h1 : lc ≤ 24) (h2 : rd ≤ 24) (hz : ad i + lz < 2 ^ 31) (hfr : i ≠ P) :
    aOK N (upN (upN pa P i) (P + 1) i) (upN (upN (upN ch P 0) (P + 1) 0) i P) (upN (upN kd P lc) (P + 1) rd) (upN (upN ad P (ad i)) (P + 1) (upN ad P (ad i) i + lz)) (upN (upN ra P 0) (P + 1) 0) (upN (upN su P (1 * 2 ^ lc)) (P + 1) (1 * 2 ^ rd)) (upN (upN un P 1) (P + 1) 1) := by
  obtain ⟨a1, a2, a3, a4, a5, a6, a7, a8, z1, z2, z3, z4, z5, z6, z7⟩ := h
  have w : ∀ {f : Nat → Nat}, (∀ j, n ≤ j → f j = 0) → ∀ j, N ≤ j → f j = 0 := fun hf j hj => hf j (by omega)
  have hP0 : P < N := by omega
  have e : upN ad P (ad i) i = ad i := upN_n _ _ hfr
  have a2' : ∀ j, ch j + 1 < N := fun j => by have := a2 j; omega
  refine ⟨upN_lt (upN_lt (fun j => by have := a1 j; omega) (by omega)) (by omega), upN_all (P := fun z => z + 1 < N) (upN_all (P := fun z => z + 1 < N) (upN_all (P := fun z => z + 1 < N) a2' (by omega)) (by omega)) hP, upN_all (P := fun z => z % 2 = 0) (upN_all (P := fun z => z % 2 = 0) (upN_all (P := fun z => z % 2 = 0) a3 rfl) rfl) hPe, upN_le (upN_le a4 h1) h2, upN_lt (upN_lt a5 (a5 i)) (by rw [e]; exact hz), upN_lt (upN_lt a6 (by decide)) (by decide), upN_lt (upN_lt a7 (pow_kd h1)) (pow_kd h2), upN_lt (upN_lt a8 (by decide)) (by decide), ?_⟩
  exact ⟨upN_z (upN_z (w z1) hP0) hP, upN_z (upN_z (upN_z (w z2) hP0) hP) (by omega), upN_z (upN_z (w z3) hP0) hP, upN_z (upN_z (w z4) hP0) hP, upN_z (upN_z (w z5) hP0) hP, upN_z (upN_z (w z6) hP0) hP, upN_z (upN_z (w z7) hP0) hP⟩
theorem aOK_ref (hR : RuleOK S L R rc top) (hT : TOK top S L R sp rq) (h : kS top S L R sp rq nu mk pa ch kd ad ra) (hmn : mk ≤ n) : ∀ (k y : Nat) (su un : Nat → Nat), ex sp y → dep y ≤ k → kU top L R sp rq nu (ancs y) su un → aOK n pa ch kd ad ra su un →
    aOK n pa ch kd ad ra (fRef pa ch ra k (pa (nu y), su, un)).2.1 (fRef pa ch ra k (pa (nu y), su, un)).2.2 := by
  intro k
  induction k with
  | zero => intro y su un _ _ _ hA; exact hA
  | succ k ih =>
    intro y su un hy hd hU hA
    by_cases e : y = 1
    · subst e
      have hp := (h.2.1 1 hy).2.2.2.2.1
      rw [if_pos rfl] at hp
      have : fRef pa ch ra (k + 1) (pa (nu 1), su, un) = (pa (nu 1), su, un) := mDes_e (Or.inl (decide_eq_true hp))
      rw [this]
      exact hA
    · have h2 : 2 ≤ y := by have := ex_pos hy; omega
      obtain ⟨u1, u2⟩ := ex_up hT hy h2
      have hp := (h.2.1 y hy).2.2.2.2.1
      rw [if_neg e] at hp
      have hj := h.2.1 (y / 2) u1
      have hk := kS_kid hR hT h u2
      have h1 : 1 ≤ y / 2 := by omega
      have st : fRef pa ch ra (k + 1) (pa (nu y), su, un) = fRef pa ch ra k (pa (nu (y / 2)), upN su (nu (y / 2)) (if isFP ch ra (nu (y / 2)) then (su (ch (nu (y / 2))) ||| su (ch (nu (y / 2)) + 1)) ||| 1 else su (ch (nu (y / 2))) ||| su (ch (nu (y / 2)) + 1)), upN un (nu (y / 2)) (un (ch (nu (y / 2))) + un (ch (nu (y / 2)) + 1))) := by
        rw [hp]
        exact mDes_s (k := k + 1) (decide_eq_false (show ¬ nu (y / 2) = 0 by omega)) (by omega) rfl
      have nl : ∀ z, y / 2 < z → z ∉ y / 2 :: ancs (y / 2) := fun z hz q => by
        rcases List.mem_cons.mp q with w | w
        · omega
        · have := ancs_lt _ _ w
          omega
      have hU2 := hU
      rw [ancs_s h2] at hU2
      have a := hU2 _ (ex_l h1 u2) (nl _ (by omega))
      have b := hU2 _ (ex_r h1 u2) (nl _ (by omega))
      have hs := sp_sides hR hT u2
      have b1 := (nl_le hR hT _ (ex_l h1 u2)).2
      have b2 := (nl_le hR hT _ (ex_r h1 u2)).2
      rw [cls_e h1] at b1
      rw [cls_o h1] at b2
      have b3 := (S_pos hR hT u1).2.1
      have hsum : un (ch (nu (y / 2))) + un (ch (nu (y / 2)) + 1) < 2 ^ 31 := by
        rw [hk.1, ← hk.2.2.2, a.2, b.2]
        omega
      rw [st]
      obtain ⟨a1, a2, a3, a4, a5, a6, a7, a8, z1, z2, z3, z4, z5, z6, z7⟩ := hA
      have o1 := Nat.or_lt_two_pow (a7 (ch (nu (y / 2)))) (a7 (ch (nu (y / 2)) + 1))
      refine ih (y / 2) _ _ u1 (by rw [dep, if_neg (by omega)] at hd; omega) (fun p hx hn => ?_) ⟨a1, a2, a3, a4, a5, a6, upN_lt a7 ?_, upN_lt a8 hsum, z1, z2, z3, z4, z5, upN_z z6 (by omega), upN_z z7 (by omega)⟩
      · by_cases e2 : p = y / 2
        · subst e2
          rw [upN_s, upN_s, isFP_isf hR hT h u2, hk.1, ← hk.2.2.2, a.1, a.2, b.1, b.2, smy_s0 h1 (ex_lt hR hT u1) u2, lvs_s0 h1 (ex_lt hR hT u1) u2, List.length_append]
          exact ⟨rfl, rfl⟩
        · have ne : nu p ≠ nu (y / 2) := fun q => e2 (h.2.2.2 p _ hx u1 q)
          rw [upN_n _ _ ne, upN_n _ _ ne]
          exact hU2 p hx (fun q => (List.mem_cons.mp q).elim e2 hn)
      · split
        · exact Nat.or_lt_two_pow o1 (by decide)
        · exact o1
/-! the four changes -/
theorem tI_lt (h : tI top S L R sp rq nu bad n mk spare pa ch kd ad ra su un) {p : Nat} (hx : ex sp p) : 1 ≤ nu p ∧ nu p < n := by
  have h1 := h.2.1.2.1 p hx
  have h2 := h.2.2.2.2.2.2.2.1
  exact ⟨h1.1, by omega⟩
theorem tI_sp (h : tI top S L R sp rq nu bad n mk spare pa ch kd ad ra su un) : spare + 1 < n := by
  obtain ⟨sl, hF, -⟩ := h.2.2.2.1
  have hm := h.2.2.2.2.2.2.2
  cases sl with
  | nil => have : spare = 0 := hF.1; omega
  | cons i r =>
    have e : spare = i := hF.1.1
    have := (hF.2.2 i List.mem_cons_self).2.2.1
    omega
theorem tI_set (hR : RuleOK S L R rc top) (h : tI top S L R sp rq nu bad n mk spare pa ch kd ad ra su un) {x w : Nat} (hx : ex sp x) (hs : sp x = false) (hw : w ≤ S (cls top L R x)) (hb : ∀ p ∈ bad, p ∈ ancs x) :
    tI top S L R sp (upN rq x w) nu (ancs x) n mk spare pa ch kd ad (upN ra (nu x) w) (upN su (nu x) (if w = 0 then 1 * 2 ^ kd (nu x) else 33554432)) un := by
  have hl := tI_lt h hx
  obtain ⟨hT, hS, hU, hF, hA, hm⟩ := h
  have hxb : x ∉ bad := fun q => by have := (ancs_lt x x (hb x q)).2; omega
  have hwl : w < 2 ^ 31 := by have := (S_pos hR hT hx).2.1; omega
  exact ⟨TOK_set hT hx hs hw, kS_set hS hx, (kU_set hR hT hS hU hx hs (fun p hp => List.mem_cons_of_mem _ (hb p hp))).resolve_right hxb, hF, aOK_set hA hl.2 hwl, hm⟩
theorem tI_unite (hR : RuleOK S L R rc top) (h : tI top S L R sp rq nu bad n mk spare pa ch kd ad ra su un) {x : Nat} (hj : joi sp rq x) (hb : ∀ p ∈ bad, p ∈ x :: ancs x) :
    tI top S L R (upB sp x false) rq nu (ancs x) n mk (ch (nu x)) (upN pa (ch (nu x)) spare) (upN ch (nu x) 0) kd ad (upN ra (nu x) 0) (upN su (nu x) (1 * 2 ^ kd (nu x))) (upN un (nu x) 1) := by
  have hT := h.1
  have h0 := hT.1 x hj.1
  have hl := tI_lt h h0.2.1
  have hl2 := tI_lt h (ex_l h0.1 hj.1)
  have hsp := tI_sp h
  have hk := kS_kid hR hT h.2.1 hj.1
  obtain ⟨-, hS, hU, ⟨sl, hF, hle⟩, hA, hm⟩ := h
  have hlj := len_join hR hT hj
  rw [hk.1]
  exact ⟨TOK_join hT hj, kS_unite hT hS hj, kU_unite hR hT hS hU hj hb, ⟨_, kF_unite hT hS hF hj, by rw [List.length_cons]; omega⟩, aOK_unite hA hl.2 hl2.2 (by omega), hm⟩
theorem tI_ref (hR : RuleOK S L R rc top) (h : tI top S L R sp rq nu bad n mk spare pa ch kd ad ra su un) {x : Nat} (hx : ex sp x) (hb : ∀ p ∈ bad, p ∈ ancs x) :
    tI top S L R sp rq nu [] n mk spare pa ch kd ad ra (fRef pa ch ra 24 (pa (nu x), su, un)).2.1 (fRef pa ch ra 24 (pa (nu x), su, un)).2.2 := by
  obtain ⟨hT, hS, hU, hF, hA, hm⟩ := h
  have hd := dep_23 hR hT x hx
  have hU2 : kU top L R sp rq nu (ancs x) su un := fun p hp hn => hU p hp (fun q => hn (hb p q))
  exact ⟨hT, hS, kU_ref hR hT hS 24 x su un hx (by omega) hU2, hF, aOK_ref hR hT hS hm.2.2.1 24 x su un hx (by omega) hU2 hA, hm⟩
theorem adr_le (hR : RuleOK S L R rc top) (hT : TOK top S L R sp rq) : ∀ p, ex sp p → adr top S L R p + S (cls top L R p) ≤ S top := by
  refine ex_ind hT ?_ (fun p h1 hx hs hp => ?_)
  · rw [adr_1, cls_1]; omega
  · have hk := sp_sides hR hT hs
    rw [adr_e h1, adr_o h1, cls_e h1, cls_o h1]
    omega
theorem len_split (hR : RuleOK S L R rc top) (hT : TOK top S L R sp rq) {x : Nat} (hx : ex sp x) (hs : sp x = false) (hr : rq x = 0) (hL : ¬ L (cls top L R x) = 0) : (lvs (upB sp x true) 1).length = (lvs sp 1).length + 1 := by
  obtain ⟨l1, l2, e⟩ := List.append_of_mem (lvs_all hR hT hx hs)
  rw [lvs_split_at hR hT hx hs hr hL e, e]
  simp
  omega
theorem tp_len {sl : List Nat} (hF : kF sp nu pa mk spare sl) (hle : 2 * sl.length + 2 * (lvs sp 1).length = mk) {m : Nat} (hm : m = (lvs sp 1).length + 1) : 2 * sl.tail.length + 2 * m = tpM mk spare := by
  cases sl with
  | nil =>
    have e : spare = 0 := hF.1
    unfold tpM
    rw [if_pos e]
    simp at hle ⊢
    omega
  | cons i r =>
    have e : spare = i := hF.1.1
    have h9 := hF.2.2 i List.mem_cons_self
    unfold tpM
    rw [if_neg (by omega)]
    simp at hle ⊢
    omega
theorem tI_split (hR : RuleOK S L R rc top) (h : tI top S L R sp rq nu bad n mk spare pa ch kd ad ra su un) {x : Nat} (hx : ex sp x) (hs : sp x = false) (hr : rq x = 0) (hL : ¬ L (cls top L R x) = 0) (hb : ∀ p ∈ bad, p ∈ x :: ancs x) :
    tI top S L R (upB sp x true) rq (nuS nu x (tpP mk spare)) (x :: ancs x) (tpN n mk spare) (tpM mk spare) (tpS pa spare)
      (upN (upN pa (tpP mk spare) (nu x)) (tpP mk spare + 1) (nu x)) (upN (upN (upN ch (tpP mk spare) 0) (tpP mk spare + 1) 0) (nu x) (tpP mk spare)) (upN (upN kd (tpP mk spare) (L (cls top L R x))) (tpP mk spare + 1) (R (cls top L R x)))
      (upN (upN ad (tpP mk spare) (ad (nu x))) (tpP mk spare + 1) (upN ad (tpP mk spare) (ad (nu x)) (nu x) + S (L (cls top L R x)))) (upN (upN ra (tpP mk spare) 0) (tpP mk spare + 1) 0) (upN (upN su (tpP mk spare) (1 * 2 ^ L (cls top L R x))) (tpP mk spare + 1) (1 * 2 ^ R (cls top L R x))) (upN (upN un (tpP mk spare) 1) (tpP mk spare + 1) 1) := by
  have hT := h.1
  have hl := tI_lt h hx
  have hsp := tI_sp h
  obtain ⟨-, hS, hU, ⟨sl, hF, hle⟩, hA, hm1, hm2, hm3, hn1, hn2⟩ := h
  have hf := tp_fresh hS hF hm1 hm2
  have hN := tpN_le n mk spare
  have hP := tpP_lt hm3 (by omega) hsp
  have hrc := cls_rc hR hT x hx
  have hT2 := TOK_split hR hT hx hs hr hL
  have hk := sp_sides hR hT2 (upB_s sp x true)
  have k1 := hR.2.1 _ hk.1
  have k2 := hR.2.1 _ hk.2.1
  have ha := adr_le hR hT x hx
  have htop := (hR.2.1 top hR.1).2.2.2.1
  have hadx := (hS.2.1 x hx).2.2.2.1
  refine ⟨hT2, kS_split hT hS hx hs hf.1 hf.2.1 hf.2.2.1 hf.2.2.2.2.1 hf.2.2.2.1, kU_split hR hT hU hx hs hb hf.1, ⟨_, kF_split hS hF hm1 hm2 hx hs, tp_len hF hle (len_split hR hT hx hs hr hL)⟩, aOK_split hA hN.1 hl.2 hP hf.2.2.1 k1.2.1 k2.2.1 (by rw [hadx]; omega) (hf.1 x hx).1, hf.2.2.2.2.2, ?_, ?_, ?_, by omega⟩
  · omega
  · unfold tpM tpN
    by_cases e : spare = 0
    · rw [if_pos e]
      split <;> omega
    · rw [if_neg e, if_neg (by omega)]
      exact hm3
  · unfold tpN
    split <;> omega
end PureG
