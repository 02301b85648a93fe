/-! The books: free nodes of each number, blocks, words asked for, words held. -/
def cF (cl : Nat → Nat) (sp : Nat → Bool) (rq : Nat → Nat) (k : Nat) : Nat := (lvs sp 1).countP (fun q => decide (rq q = 0) && decide (k = cl q))
def nB (sp : Nat → Bool) (rq : Nat → Nat) : Nat := (lvs sp 1).countP (fun q => decide (0 < rq q))
def sQ (sp : Nat → Bool) (rq : Nat → Nat) : Nat := ((lvs sp 1).map rq).sum
def sH (S cl : Nat → Nat) (sp : Nat → Bool) (rq : Nat → Nat) : Nat := ((lvs sp 1).map (fun q => if 0 < rq q then S (cl q) else 0)).sum
section PureI
variable {top : Nat} {S L R : Nat → Nat} {rc : Nat → Bool} {sp : Nat → Bool} {rq : Nat → Nat}
theorem lvs_dec (hR : RuleOK S L R rc top) (hT : TOK top S L R sp rq) {x : Nat} (hx : ex sp x) (hs : sp x = false) : ∃ l1 l2, lvs sp 1 = l1 ++ x :: l2 ∧ x ∉ l1 ∧ x ∉ l2 := by
  obtain ⟨l1, l2, e⟩ := List.append_of_mem (lvs_all hR hT hx hs)
  have hn := lvs_nodup hR hT (ex_1 (sp := sp))
  rw [e] at hn
  exact ⟨l1, l2, e, fun h => (List.nodup_append.mp hn).2.2 x h x List.mem_cons_self rfl, (List.nodup_cons.mp (List.nodup_append.mp hn).2.1).1⟩
/-- a free leaf counts -/
theorem cF_pos (hR : RuleOK S L R rc top) (hT : TOK top S L R sp rq) {x : Nat} (hx : ex sp x) (hs : sp x = false) (hr : rq x = 0) : 1 ≤ cF (cls top L R) sp rq (cls top L R x) := by
  unfold cF
  exact List.countP_pos_iff.mpr ⟨x, lvs_all hR hT hx hs, by simp [hr]⟩
theorem cF_split (hR : RuleOK S L R rc top) (hT : TOK top S L R sp rq) {x : Nat} (hx : ex sp x) (hs : sp x = false) (hr : rq x = 0) (hL : ¬ L (cls top L R x) = 0) (k : Nat) :
    cF (cls top L R) (upB sp x true) rq k + (if k = cls top L R x then 1 else 0) = cF (cls top L R) sp rq k + (if k = L (cls top L R x) then 1 else 0) + (if k = R (cls top L R x) then 1 else 0) := by
  obtain ⟨l1, l2, e, -, -⟩ := lvs_dec hR hT hx hs
  have h1 := ex_pos hx
  have hk := rq_kids hT h1 hs
  unfold cF
  rw [lvs_split_at hR hT hx hs hr hL e, e, List.countP_append, List.countP_append, List.countP_cons, List.countP_cons, List.countP_cons, cls_e h1, cls_o h1, hk.1, hk.2, hr]
  simp
  omega
theorem nB_split (hR : RuleOK S L R rc top) (hT : TOK top S L R sp rq) {x : Nat} (hx : ex sp x) (hs : sp x = false) (hr : rq x = 0) (hL : ¬ L (cls top L R x) = 0) :
    nB (upB sp x true) rq = nB sp rq ∧ sQ (upB sp x true) rq = sQ sp rq ∧ sH S (cls top L R) (upB sp x true) rq = sH S (cls top L R) sp rq ∧ (lvs (upB sp x true) 1).length = (lvs sp 1).length + 1 := by
  obtain ⟨l1, l2, e, -, -⟩ := lvs_dec hR hT hx hs
  have h1 := ex_pos hx
  have hk := rq_kids hT h1 hs
  unfold nB sQ sH
  rw [lvs_split_at hR hT hx hs hr hL e, e]
  simp [hk.1, hk.2, hr]
  omega
theorem cF_join (hR : RuleOK S L R rc top) (hT : TOK top S L R sp rq) {x : Nat} (h : joi sp rq x) (k : Nat) :
    cF (cls top L R) (upB sp x false) rq k + (if k = L (cls top L R x) then 1 else 0) + (if k = R (cls top L R x) then 1 else 0) = cF (cls top L R) sp rq k + (if k = cls top L R x then 1 else 0) := by
  have hT2 := TOK_join hT h
  have h0 := hT.1 x h.1
  have hx : ex (upB sp x false) x := (ex_join hT h).mpr ⟨h0.2.1, by omega, by omega⟩
  have := cF_split hR hT2 hx (upB_s _ _ _) (rq_sp hT h.1) h0.2.2 k
  rw [upB_u sp h.1] at this
  omega
theorem nB_join (hR : RuleOK S L R rc top) (hT : TOK top S L R sp rq) {x : Nat} (h : joi sp rq x) : nB (upB sp x false) rq = nB sp rq ∧ sQ (upB sp x false) rq = sQ sp rq ∧ sH S (cls top L R) (upB sp x false) rq = sH S (cls top L R) sp rq := by
  have hT2 := TOK_join hT h
  have h0 := hT.1 x h.1
  have hx : ex (upB sp x false) x := (ex_join hT h).mpr ⟨h0.2.1, by omega, by omega⟩
  have := nB_split hR hT2 hx (upB_s _ _ _) (rq_sp hT h.1) h0.2.2
  rw [upB_u sp h.1] at this
  exact ⟨this.1.symm, this.2.1.symm, this.2.2.1.symm⟩
theorem map_off {α : Type} {f g : Nat → α} {x : Nat} (hfg : ∀ y, y ≠ x → f y = g y) (l : List Nat) (h : x ∉ l) : l.map f = l.map g := List.map_congr_left (fun y hy => hfg y (fun e => h (by rw [← e]; exact hy)))
theorem cnt_off {f g : Nat → Bool} {x : Nat} (hfg : ∀ y, y ≠ x → f y = g y) (l : List Nat) (h : x ∉ l) : l.countP f = l.countP g := by
  refine List.countP_congr (fun y hy => ?_)
  rw [hfg y (fun e => h (by rw [← e]; exact hy))]
/-- a leaf gets another request -/
theorem cF_set (hR : RuleOK S L R rc top) (hT : TOK top S L R sp rq) {x w : Nat} (hx : ex sp x) (hs : sp x = false) (k : Nat) :
    cF (cls top L R) sp (upN rq x w) k + (if rq x = 0 ∧ k = cls top L R x then 1 else 0) = cF (cls top L R) sp rq k + (if w = 0 ∧ k = cls top L R x then 1 else 0) := by
  obtain ⟨l1, l2, e, n1, n2⟩ := lvs_dec hR hT hx hs
  have ho : ∀ y, y ≠ x → (fun q => decide (upN rq x w q = 0) && decide (k = cls top L R q)) y = (fun q => decide (rq q = 0) && decide (k = cls top L R q)) y := fun y hy => by
    show (decide (upN rq x w y = 0) && _) = _
    rw [upN_n _ _ hy]
  unfold cF
  rw [e, List.countP_append, List.countP_append, List.countP_cons, List.countP_cons, cnt_off ho l1 n1, cnt_off ho l2 n2]
  simp only [upN_s, Bool.and_eq_true, decide_eq_true_eq]
  omega
theorem nB_set (hR : RuleOK S L R rc top) (hT : TOK top S L R sp rq) {x w : Nat} (hx : ex sp x) (hs : sp x = false) :
    nB sp (upN rq x w) + (if 0 < rq x then 1 else 0) = nB sp rq + (if 0 < w then 1 else 0) ∧ sQ sp (upN rq x w) + rq x = sQ sp rq + w ∧ sH S (cls top L R) sp (upN rq x w) + (if 0 < rq x then S (cls top L R x) else 0) = sH S (cls top L R) sp rq + (if 0 < w then S (cls top L R x) else 0) := by
  obtain ⟨l1, l2, e, n1, n2⟩ := lvs_dec hR hT hx hs
  have o1 : ∀ y, y ≠ x → (fun q => decide (0 < upN rq x w q)) y = (fun q => decide (0 < rq q)) y := fun y hy => by
    show decide (0 < upN rq x w y) = _
    rw [upN_n _ _ hy]
  have o2 : ∀ y, y ≠ x → upN rq x w y = rq y := fun y hy => upN_n _ _ hy
  have o3 : ∀ y, y ≠ x → (fun q => if 0 < upN rq x w q then S (cls top L R q) else 0) y = (fun q => if 0 < rq q then S (cls top L R q) else 0) y := fun y hy => by
    show (if 0 < upN rq x w y then _ else _) = _
    rw [upN_n _ _ hy]
  unfold nB sQ sH
  rw [e, List.countP_append, List.countP_append, List.countP_cons, List.countP_cons, cnt_off o1 l1 n1, cnt_off o1 l2 n2, List.map_append, List.map_append, List.map_cons, List.map_cons, map_off o2 l1 n1, map_off o2 l2 n2, List.map_append, List.map_append, List.map_cons, List.map_cons, map_off o3 l1 n1, map_off o3 l2 n2]
  simp only [upN_s, decide_eq_true_eq, List.sum_append, List.sum_cons]
  refine ⟨?_, ?_, ?_⟩ <;> omega
theorem bk_join (f g : Nat → Nat) {A B C : Nat} (hA : A ≠ C) (hB : B ≠ C) (key : ∀ k, g k + (if k = A then 1 else 0) + (if k = B then 1 else 0) = f k + (if k = C then 1 else 0)) :
    1 ≤ f A ∧ 1 ≤ upN f A (f A - 1) B ∧ upN (upN (upN f A (f A - 1)) B (upN f A (f A - 1) B - 1)) C (upN (upN f A (f A - 1)) B (upN f A (f A - 1) B - 1) C + 1) = g := by
  have kA := key A
  have kB := key B
  rw [if_pos rfl, if_neg hA] at kA
  rw [if_neg hB] at kB
  refine ⟨by omega, ?_, ?_⟩
  · by_cases e : B = A
    · subst e
      rw [upN_s]
      rw [if_pos rfl] at kA
      omega
    · rw [upN_n _ _ e]
      rw [if_neg e, if_pos rfl] at kB
      omega
  · funext k
    have kk := key k
    by_cases e3 : k = C
    · rw [if_neg (fun q => hA (q.symm.trans e3)), if_neg (fun q => hB (q.symm.trans e3)), if_pos e3] at kk
      rw [e3] at kk ⊢
      rw [upN_s, upN_n _ _ (fun q => hB q.symm), upN_n _ _ (fun q => hA q.symm)]
      omega
    · rw [if_neg e3] at kk
      rw [upN_n _ _ e3]
      by_cases e2 : k = B
      · rw [if_pos e2] at kk
        rw [e2] at kk ⊢
        rw [upN_s]
        by_cases e1 : B = A
        · rw [if_pos e1] at kk
          rw [e1] at kk ⊢
          rw [upN_s]
          omega
        · rw [if_neg e1] at kk
          rw [upN_n _ _ e1]
          omega
      · rw [if_neg e2] at kk
        rw [upN_n _ _ e2]
        by_cases e1 : k = A
        · rw [if_pos e1] at kk
          rw [e1] at kk ⊢
          rw [upN_s]
          omega
        · rw [if_neg e1] at kk
          rw [upN_n _ _ e1]
          omega
theorem bk_split (f g : Nat → Nat) {A B C : Nat} (hA : A ≠ C) (hB : B ≠ C) (hC : 1 ≤ f C) (key : ∀ k, g k + (if k = C then 1 else 0) = f k + (if k = A then 1 else 0) + (if k = B then 1 else 0)) :
    upN (upN (upN f C (f C - 1)) A (upN f C (f C - 1) A + 1)) B (upN (upN f C (f C - 1)) A (upN f C (f C - 1) A + 1) B + 1) = g := by
  funext k
  have kk := key k
  by_cases e2 : k = B
  · rw [if_pos e2, if_neg (fun q => hB (e2.symm.trans q))] at kk
    rw [e2] at kk ⊢
    rw [upN_s]
    by_cases e1 : B = A
    · rw [if_pos e1] at kk
      rw [e1] at kk ⊢
      rw [upN_s, upN_n _ _ hA]
      omega
    · rw [if_neg e1] at kk
      rw [upN_n _ _ e1, upN_n _ _ hB]
      omega
  · rw [if_neg e2] at kk
    rw [upN_n _ _ e2]
    by_cases e1 : k = A
    · rw [if_pos e1, if_neg (fun q => hA (e1.symm.trans q))] at kk
      rw [e1] at kk ⊢
      rw [upN_s, upN_n _ _ hA]
      omega
    · rw [if_neg e1] at kk
      rw [upN_n _ _ e1]
      by_cases e3 : k = C
      · rw [if_pos e3] at kk
        rw [e3] at kk ⊢
        rw [upN_s]
        omega
      · rw [if_neg e3] at kk
        rw [upN_n _ _ e3]
        omega
/-- the rows of the books -/
def mI (top : Nat) (S L R : Nat → Nat) (sp : Nat → Bool) (rq fo : Nat → Nat) (bl rd hd : Nat) : Prop := fo = cF (cls top L R) sp rq ∧ bl = nB sp rq ∧ rd = sQ sp rq ∧ hd = sH S (cls top L R) sp rq
theorem mI_unite (hR : RuleOK S L R rc top) (hT : TOK top S L R sp rq) {fo : Nat → Nat} {bl rd hd x : Nat} (h : mI top S L R sp rq fo bl rd hd) (hj : joi sp rq x) :
    1 ≤ fo (L (cls top L R x)) ∧ 1 ≤ upN fo (L (cls top L R x)) (fo (L (cls top L R x)) - 1) (R (cls top L R x)) ∧
    mI top S L R (upB sp x false) rq (upN (upN (upN fo (L (cls top L R x)) (fo (L (cls top L R x)) - 1)) (R (cls top L R x)) (upN fo (L (cls top L R x)) (fo (L (cls top L R x)) - 1) (R (cls top L R x)) - 1)) (cls top L R x) (upN (upN fo (L (cls top L R x)) (fo (L (cls top L R x)) - 1)) (R (cls top L R x)) (upN fo (L (cls top L R x)) (fo (L (cls top L R x)) - 1) (R (cls top L R x)) - 1) (cls top L R x) + 1)) bl rd hd := by
  obtain ⟨rfl, rfl, rfl, rfl⟩ := h
  have hk := sp_sides hR hT hj.1
  have nb := nB_join (S := S) hR hT hj
  obtain ⟨b1, b2, b3⟩ := bk_join (cF (cls top L R) sp rq) (cF (cls top L R) (upB sp x false) rq) (A := L (cls top L R x)) (B := R (cls top L R x)) (C := cls top L R x) (fun e => by rw [e] at hk; omega) (fun e => by rw [e] at hk; omega) (cF_join hR hT hj)
  exact ⟨b1, b2, b3, nb.1.symm, nb.2.1.symm, nb.2.2.symm⟩
theorem mI_split (hR : RuleOK S L R rc top) (hT : TOK top S L R sp rq) {fo : Nat → Nat} {bl rd hd x : Nat} (h : mI top S L R sp rq fo bl rd hd) (hx : ex sp x) (hs : sp x = false) (hr : rq x = 0) (hL : ¬ L (cls top L R x) = 0) :
    1 ≤ fo (cls top L R x) ∧
    mI top S L R (upB sp x true) rq (upN (upN (upN fo (cls top L R x) (fo (cls top L R x) - 1)) (L (cls top L R x)) (upN fo (cls top L R x) (fo (cls top L R x) - 1) (L (cls top L R x)) + 1)) (R (cls top L R x)) (upN (upN fo (cls top L R x) (fo (cls top L R x) - 1)) (L (cls top L R x)) (upN fo (cls top L R x) (fo (cls top L R x) - 1) (L (cls top L R x)) + 1) (R (cls top L R x)) + 1)) bl rd hd := by
  obtain ⟨rfl, rfl, rfl, rfl⟩ := h
  have hp := cF_pos hR hT hx hs hr
  have hT2 := TOK_split hR hT hx hs hr hL
  have hk := sp_sides hR hT2 (upB_s sp x true)
  have nb := nB_split (S := S) hR hT hx hs hr hL
  exact ⟨hp, bk_split (cF (cls top L R) sp rq) (cF (cls top L R) (upB sp x true) rq) (A := L (cls top L R x)) (B := R (cls top L R x)) (C := cls top L R x) (fun e => by rw [e] at hk; omega) (fun e => by rw [e] at hk; omega) hp (cF_split hR hT hx hs hr hL), nb.1.symm, nb.2.1.symm, nb.2.2.1.symm⟩
end PureI
