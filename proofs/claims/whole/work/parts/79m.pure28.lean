/-! Replaying a script. A state: what is split, the requests, what each entry gave, joins, splits, the rows' length and how many are made, gives, frees. -/
def gvZ (top : Nat) (S L R : Nat → Nat) (w i : Nat) (z : (Nat → Bool) × (Nat → Nat) × (Nat → Nat) × Nat × Nat × Nat × Nat × Nat × Nat) : (Nat → Bool) × (Nat → Nat) × (Nat → Nat) × Nat × Nat × Nat × Nat × Nat × Nat :=
  ((gC S L R (cls top L R) z.2.1 w z.1).1, gQ S L R (cls top L R) z.2.1 w z.1, upN z.2.2.1 i (gC S L R (cls top L R) z.2.1 w z.1).2.1, z.2.2.2.1 + ((lvs z.1 1).length - (lvs (gS1 S (cls top L R) z.2.1 w z.1) 1).length), z.2.2.2.2.1 + (gC S L R (cls top L R) z.2.1 w z.1).2.2,
   dbl z.2.2.2.2.2.1 (max z.2.2.2.2.2.2.1 (2 * (lvs (gC S L R (cls top L R) z.2.1 w z.1).1 1).length)), max z.2.2.2.2.2.2.1 (2 * (lvs (gC S L R (cls top L R) z.2.1 w z.1).1 1).length), z.2.2.2.2.2.2.2.1 + (if (gC S L R (cls top L R) z.2.1 w z.1).2.1 = 0 then 0 else 1), z.2.2.2.2.2.2.2.2)
def jnZ (z : (Nat → Bool) × (Nat → Nat) × (Nat → Nat) × Nat × Nat × Nat × Nat × Nat × Nat) : (Nat → Bool) × (Nat → Nat) × (Nat → Nat) × Nat × Nat × Nat × Nat × Nat × Nat :=
  (jal z.1 z.2.1, z.2.1, z.2.2.1, z.2.2.2.1 + ((lvs z.1 1).length - (lvs (jal z.1 z.2.1) 1).length), z.2.2.2.2)
def frZ (top : Nat) (L R kp : Nat → Nat) (e : Nat) (z : (Nat → Bool) × (Nat → Nat) × (Nat → Nat) × Nat × Nat × Nat × Nat × Nat × Nat) : (Nat → Bool) × (Nat → Nat) × (Nat → Nat) × Nat × Nat × Nat × Nat × Nat × Nat :=
  ((aUp (cls top L R) kp (upN z.2.1 (z.2.2.1 e) 0) 24 (z.1, z.2.2.1 e, 0)).1, upN z.2.1 (z.2.2.1 e) 0, upN z.2.2.1 e 0, z.2.2.2.1 + (aUp (cls top L R) kp (upN z.2.1 (z.2.2.1 e) 0) 24 (z.1, z.2.2.1 e, 0)).2.2, z.2.2.2.2.1, z.2.2.2.2.2.1, z.2.2.2.2.2.2.1, z.2.2.2.2.2.2.2.1, z.2.2.2.2.2.2.2.2 + 1)
def rpOne (top : Nat) (S L R kp : Nat → Nat) (v : Int32) (i : Nat) (z : (Nat → Bool) × (Nat → Nat) × (Nat → Nat) × Nat × Nat × Nat × Nat × Nat × Nat) : Bool × (Nat → Bool) × (Nat → Nat) × (Nat → Nat) × Nat × Nat × Nat × Nat × Nat × Nat :=
  if 0 < v then (if 256 ≤ nB z.1 z.2.1 then (false, z.1, z.2.1, upN z.2.2.1 i 0, z.2.2.2) else (decide (¬ (gC S L R (cls top L R) z.2.1 v.toNatClampNeg z.1).2.1 = 0), gvZ top S L R v.toNatClampNeg i z))
  else if v = 0 then (true, jnZ z)
  else if 256 ≤ (-1 - v).toNatClampNeg ∨ z.2.2.1 (-1 - v).toNatClampNeg = 0 then (false, z) else (true, frZ top L R kp (-1 - v).toNatClampNeg z)
def rpN (top : Nat) (S L R kp : Nat → Nat) (scr : Nat → Int32) : Nat → Nat → (Nat → Bool) × (Nat → Nat) × (Nat → Nat) × Nat × Nat × Nat × Nat × Nat × Nat → Nat × (Nat → Bool) × (Nat → Nat) × (Nat → Nat) × Nat × Nat × Nat × Nat × Nat × Nat
  | 0, _, z => (0, z)
  | k + 1, i, z => if (rpOne top S L R kp (scr i) i z).1 then rpN top S L R kp scr k (i + 1) (rpOne top S L R kp (scr i) i z).2 else (1 + i, (rpOne top S L R kp (scr i) i z).2)
/-- what the entries gave are blocks, each its own -/
def gvOK (rq gv : Nat → Nat) (i : Nat) : Prop := (∀ j, gv j ≠ 0 → 0 < rq (gv j)) ∧ (∀ j k, gv j ≠ 0 → gv j = gv k → j = k) ∧ ∀ j, i ≤ j → gv j = 0
theorem rp_pos {v : Int32} (h : 0 < v) : ∃ w, 1 ≤ w ∧ w < 2 ^ 31 ∧ v = nI w ∧ v.toNatClampNeg = w := by
  have h1 : ¬ v < 0 := fun q => Int32.lt_irrefl (Int32.lt_trans q h)
  obtain ⟨j, hj, e⟩ := nI_of h1
  subst e
  refine ⟨j, ?_, hj, rfl, nI_clamp hj⟩
  rw [← nI_0] at h
  exact (nI_ltI (by decide) hj).mp h
theorem rp_neg {v : Int32} (h : v < 0) : ∃ e, e < 2 ^ 31 ∧ -1 - v = nI e ∧ (-1 - v).toNatClampNeg = e := by
  have h1 : ¬ (-1 - v) < 0 := by
    intro q
    have a := Int32.lt_iff_toInt_lt.mp h
    have b := Int32.lt_iff_toInt_lt.mp q
    have c1 := Int32.toInt_lt v
    have c2 := Int32.le_toInt v
    rw [Int32.toInt_sub, show (-1 : Int32).toInt = -1 by decide, show (0 : Int32).toInt = 0 by decide] at b
    rw [show (0 : Int32).toInt = 0 by decide] at a
    rw [Int.bmod_eq_of_le (by omega) (by omega)] at b
    omega
  obtain ⟨j, hj, e⟩ := nI_of h1
  exact ⟨j, hj, e, by rw [e]; exact nI_clamp hj⟩
theorem rp_g {top : Nat} {S L R kp : Nat → Nat} {v : Int32} {w i : Nat} {z : (Nat → Bool) × (Nat → Nat) × (Nat → Nat) × Nat × Nat × Nat × Nat × Nat × Nat} (h : 0 < v) (e : v.toNatClampNeg = w) (hb : ¬ 256 ≤ nB z.1 z.2.1) :
    rpOne top S L R kp v i z = (decide (¬ (gC S L R (cls top L R) z.2.1 w z.1).2.1 = 0), gvZ top S L R w i z) := by
  unfold rpOne
  rw [if_pos h, if_neg hb, e]
theorem rp_f {top : Nat} {S L R kp : Nat → Nat} {v : Int32} {i : Nat} {z : (Nat → Bool) × (Nat → Nat) × (Nat → Nat) × Nat × Nat × Nat × Nat × Nat × Nat} (h : 0 < v) (hb : 256 ≤ nB z.1 z.2.1) :
    rpOne top S L R kp v i z = (false, z.1, z.2.1, upN z.2.2.1 i 0, z.2.2.2) := by
  unfold rpOne
  rw [if_pos h, if_pos hb]
theorem rp_j {top : Nat} {S L R kp : Nat → Nat} {v : Int32} {i : Nat} {z : (Nat → Bool) × (Nat → Nat) × (Nat → Nat) × Nat × Nat × Nat × Nat × Nat × Nat} (h : ¬ 0 < v) (h0 : v = 0) : rpOne top S L R kp v i z = (true, jnZ z) := by
  unfold rpOne
  rw [if_neg h, if_pos h0]
theorem rp_n {top : Nat} {S L R kp : Nat → Nat} {v : Int32} {e i : Nat} {z : (Nat → Bool) × (Nat → Nat) × (Nat → Nat) × Nat × Nat × Nat × Nat × Nat × Nat} (h : ¬ 0 < v) (h0 : ¬ v = 0) (he : (-1 - v).toNatClampNeg = e) (hc : 256 ≤ e ∨ z.2.2.1 e = 0) : rpOne top S L R kp v i z = (false, z) := by
  unfold rpOne
  rw [if_neg h, if_neg h0, he, if_pos hc]
theorem rp_b {top : Nat} {S L R kp : Nat → Nat} {v : Int32} {e i : Nat} {z : (Nat → Bool) × (Nat → Nat) × (Nat → Nat) × Nat × Nat × Nat × Nat × Nat × Nat} (h : ¬ 0 < v) (h0 : ¬ v = 0) (he : (-1 - v).toNatClampNeg = e) (hc : ¬ (256 ≤ e ∨ z.2.2.1 e = 0)) : rpOne top S L R kp v i z = (true, frZ top L R kp e z) := by
  unfold rpOne
  rw [if_neg h, if_neg h0, he, if_neg hc]
theorem gvOK_g {rq gv : Nat → Nat} {i p w : Nat} {rq' : Nat → Nat} (h : gvOK rq gv i) (hp : p ≠ 0) (hr : rq p = 0) (hw : 1 ≤ w) (hq : rq' = upN rq p w) : gvOK rq' (upN gv i p) (i + 1) := by
  subst hq
  have hne : ∀ j, gv j ≠ p := fun j e => by
    have := h.1 j (by rw [e]; exact hp)
    rw [e] at this
    omega
  refine ⟨fun j hj => ?_, fun j k hj e => ?_, fun j hj => ?_⟩
  · by_cases c : j = i
    · subst c; rw [upN_s, upN_s]; exact hw
    · rw [upN_n _ _ c] at hj ⊢
      rw [upN_n _ _ (hne j)]
      exact h.1 j hj
  · by_cases c : j = i <;> by_cases c2 : k = i
    · omega
    · subst c; rw [upN_s, upN_n _ _ c2] at e; exact absurd e.symm (hne k)
    · subst c2; rw [upN_s, upN_n _ _ c] at e; exact absurd e (hne j)
    · rw [upN_n _ _ c] at hj e
      rw [upN_n _ _ c2] at e
      exact h.2.1 j k hj e
  · rw [upN_n _ _ (by omega)]; exact h.2.2 j (by omega)
theorem gvOK_0 {rq gv : Nat → Nat} {i : Nat} (h : gvOK rq gv i) : upN gv i 0 = gv := by
  funext j
  by_cases c : j = i
  · subst c; rw [upN_s, h.2.2 j (Nat.le_refl _)]
  · rw [upN_n _ _ c]
theorem gvOK_s {rq gv : Nat → Nat} {i k : Nat} (h : gvOK rq gv i) (hk : i ≤ k) : gvOK rq gv k := ⟨h.1, h.2.1, fun j hj => h.2.2 j (by omega)⟩
theorem gvOK_b {rq gv : Nat → Nat} {i e : Nat} (h : gvOK rq gv i) (he : gv e ≠ 0) : gvOK (upN rq (gv e) 0) (upN gv e 0) i := by
  refine ⟨fun j hj => ?_, fun j k hj q => ?_, fun j hj => ?_⟩
  · by_cases c : j = e
    · subst c; rw [upN_s] at hj; exact absurd rfl hj
    · rw [upN_n _ _ c] at hj ⊢
      have hne : gv j ≠ gv e := fun q => c (h.2.1 j e hj q)
      rw [upN_n _ _ hne]
      exact h.1 j hj
  · by_cases c : j = e
    · subst c; rw [upN_s] at hj; exact absurd rfl hj
    · rw [upN_n _ _ c] at hj q
      by_cases c2 : k = e
      · subst c2; rw [upN_s] at q; exact absurd q hj
      · rw [upN_n _ _ c2] at q; exact h.2.1 j k hj q
  · by_cases c : j = e
    · subst c; rw [upN_s]
    · rw [upN_n _ _ c]; exact h.2.2 j hj
/-- the row that keeps what the entries gave -/
theorem nz_up {nu gv : Nat → Nat} {i p : Nat} : upN (fun j => nz nu (gv j)) i (nz nu p) = fun j => nz nu (upN gv i p j) := by
  funext j
  by_cases c : j = i
  · subst c; rw [upN_s, upN_s]
  · rw [upN_n _ _ c, upN_n _ _ c]
theorem nz_cg {nu nu' gv : Nat → Nat} (h : ∀ j, gv j ≠ 0 → nu' (gv j) = nu (gv j)) : (fun j => nz nu' (gv j)) = fun j => nz nu (gv j) := by
  funext j
  unfold nz
  split
  · rfl
  · rename_i c; exact h j c
section PureZ
variable {top : Nat} {S L R : Nat → Nat} {rc : Nat → Bool} {sp : Nat → Bool} {rq nu : Nat → Nat} {mk n spare : Nat} {pa ch kd ad ra su un fo kp bs : Nat → Nat} {bl rd hd w : Nat}
/-- the rows' length stays small -/
theorem len_b (hR : RuleOK S L R rc top) (hT : TOK top S L R sp rq) : (lvs sp 1).length ≤ 1048576 := by
  have h := nl_le hR hT 1 ex_1
  have h2 := (cls_ok hR hT ex_1).2.2.2.2
  omega
theorem gn_b {sp' : Nat → Bool} (hR : RuleOK S L R rc top) (hT : TOK top S L R sp' rq) (h : n ≤ 4194304 ∧ mk ≤ 2097152) : dbl n (max mk (2 * (lvs sp' 1).length)) ≤ 4194304 ∧ max mk (2 * (lvs sp' 1).length) ≤ 2097152 := by
  have h1 := len_b hR hT
  have h2 : max mk (2 * (lvs sp' 1).length) ≤ 2097152 := by omega
  refine ⟨?_, h2⟩
  unfold dbl
  split <;> omega
end PureZ
theorem nB_b {top : Nat} {S L R : Nat → Nat} {rc sp : Nat → Bool} {rq : Nat → Nat} (hR : RuleOK S L R rc top) (hT : TOK top S L R sp rq) : nB sp rq ≤ 1048576 := by
  have h1 := len_b hR hT
  have h2 : nB sp rq ≤ (lvs sp 1).length := List.countP_le_length
  omega
