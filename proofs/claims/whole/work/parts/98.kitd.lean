/-! The law's own start and its invariant. -/
section KD
variable {s : State} {g : va_G} {A : Nat → Prop} {ty : List (ClassId × FieldType)} {ws w0 : va_W} {H H0 : Heap} {locs : List Loc} {As : List Value}
theorem k_preSc (hk : kK g ty s) (hxT : xT s) (hxZ : xZ A s H) (hxC : va_Nc xA xI s) (hP : va_P g vwCl ws H) (hD : va_D A ws) (hS : va_S A H0 H locs) (hA : ∀ q, H0.size ≤ q → A q) (isC : List Nat) (hC : isC.map (fun i => ws[i]?) = w0.map some) (hn : va_nd isC = true) : PreS s H (kPc g ty As w0 H.size) As :=
  ⟨fun _ U f mk h => ⟨h.1, ⟨h.2.1.1, h.2.1.2.1, h.2.1.2.2.1.calling, h.2.1.2.2.2⟩, xT.same (u := U) (U := U.calling f mk _) rfl h.2.2.1, xZ.moved (u := U) (U := U.calling f mk _) (Vm.Alike.refl U.vm) h.2.2.2.1, va_Nc.moved (u := U) (U := U.calling f mk _) (Vm.Alike.refl U.vm) h.2.2.2.2⟩, fun U hU hW => ⟨rfl, ⟨by rw [hU], by rw [hU]; exact hP.sub isC (k_pick hC), hk.warm hW, (hD.sub isC hn hC).weaken (fun _ _ _ _ => trivial)⟩, hxT.warm hW, by rw [hU]; exact (hxZ.narrow (va_free (wc := w0) hD hS hA isC hC)).moved hW.alike, hxC.moved hW.alike⟩⟩
end KD
/-- what always holds of the rows -/
def LB (n : Nat) (pa ch kd ad ra su un fo kp gs gav : Nat → Nat) (tz tl ty sz2 lf2 rt2 : Nat → Int32) (rb tr2 : Nat → Bool) : Prop :=
  (tz 0 = 0 ∧ tl 0 = 0 ∧ ty 0 = 0) ∧ aOK n pa ch kd ad ra su un ∧ (n % 2 = 0 ∧ 64 ≤ n ∧ n ≤ 55940) ∧ (∀ j, 25 ≤ j → fo j = 0) ∧ (∀ j, ¬ (1 ≤ j ∧ j ≤ 24) → kp j = 0) ∧ gs 0 = 0 ∧ (∀ j, 256 ≤ j → gav j = 0) ∧ (sz2 0 = 0 ∧ lf2 0 = 0 ∧ rt2 0 = 0) ∧ (∀ j, ¬ (1 ≤ j ∧ j ≤ 24) → rb j = false) ∧ (∀ j, ¬ (1 ≤ j ∧ j ≤ 24) → tr2 j = false)
/-- both sides hold the same memory -/
def LM (top : Nat) (S L R : Nat → Nat) (rc sp : Nat → Bool) (rq nu : Nat → Nat) (n mk sv rcv ncl bl rd hd : Nat) (pa ch kd ad ra su un fo kp bs : Nat → Nat) (sz lf rt sz2 lf2 rt2 : Nat → Int32) (rb : Nat → Bool) (nd ba rv bf : Nat → Nat) (mn gc fc : Nat) : Prop :=
  MOK top S L R rc sp rq nu n mk sv rcv ncl bl rd hd pa ch kd ad ra su un fo kp bs sz lf rt ∧ rOK S L R rc sz2 lf2 rt2 ∧ rc = rb ∧ mn = (lvs sp 1).length ∧ nW top S L R rq nd (lvs sp 1) ∧ bW (adr top S L R) rq bl ba rv bf ∧ (lvs sp 1).length ≤ 1 + 23 * gc ∧ gc = fc + bl ∧ bl ≤ 256 ∧ mk ≤ 27970
/-- the numbers of calls -/
def LN (built : Bool) (c ld rp ot gc fc : Nat) (tz scr : Nat → Int32) : Prop :=
  c ≤ 64 ∧ ld + rp + ot ≤ c ∧ nzs scr 256 ≤ ld ∧ ((∀ k, tz k = 0) ∨ ld + rp + ot + 1 ≤ c) ∧ (built = true → ld + rp + ot + 2 ≤ c ∧ gc + fc ≤ ld * rp + 2 * ot)
theorem LN_gc {c ld rp ot gc fc bl : Nat} {tz scr : Nat → Int32} (h : LN true c ld rp ot gc fc tz scr) (h2 : gc = fc + bl) (h3 : bl ≤ 256) : gc ≤ 608 := by
  have h4 := h.2.2.2.2 rfl
  exact num_g (a := ld) (b := rp) (d := ot) (by have := h.1; omega) h4.2 h2 h3
