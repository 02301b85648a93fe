/-! A memory just begun. -/
section PureT
variable {top : Nat} {S L R : Nat → Nat} {rc : Nat → Bool} {n : Nat} {pa ch kd ad ra su un : Nat → Nat}
theorem ex_new {p : Nat} : ex (fun _ => false) p ↔ p = 1 := by
  constructor
  · intro h
    rcases h with e | e
    · exact e
    · exact absurd e.2 Bool.false_ne_true
  · intro e; exact Or.inl e
theorem wI_begin (hR : RuleOK S L R rc top) (hA : aOK n pa ch kd ad ra su un) (hn : n % 2 = 0 ∧ 64 ≤ n) : wI top S L R (fun _ => false) (fun _ => 0) (fun p => p) [] n 2 0 (upN pa 1 0) (upN ch 1 0) (upN kd 1 top) (upN ad 1 0) (upN ra 1 0) (upN su 1 (1 * 2 ^ top)) (upN un 1 1) (upN (fun _ => 0) top 1) 0 0 0 := by
  have ht := hR.2.1 top hR.1
  have hl : lvs (fun _ => false) 1 = [1] := lvs_n rfl
  refine ⟨⟨⟨fun p h => absurd h Bool.false_ne_true, fun p h => absurd h (Nat.lt_irrefl 0)⟩, ⟨rfl, fun p hp => ?_, fun p h => absurd h Bool.false_ne_true, fun p q hp hq _ => by rw [ex_new.mp hp, ex_new.mp hq]⟩, fun p hp _ => ?_, ⟨[], ⟨rfl, List.nodup_nil, fun i hi => by cases hi⟩, by rw [hl]; rfl⟩, ?_, rfl, by decide, by omega, hn.1, hn.2⟩, ?_, ?_, ?_, ?_⟩
  · rw [ex_new.mp hp, upN_s, upN_s, upN_s, upN_s, upN_s, cls_1, adr_1]
    exact ⟨by decide, by decide, rfl, rfl, rfl, rfl, rfl⟩
  · rw [ex_new.mp hp, upN_s, upN_s, smy_n rfl, hl, cls_1]
    exact ⟨rfl, rfl⟩
  · obtain ⟨a1, a2, a3, a4, a5, a6, a7, a8, z1, z2, z3, z4, z5, z6, z7⟩ := hA
    have h1 : 1 < n := by omega
    refine ⟨upN_lt a1 (by omega), upN_all (P := fun z => z + 1 < n) a2 (by omega), upN_all (P := fun z => z % 2 = 0) a3 rfl, upN_le a4 ht.2.1, upN_lt a5 (by decide), upN_lt a6 (by decide), upN_lt a7 (pow_kd ht.2.1), upN_lt a8 (by decide), upN_z z1 h1, upN_z z2 h1, upN_z z3 h1, upN_z z4 h1, upN_z z5 h1, upN_z z6 h1, upN_z z7 h1⟩
  · funext k
    unfold cF
    rw [hl, List.countP_cons, List.countP_nil, cls_1]
    by_cases e : k = top
    · rw [e, upN_s]; simp
    · rw [upN_n _ _ e]; simp [e]
  · unfold nB; rw [hl]; rfl
  · unfold sQ; rw [hl]; rfl
  · unfold sH; rw [hl]; rfl
theorem rOK_cpy (hR : RuleOK S L R rc top) {tz tl ty sz lf rt : Nat → Int32} (h : rOK S L R rc tz tl ty) : rOK S L R rc (va_cpy tz sz 0 0 25) (va_cpy tl lf 0 0 25) (va_cpy ty rt 0 0 25) := by
  intro k hk
  have hk2 : k < 25 := by
    rcases hk with e | e
    · have := (hR.2.1 k e).2.1; omega
    · omega
  have := h k hk
  unfold va_cpy
  rw [if_pos ⟨Nat.zero_le _, by omega⟩, if_pos ⟨Nat.zero_le _, by omega⟩, if_pos ⟨Nat.zero_le _, by omega⟩]
  simp only [Nat.zero_add, Nat.sub_zero]
  exact this
theorem fill_0 {f : Nat → Nat} (h : ∀ j, 25 ≤ j → f j = 0) : (fun j => if j < 25 then nI 0 else nI (f j)) = fun j => nI ((fun _ => 0) j) := by
  funext j
  by_cases c : j < 25
  · rw [if_pos c]
  · rw [if_neg c, h j (by omega)]
end PureT
