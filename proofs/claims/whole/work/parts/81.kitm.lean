/-! Longs that are small naturals. -/
theorem lx_or (a b : Nat) : lN a ||| lN b = lN (a ||| b) := by
  apply Int64.toBitVec_inj.1
  show BitVec.ofNat 64 a ||| BitVec.ofNat 64 b = BitVec.ofNat 64 (a ||| b)
  apply BitVec.eq_of_getLsbD_eq
  intro i hi
  simp [hi]
theorem lx_and (a b : Nat) : lN a &&& lN b = lN (a &&& b) := by
  apply Int64.toBitVec_inj.1
  show BitVec.ofNat 64 a &&& BitVec.ofNat 64 b = BitVec.ofNat 64 (a &&& b)
  apply BitVec.eq_of_getLsbD_eq
  intro i hi
  simp [hi]
theorem lx_tn {n : Nat} (h : n < 2 ^ 64) : (lN n).toBitVec.toNat = n := Nat.mod_eq_of_lt h
theorem lx_k : ∀ k, k < 64 → (((nI k).toInt64 &&& 63).toBitVec.smod 64).toNat = k := by decide +kernel
theorem lx_shl {a k : Nat} (hk : k < 64) (h : a * 2 ^ k < 2 ^ 64) : lN a <<< ((nI k).toInt64 &&& 63) = lN (a * 2 ^ k) := by
  apply Int64.toBitVec_inj.mp
  apply BitVec.eq_of_toNat_eq
  have hn : a < 2 ^ 64 := Nat.lt_of_le_of_lt (Nat.le_mul_of_pos_right a (Nat.two_pow_pos k)) h
  show ((lN a).toBitVec <<< (((nI k).toInt64 &&& 63).toBitVec.smod 64).toNat).toNat = _
  rw [lx_k k hk, BitVec.toNat_shiftLeft, Nat.shiftLeft_eq, lx_tn hn, lx_tn h, Nat.mod_eq_of_lt h]
theorem lx_shr {a k : Nat} (hk : k < 64) (h : a < 2 ^ 63) : lN a >>> ((nI k).toInt64 &&& 63) = lN (a / 2 ^ k) := by
  apply Int64.toInt_inj.mp
  have h2 : a / 2 ^ k ≤ a := Nat.div_le_self _ _
  show ((lN a).toBitVec.sshiftRight (((nI k).toInt64 &&& 63).toBitVec.smod 64).toNat).toInt = _
  rw [lx_k k hk, BitVec.toInt_sshiftRight]
  show (lN a).toInt >>> k = _
  rw [pk_lT h, pk_lT (by omega), Int.shiftRight_eq_div_pow]
  rfl
section NM
variable {p : Program} {l : Launch} {e : Env} {R : Room} {s : State} {m : MethodId} {args : Array Value} {below : List Frame} {meth : Method} {c : Code} {H : Heap} {locs : List Loc} {cells slots : Nat} {Q : State → Prop}
variable {cc : ByteArray} {pc : Nat} {ls : Array Slot} {rest : List Value} {D : va_G} {cl : List vw_C} {A : Nat → Prop} {a : Nat} {tys : List (ClassId × FieldType)} {ws : va_W} {H0 : Heap}
theorem upN_lN (f : Nat → Nat) (k v : Nat) : vp_updL (fun j => lN (f j)) k (lN v) = fun j => lN (upN f k v j) := by
  funext j
  by_cases h : j = k <;> simp [vp_updL, upN, h]
theorem n_lastM (hexec : p.tables.exec = Jvm.exec) (hb : c.code = cc) (hK : va_K D cl tys s) (hP : va_P D cl ws H) (hD : va_D A ws) (hS : va_S A H0 H locs) (q0 t0 : Nat) {cA : ClassId} {n : Nat} {f : Nat → Nat} (ha : ws[q0]? = some (a, .inl (cA, n, .inr (.inl (fun j => lN (f j)))))) (ht : tys[t0]? = some (cA, .long)) {i : Nat} {v : Nat} (hi : i < n) (hn : n < 2 ^ 31) (hdg : decode cc pc = .ok (.lastore, 1))
    (k : ∀ (H1 : Heap) (locs1 : List Loc), va_P D cl (ws.set q0 (a, .inl (cA, n, .inr (.inl (fun j => lN (upN f i v j)))))) H1 → va_D A (ws.set q0 (a, .inl (cA, n, .inr (.inl (fun j => lN (upN f i v j)))))) → va_S A H0 H1 locs1 → W p l e R s m args below meth c H1 locs1 cells slots Q (F0 m (pc + 1) ls rest)) : W p l e R s m args below meth c H locs cells slots Q (F0 m pc ls (.long (lN v) :: .int (nI i) :: .ref a :: rest)) := by
  refine n_last hexec hb hK hP hD hS q0 t0 ha ht hi hn hdg (fun H1 locs1 h1 h2 h3 => ?_)
  rw [upN_lN] at h1 h2
  exact k H1 locs1 h1 h2 h3
theorem upB_bI (f : Nat → Bool) (k : Nat) (b : Bool) {v : Int32} (hv : v = bI (b = true)) : upd (fun j => bI (f j = true)) k v = fun j => bI (upB f k b j = true) := by
  subst hv
  funext j
  by_cases h : j = k <;> simp [upd, upB, h]
theorem n_zastB (hexec : p.tables.exec = Jvm.exec) (hb : c.code = cc) (hK : va_K D cl tys s) (hP : va_P D cl ws H) (hD : va_D A ws) (hS : va_S A H0 H locs) (q0 t0 : Nat) {cA : ClassId} {n : Nat} {f : Nat → Bool} (ha : ws[q0]? = some (a, .inl (cA, n, .inl (fun j => bI (f j = true))))) (ht : tys[t0]? = some (cA, .boolean)) {i : Nat} {v : Int32} (b : Bool) (hi : i < n) (hn : n < 2 ^ 31) (hv : v = bI (b = true)) (hdg : decode cc pc = .ok (.bastore, 1))
    (k : ∀ (H1 : Heap) (locs1 : List Loc), va_P D cl (ws.set q0 (a, .inl (cA, n, .inl (fun j => bI (upB f i b j = true))))) H1 → va_D A (ws.set q0 (a, .inl (cA, n, .inl (fun j => bI (upB f i b j = true))))) → va_S A H0 H1 locs1 → W p l e R s m args below meth c H1 locs1 cells slots Q (F0 m (pc + 1) ls rest)) : W p l e R s m args below meth c H locs cells slots Q (F0 m pc ls (.int v :: .int (nI i) :: .ref a :: rest)) := by
  refine va_zast hexec hb hK hP hD hS q0 t0 ha ht (vp_in_nI hi hn) hdg (fun H1 locs1 h1 h2 h3 => ?_)
  have e : vp_nar .boolean v = bI (b = true) := by
    rw [hv]; cases b <;> decide
  rw [nI_clamp (Nat.lt_trans hi hn), e, upB_bI f i b rfl] at h1 h2
  exact k H1 locs1 h1 h2 h3
end NM
section NC
variable {p : Program} {l : Launch} {e : Env} {R : Room} {s : State} {m : MethodId} {args : Array Value} {below : List Frame} {meth : Method} {c : Code} {H : Heap} {locs : List Loc} {cells slots : Nat} {Q : State → Prop}
variable {cc : ByteArray} {pc : Nat} {ls : Array Slot} {rest : List Value}
theorem n_lc_ne (hexec : p.tables.exec = Jvm.exec) (hb : c.code = cc) {a b : Nat} {off : Int} {tgt : Nat} (hdg : decode cc pc = .ok (.ifCond .ne off, 3)) (ht : (pc : Int) + off = (tgt : Int)) (h1 : a < 2 ^ 63) (h2 : b < 2 ^ 63)
    (kt : ¬ a = b → W p l e R s m args below meth c H locs cells slots Q (F0 m tgt ls rest)) (kf : a = b → W p l e R s m args below meth c H locs cells slots Q (F0 m (pc + 3) ls rest)) : W p l e R s m args below meth c H locs cells slots Q (F0 m pc ls (.int (lg_cmp (lN a) (lN b)) :: rest)) :=
  lv_if_ne hexec hb hdg ht (fun h => kt (fun q => h ((lcmp0 _ _).mpr (by rw [q])))) (fun h => kf ((pk_lEQ h1 h2).mp ((lcmp0 _ _).mp h)))
theorem lc_le (x y : Int64) : (lg_cmp x y ≤ 0) ↔ x ≤ y := by
  unfold lg_cmp
  simp only [gt_iff_lt, Int64.lt_iff_toInt_lt, Int64.le_iff_toInt_le, ← Int64.toInt_inj]
  repeat' split
  all_goals (constructor <;> intro hh <;> first | omega | decide | exact absurd hh (by decide))
theorem lc_lt (x y : Int64) : (lg_cmp x y < 0) ↔ x < y := by
  unfold lg_cmp
  simp only [gt_iff_lt, Int64.lt_iff_toInt_lt, ← Int64.toInt_inj]
  repeat' split
  all_goals (constructor <;> intro hh <;> first | omega | decide | exact absurd hh (by decide))
theorem n_lc_le (hexec : p.tables.exec = Jvm.exec) (hb : c.code = cc) {a b : Nat} {off : Int} {tgt : Nat} (hdg : decode cc pc = .ok (.ifCond .le off, 3)) (ht : (pc : Int) + off = (tgt : Int)) (h1 : a < 2 ^ 63) (h2 : b < 2 ^ 63)
    (kt : a ≤ b → W p l e R s m args below meth c H locs cells slots Q (F0 m tgt ls rest)) (kf : b < a → W p l e R s m args below meth c H locs cells slots Q (F0 m (pc + 3) ls rest)) : W p l e R s m args below meth c H locs cells slots Q (F0 m pc ls (.int (lg_cmp (lN a) (lN b)) :: rest)) :=
  lv_if_le hexec hb hdg ht (fun h => kt ((pk_lLE h1 h2).mp ((lc_le _ _).mp h))) (fun h => kf (Nat.not_le.mp (fun q => h ((lc_le _ _).mpr ((pk_lLE h1 h2).mpr q)))))
end NC
