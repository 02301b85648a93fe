/-! Exceptions that are thrown for sure: what a thrower needs of the start, its contract, its throw, its callers. -/
def xA : String := "java/lang/IllegalArgumentException"
def xI : String := "java/lang/IllegalStateException"
abbrev xNm : List String := ["java/lang/RuntimeException", "java/lang/Exception"]
abbrev xD (C : String) : MethodName := ⟨C, "<init>", "(Ljava/lang/String;)V"⟩
def xStr : List (Nat × String) := [(219, "classes are 1 to 24"), (44, "no such kind of family"), (53, "a leaf's size is out of bounds"), (59, "a size of the family is too great"), (204, "there is no memory"), (86, "there are 256 blocks"), (221, "a request is of 1 word at least"), (209, "no block begins there"), (126, "no such thing is known of a block"), (128, "a depth is 0 at least"), (217, "the class isn't reached"), (137, "so many can't be kept"), (152, "no such thing is known of free nodes"), (188, "the script has entries 0 to 255"), (190, "the script has 256 entries")]
def xB : List Cond := [.declares (xD "java/lang/RuntimeException"), .declares (xD "java/lang/Exception"), .declares (xD "java/lang/Throwable"), .castable "java/lang/IllegalArgumentException" "java/lang/IllegalArgumentException", .castable "java/lang/IllegalStateException" "java/lang/IllegalStateException"]
/-- what of the tables a thrower takes beside its words -/
def xT (U : State) : Prop := (∀ t ∈ xStr, ∃ a, vk_R RX3 t.1 t.2 a U) ∧ ∀ w ∈ xB, va_Nw w U
theorem xT.warm {s U : State} (hW : s.WarmedH U.vm) (h : xT s) : xT U := by
  refine ⟨fun t ht => ?_, fun w hw => ?_⟩
  · obtain ⟨a, ha⟩ := h.1 t ht
    exact ⟨a, ha.warm hW⟩
  · have h9 := h.2 w hw
    simp only [xB, List.mem_cons, List.not_mem_nil, or_false] at hw
    rcases hw with rfl | rfl | rfl | rfl | rfl
    · exact va_Nw.warmD hW h9
    · exact va_Nw.warmD hW h9
    · exact va_Nw.warmD hW h9
    · exact va_Nw.warmC hW h9
    · exact va_Nw.warmC hW h9
theorem xT.same {u U : State} (hv : u.vm = U.vm) (h : xT u) : xT U := by
  refine ⟨fun t ht => ?_, fun w hw => ?_⟩
  · obtain ⟨a, ha⟩ := h.1 t ht
    exact ⟨a, ha.same hv.symm⟩
  · have h9 := h.2 w hw
    simp only [xB, List.mem_cons, List.not_mem_nil, or_false] at hw
    rcases hw with rfl | rfl | rfl | rfl | rfl <;> exact va_Nw.same rfl hv h9
/-- the two statics of Throwable, off A -/
def xZ (A : Nat → Prop) (U : State) (H : Heap) : Prop := vx_Zq Bundle.tN "UNASSIGNED_STACK" Bundle.steD A U H ∧ vx_Zq Bundle.tN "SUPPRESSED_SENTINEL" Bundle.listD A U H
theorem xZ.moved {A : Nat → Prop} {u U : State} {H : Heap} (hvm : u.vm.Alike U.vm) (h : xZ A u H) : xZ A U H := ⟨h.1.moved hvm, h.2.moved hvm⟩
theorem xZ.kept {A : Nat → Prop} {U : State} {H H1 : Heap} (h : xZ A U H) (hq : ∀ a : Nat, a < H.size → ¬ A a → H1[a]? = H[a]?) : xZ A U H1 := ⟨h.1.kept hq, h.2.kept hq⟩
theorem xZ.narrow {A B : Nat → Prop} {U : State} {H : Heap} (h : xZ A U H) (hAB : ∀ q, B q → A q) : xZ B U H := ⟨h.1.narrow hAB, h.2.narrow hAB⟩
def kPx (g : va_G) (ty : List (ClassId × FieldType)) (av : List Value) (w0 : va_W) (sz : Nat) : Array Value → State → Prop := va_Pc av (fun U => (U.heap.size = sz ∧ va_P g vwCl w0 U.heap ∧ kK g ty U ∧ va_D (fun _ => True) w0) ∧ xT U ∧ xZ (va_A w0 sz) U U.heap)
/-- it throws E for sure; its cells stay; the exception's cell comes -/
def kT (l : Launch) (g : va_G) (ty : List (ClassId × FieldType)) (y : MethodName) (wy : List Cond) (rm : Room) (av : List Value) (w0 w1 : va_W) (E : String) : Prop := ∀ sz : Nat, vx_Met l y wy rm (kPx g ty av w0 sz) (fun _ _ _ _ => False) (fun E' st t => E' = E ∧ va_P g vwCl w1 t.heap ∧ va_D (va_A w0 sz) w1 ∧ va_F (va_A w0 sz) st t) 1 6 (va_A w0 sz)
section KX
variable {p : Program} {l : Launch} {e : Env} {R : Room} {s : State} {m : MethodId} {args : Array Value} {below : List Frame} {meth : Method} {c : Code} {H : Heap} {locs : List Loc} {cells slots : Nat} {Q : State → Prop}
variable {cc : ByteArray} {pc : Nat} {ls : Array Slot} {rest st0 : List Value} {g : va_G} {A : Nat → Prop} {ty : List (ClassId × FieldType)} {ws w0 w1 wr : va_W} {H0 : Heap} {b : Nat} {As : List Value} {a : Array Value} {E : String}
theorem k_preVx (hk : kK g ty s) (hxT : xT s) (hxZ : xZ A s H) (hP : va_P g vwCl ws H) (hD : va_D A ws) (hS : va_S A H0 H locs) (hA : ∀ q, H0.size ≤ q → A q) (isC : List Nat) (hC : isC.map (fun i => ws[i]?) = w0.map some) (hn : va_nd isC = true) {ci q0 : Nat} {q : vw_C} {fs : List Value} (hc : vwCl[ci]? = some q) (he : w0[q0]? = some (b, .inr (ci, fs))) : PreV s H q.1 b (kPx g ty (.ref b :: As) w0 H.size) As :=
  ⟨fun _ U f mk h => ⟨h.1, ⟨h.2.1.1, h.2.1.2.1, h.2.1.2.2.1.calling, h.2.1.2.2.2⟩, xT.same (u := U) (U := U.calling f mk _) rfl h.2.2.1, xZ.moved (u := U) (U := U.calling f mk _) (Vm.Alike.refl U.vm) h.2.2.2⟩, va_recv hk.1 (hP.sub isC (k_pick hC)) hc he, fun U hU hW => ⟨rfl, ⟨by rw [hU], by rw [hU]; exact hP.sub isC (k_pick hC), hk.warm hW, (hD.sub isC hn hC).weaken (fun _ _ _ _ => trivial)⟩, hxT.warm hW, by rw [hU]; exact (hxZ.narrow (va_free (wc := w0) hD hS hA isC hC)).moved hW.alike⟩⟩
theorem k_preSx (hk : kK g ty s) (hxT : xT s) (hxZ : xZ A s H) (hP : va_P g vwCl ws H) (hD : va_D A ws) (hS : va_S A H0 H locs) (hA : ∀ q, H0.size ≤ q → A q) (isC : List Nat) (hC : isC.map (fun i => ws[i]?) = w0.map some) (hn : va_nd isC = true) : PreS s H (kPx g ty As w0 H.size) As :=
  ⟨fun _ U f mk h => ⟨h.1, ⟨h.2.1.1, h.2.1.2.1, h.2.1.2.2.1.calling, h.2.1.2.2.2⟩, xT.same (u := U) (U := U.calling f mk _) rfl h.2.2.1, xZ.moved (u := U) (U := U.calling f mk _) (Vm.Alike.refl U.vm) h.2.2.2⟩, fun U hU hW => ⟨rfl, ⟨by rw [hU], by rw [hU]; exact hP.sub isC (k_pick hC), hk.warm hW, (hD.sub isC hn hC).weaken (fun _ _ _ _ => trivial)⟩, hxT.warm hW, by rw [hU]; exact (hxZ.narrow (va_free (wc := w0) hD hS hA isC hC)).moved hW.alike⟩⟩
/-- behind a call that throws for sure -/
theorem k_goT {mc ms : Nat} (hr : vx_Run p l e R s m args below meth c H locs cells slots mc ms (F0 m pc ls st0) rest (fun _ _ _ => False) (fun E' st t => E' = E ∧ va_P g vwCl w1 t.heap ∧ va_D (va_A w0 H.size) w1 ∧ va_F (va_A w0 H.size) st t) (va_A w0 H.size)) (hP : va_P g vwCl ws H) (hD : va_D A ws) (hS : va_S A H0 H locs) (hA : ∀ q, H0.size ≤ q → A q)
    (isC isR : List Nat) (hC : isC.map (fun i => ws[i]?) = w0.map some) (hR : isR.map (fun i => ws[i]?) = wr.map some) (hn : va_nd isR = true) (hdis : ∀ i ∈ isR, i ∉ isC)
    (kk : ∀ (ce : Cell) (q9 : Addr) (H1 : Heap) (locs1 : List Loc), va_P g vwCl (wr ++ w1) H1 → va_D A (wr ++ w1) → va_S A H0 H1 locs1 → (∀ q : Nat, q < H.size → ¬ A q → H1[q]? = H[q]?) → H1[q9]? = some ce → ce.vm = .none → s.vm.findClass E = some ce.cls → vx_W p l e R s m args below meth c H1 locs1 (cells + mc) (slots + ms) Q (F0 m pc ls rest) q9) : W p l e R s m args below meth c H locs cells slots Q (F0 m pc ls st0) := by
  have hF := va_free (wc := w0) hD hS hA isC hC
  intro T hT X
  rcases hr T hT X with ⟨v, st₀, t, T', L, h0, X', hL, e1, e2, hq, st⟩ | ⟨q, st₀, t, T', L, E', ce, h0, X', hL, e1, e2, ⟨rfl, hP1, hD1, hFr⟩, hce, hcv, hcl, st⟩
  · exact hq.elim
  · obtain ⟨k1, k2, k3⟩ := vx_keep h0 e1 hS (fun q _ h => hF q h) hF hL hFr
    have hP9 : va_P g vwCl w1 T'.heap := by rw [e1]; exact hP1
    obtain ⟨h1, h2⟩ := va_join hP hD isC isR hC hR hn hdis k2 hF hP9 hD1
    obtain ⟨t2, a1, b1⟩ := kk ce q T'.heap (locs ++ L) h1 h2 k3 (fun q hq hnA => k2 q hq (fun z => hnA (hF q z))) (by rw [e1]; exact hce) hcv hcl T' rfl X'
    exact ⟨t2, st.trans a1, b1⟩
/-- the throw itself -/
theorem k_throw {ik is ic : Nat} {text : String} (hexec : p.tables.exec = Jvm.exec) (hb : c.code = cc) (hst : l.stackTraces = false) (hown : s.vm.findClass RX3 = some m.cls) (hfit : Bundle.fit E = true) (hk : (Cond.classLink RX3 ik E).before args s = true) (hini : (Cond.initialized E).before args s = true) (hxT : xT s) (hstr : (is, text) ∈ xStr)
    (hgw : ∀ w ∈ (vx_atS RX3 ic E xNm).filter goodWord, w.before args s = true) (hbw : ∀ w ∈ (vx_atS RX3 ic E xNm).filter (fun w => !goodWord w), w ∈ xB) (hot : ∀ w ∈ Cond.classLink RX3 ik E :: Cond.initialized E :: vx_atS RX3 ic E xNm, vx_ot w = true)
    (hxZ : xZ A s s.heap) (hAe : va_A w0 s.heap.size = A) (hS : va_S A s.heap H locs) (hsize : ls.size = c.maxLocals)
    (d0 : decode cc pc = .ok (.new ik, 3)) (d3 : decode cc (pc + 3) = .ok (.dup, 1)) (d4 : decode cc (pc + 4) = .ok (.ldc is, 2)) (d6 : decode cc (pc + 6) = .ok (.invokespecial ic, 3)) (d9 : decode cc (pc + 9) = .ok (.athrow, 1))
    (htab : ∀ x ∈ c.exceptionTable.toList, False) (hRf : 5 < R.frames) (hRl : (rest.map fun v => v.category).sum + 82 ≤ R.locals) (hRc : cells + 1 ≤ R.cells) (hRs : slots + 6 ≤ R.slots) (hlocks : meth.locks = false) (hP : va_P g vwCl w1 H) (hD : va_D A w1) (hc : cells + 1 ≤ 1) (hs : slots + 6 ≤ 6) :
    W p l e R s m args below meth c H locs cells slots (vx_MQ below (fun _ _ _ _ => False) (fun E' st t => E' = E ∧ va_P g vwCl w1 t.heap ∧ va_D (va_A w0 s.heap.size) w1 ∧ va_F (va_A w0 s.heap.size) st t) args s 1 6 (va_A w0 s.heap.size)) (F0 m pc ls rest) := by
  obtain ⟨sa, hsa⟩ := hxT.1 _ hstr
  subst hAe
  refine vx_throwS hexec hb hst (names := xNm) hown hfit (by decide +kernel) hk hini hsa (vx_hat hgw hbw (fun w hw => va_Nw.use (by
    simp only [xB, List.mem_cons, List.not_mem_nil, or_false] at hw
    rcases hw with rfl | rfl | rfl | rfl | rfl <;> rfl) (hxT.2 w hw))) hot hxZ.1 hxZ.2 hS hsize d0 d3 d4 d6 d9 (fun x hx => (htab x hx).elim) hRf hRl hRc hRs hlocks (fun t _ hz hq => ⟨rfl, hP.kept (fun k q hk => hq q.1 (hP k q hk).lt), hD, Nat.le_trans hS.1 hz, fun q h1 h2 => by rw [hq q (Nat.lt_of_lt_of_le h1 hS.1)]; exact hS.2.1 q h1 h2⟩) hS.2.2 hc hs
/-- it leaves this method -/
theorem k_out {ce : Cell} {q9 : Addr} (htab : ∀ x ∈ c.exceptionTable.toList, False) (hlocks : meth.locks = false) (hcell : H[q9]? = some ce) (hv : ce.vm = .none) (hcl : s.vm.findClass E = some ce.cls) (hP : va_P g vwCl w1 H) (hD : va_D A w1) (hAe : va_A w0 s.heap.size = A) (hS : va_S A s.heap H locs) (hc : cells ≤ 1) (hs : slots ≤ 6) :
    vx_W p l e R s m args below meth c H locs cells slots (vx_MQ below (fun _ _ _ _ => False) (fun E' st t => E' = E ∧ va_P g vwCl w1 t.heap ∧ va_D (va_A w0 s.heap.size) w1 ∧ va_F (va_A w0 s.heap.size) st t) args s 1 6 (va_A w0 s.heap.size)) (F0 m pc ls rest) q9 := by
  subst hAe
  exact vx_out (fun x hx => (htab x hx).elim) hlocks hcell hv hcl (fun t ht _ => ⟨rfl, by rw [ht]; exact hP, hD, hS.F ht⟩) hS.2.2 hc hs
end KX
