/-! What count answers. -/
def cVal (top : Nat) (S L R : Nat → Nat) (sp : Nat → Bool) (rq : Nat → Nat) (bl rd hd jn sn : Nat) (v : Int32) : Int32 :=
  if v = nI 0 then nI (S top) else if v = nI 1 then nI rd else if v = nI 2 then nI hd - nI rd else if v = nI 3 then nI (S top) - nI hd else if v = nI 4 then nI bl else if v = nI 5 then nI (lvs sp 1).length - nI bl else if v = nI 6 then nI ((wl sp rq 1).foldl (fun g q => max g (S (cls top L R q))) 0) else if v = nI 7 then nI jn else if v = nI 8 then nI sn else if v = nI 9 then nI (wl sp rq 1).length else -1
theorem c_un (top : Nat) {S L R : Nat → Nat} {sp : Nat → Bool} {rq nu : Nat → Nat} {mk n spare : Nat} {pa ch kd ad ra su un fo : Nat → Nat} {bl rd hd : Nat} (h : wI top S L R sp rq nu [] n mk spare pa ch kd ad ra su un fo bl rd hd) : un 1 = (lvs sp 1).length ∧ kd 1 = top := by
  have hu := (h.1.2.2.1 1 ex_1 List.not_mem_nil).2
  have hk := (h.1.2.1.2.1 1 ex_1).2.2.1
  rw [h.1.2.1.1] at hu hk
  exact ⟨hu, by rw [hk, cls_1]⟩
