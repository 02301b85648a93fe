theorem lg_self (x : Int64) : lg_cmp x x = 0 := by unfold lg_cmp; simp
theorem updL_s (f : Nat → Int64) (x : Int64) : vp_updL f 0 x 0 = x := rfl
theorem sw16 (v : Int32) : (v.toInt < 0 ∨ 15 < v.toInt) ∨ v = nI 0 ∨ v = nI 1 ∨ v = nI 2 ∨ v = nI 3 ∨ v = nI 4 ∨ v = nI 5 ∨ v = nI 6 ∨ v = nI 7 ∨ v = nI 8 ∨ v = nI 9 ∨ v = nI 10 ∨ v = nI 11 ∨ v = nI 12 ∨ v = nI 13 ∨ v = nI 14 ∨ v = nI 15 := by
  rcases sw_ix v (n := 16) (by decide) with h | ⟨j, h, rfl⟩
  · exact Or.inl (by omega)
  · rcases (show j = 0 ∨ j = 1 ∨ j = 2 ∨ j = 3 ∨ j = 4 ∨ j = 5 ∨ j = 6 ∨ j = 7 ∨ j = 8 ∨ j = 9 ∨ j = 10 ∨ j = 11 ∨ j = 12 ∨ j = 13 ∨ j = 14 ∨ j = 15 by omega) with rfl | rfl | rfl | rfl | rfl | rfl | rfl | rfl | rfl | rfl | rfl | rfl | rfl | rfl | rfl | rfl <;> simp
