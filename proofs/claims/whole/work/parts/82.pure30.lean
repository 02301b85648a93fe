/-! The reference's words: address, live, class, depth, sides. -/
def enc (a v k d s : Nat) : Nat := a * 68719476736 + v * 34359738368 + k * 1073741824 + d * 33554432 + s
theorem enc_adr {a v k d s : Nat} (hv : v < 2) (hk : k < 32) (hd : d < 32) (hs : s < 33554432) : enc a v k d s / 2 ^ 36 = a := by unfold enc; omega
theorem enc_live {a v k d s : Nat} (hv : v < 2) (hk : k < 32) (hd : d < 32) (hs : s < 33554432) : enc a v k d s / 2 ^ 35 % 2 = v := by unfold enc; omega
theorem enc_cls {a v k d s : Nat} (hk : k < 32) (hd : d < 32) (hs : s < 33554432) : enc a v k d s / 2 ^ 30 % 32 = k := by unfold enc; omega
theorem enc_dep {a v k d s : Nat} (hd : d < 32) (hs : s < 33554432) : enc a v k d s / 2 ^ 25 % 32 = d := by unfold enc; omega
theorem enc_sid {a v k d s : Nat} (hs : s < 33554432) : enc a v k d s % 33554432 = s := by unfold enc; omega
theorem enc_lt {a v k d s : Nat} (ha : a < 4194304) (hv : v < 2) (hk : k < 32) (hd : d < 32) (hs : s < 33554432) : enc a v k d s < 2 ^ 63 := by unfold enc; omega
/-- adding is or, where the bits lie apart -/
theorem or_add (a b : Nat) (k : Nat) (hb : b < 2 ^ k) : a * 2 ^ k ||| b = a * 2 ^ k + b := by
  rw [Nat.mul_comm, Nat.two_pow_add_eq_or_of_lt hb]
theorem or_lower {x y k : Nat} (hx : x % 2 ^ k = 0) (hy : y < 2 ^ k) : x ||| y = x + y := by
  obtain ⟨a, rfl⟩ := Nat.dvd_of_mod_eq_zero hx
  rw [Nat.two_pow_add_eq_or_of_lt hy]
theorem enc_or {a v k d s : Nat} (hv : v < 2) (hk : k < 32) (hd : d < 32) (hs : s < 33554432) : (((a * 2 ^ 36 ||| v * 2 ^ 35) ||| k * 2 ^ 30) ||| d * 2 ^ 25) ||| s = enc a v k d s := by
  rw [or_lower (k := 36) (x := a * 2 ^ 36) (by omega) (by omega), or_lower (k := 35) (x := a * 2 ^ 36 + v * 2 ^ 35) (by omega) (by omega), or_lower (k := 30) (x := a * 2 ^ 36 + v * 2 ^ 35 + k * 2 ^ 30) (by omega) (by omega), or_lower (k := 25) (x := a * 2 ^ 36 + v * 2 ^ 35 + k * 2 ^ 30 + d * 2 ^ 25) (by omega) (by omega)]
  unfold enc
  omega
theorem enc_on {a k d s : Nat} (hk : k < 32) (hd : d < 32) (hs : s < 33554432) : enc a 0 k d s ||| 34359738368 = enc a 1 k d s := by
  have e : enc a 0 k d s = a * 2 ^ 36 + (k * 2 ^ 30 + d * 2 ^ 25 + s) := by unfold enc; omega
  rw [e, ← or_lower (k := 36) (x := a * 2 ^ 36) (by omega) (by omega), Nat.or_assoc, Nat.or_comm (k * 2 ^ 30 + d * 2 ^ 25 + s), or_lower (k := 35) (x := 34359738368) (by omega) (by omega), or_lower (k := 36) (x := a * 2 ^ 36) (by omega) (by omega)]
  unfold enc
  omega
