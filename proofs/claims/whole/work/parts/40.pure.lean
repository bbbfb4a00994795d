/-! ===== the pure level: numbers ===== -/
theorem i_lt {x y : Int32} : x < y ↔ x.toInt < y.toInt := Int32.lt_iff_toInt_lt
theorem i_le {x y : Int32} : x ≤ y ↔ x.toInt ≤ y.toInt := Int32.le_iff_toInt_le
theorem i_eq {x y : Int32} : x = y ↔ x.toInt = y.toInt := Int32.toInt_inj.symm
theorem i_lo (x : Int32) : -2147483648 ≤ x.toInt := by have := Int32.le_toInt x; simpa using this
theorem i_hi (x : Int32) : x.toInt < 2147483648 := by have := Int32.toInt_lt x; simpa using this
theorem i_wrap {n : Int} (h1 : -2147483648 ≤ n) (h2 : n < 2147483648) : n.bmod (2 ^ 32) = n := by
  rw [Int.bmod_def]; omega
theorem i_add {x y : Int32} (h1 : -2147483648 ≤ x.toInt + y.toInt) (h2 : x.toInt + y.toInt < 2147483648) : (x + y).toInt = x.toInt + y.toInt := by
  rw [Int32.toInt_add]; exact i_wrap h1 h2
theorem i_sub {x y : Int32} (h1 : -2147483648 ≤ x.toInt - y.toInt) (h2 : x.toInt - y.toInt < 2147483648) : (x - y).toInt = x.toInt - y.toInt := by
  rw [Int32.toInt_sub]; exact i_wrap h1 h2
theorem i_mul {x y : Int32} (h1 : -2147483648 ≤ x.toInt * y.toInt) (h2 : x.toInt * y.toInt < 2147483648) : (x * y).toInt = x.toInt * y.toInt := by
  rw [Int32.toInt_mul]; exact i_wrap h1 h2
theorem i_tn (x : Int32) : x.toNatClampNeg = x.toInt.toNat := rfl
theorem l_lt {x y : Int64} : x < y ↔ x.toInt < y.toInt := Int64.lt_iff_toInt_lt
theorem l_le {x y : Int64} : x ≤ y ↔ x.toInt ≤ y.toInt := Int64.le_iff_toInt_le
theorem l_eq {x y : Int64} : x = y ↔ x.toInt = y.toInt := Int64.toInt_inj.symm
theorem l_lo (x : Int64) : -9223372036854775808 ≤ x.toInt := by have := Int64.le_toInt x; simpa using this
theorem l_hi (x : Int64) : x.toInt < 9223372036854775808 := by have := Int64.toInt_lt x; simpa using this
theorem l_wrap {n : Int} (h1 : -9223372036854775808 ≤ n) (h2 : n < 9223372036854775808) : n.bmod (2 ^ 64) = n := by
  rw [Int.bmod_def]; omega
theorem l_add {x y : Int64} (h1 : -9223372036854775808 ≤ x.toInt + y.toInt) (h2 : x.toInt + y.toInt < 9223372036854775808) : (x + y).toInt = x.toInt + y.toInt := by
  rw [Int64.toInt_add]; exact l_wrap h1 h2
theorem l_sub {x y : Int64} (h1 : -9223372036854775808 ≤ x.toInt - y.toInt) (h2 : x.toInt - y.toInt < 9223372036854775808) : (x - y).toInt = x.toInt - y.toInt := by
  rw [Int64.toInt_sub]; exact l_wrap h1 h2
theorem l_mul {x y : Int64} (h1 : -9223372036854775808 ≤ x.toInt * y.toInt) (h2 : x.toInt * y.toInt < 9223372036854775808) : (x * y).toInt = x.toInt * y.toInt := by
  rw [Int64.toInt_mul]; exact l_wrap h1 h2
theorem i2l (x : Int32) : (Int32.toInt64 x).toInt = x.toInt := by simp
theorem l2i {x : Int64} (h1 : -2147483648 ≤ x.toInt) (h2 : x.toInt < 2147483648) : (Int64.toInt32 x).toInt = x.toInt := by
  rw [Int64.toInt_toInt32]; exact i_wrap h1 h2
theorem i_ext {x y : Int32} (h : x.toInt = y.toInt) : x = y := Int32.toInt_inj.mp h
theorem l_ext {x y : Int64} (h : x.toInt = y.toInt) : x = y := Int64.toInt_inj.mp h
/-- a row is read within it -/
theorem ix_ok {i : Int32} {n : Nat} (h1 : 0 ≤ i.toInt) (h2 : i.toInt < n) : ix i n = some i.toInt.toNat := by
  unfold ix
  rw [if_neg]
  · rfl
  · rw [i_lt, i_tn]
    have : (0 : Int32).toInt = 0 := rfl
    omega
theorem bz_ok {x : Int32} (h : x = 0 ∨ x = 1) : bz x = some () := if_pos h
theorem nz_ok {x : Int32} (h : x.toInt ≠ 0) : nz x = some () := if_neg (fun e => h (by rw [e]; rfl))
theorem nzl_ok {x : Int64} (h : x.toInt ≠ 0) : nzl x = some () := if_neg (fun e => h (by rw [e]; rfl))
theorem up2_s {α : Type} {z : Nat → Nat → α} {k j : Nat} {v : α} : up2 z k j v k j = v := by simp [up2]
theorem up2_k {α : Type} {z : Nat → Nat → α} {k j k' : Nat} {v : α} (h : k' ≠ k) : up2 z k j v k' = z k' := by simp [up2, h]
theorem up2_j {α : Type} {z : Nat → Nat → α} {k j j' : Nat} {v : α} (h : j' ≠ j) : up2 z k j v k j' = z k j' := by simp [up2, h]
theorem within_eq (x lo hi : Int32) : f_WP_isWithin x lo hi = some (if lo.toInt ≤ x.toInt ∧ x.toInt ≤ hi.toInt then 1 else 0) := by
  unfold f_WP_isWithin
  simp only [i_lt]
  by_cases h1 : x.toInt < lo.toInt
  · rw [if_pos h1, if_neg (by omega)]
  · by_cases h2 : hi.toInt < x.toInt
    · rw [if_neg h1, if_pos h2, if_neg (by omega)]
    · rw [if_neg h1, if_neg h2, if_pos (by omega)]
theorem at_eq (no_z : jZ) (x1 x2 : Int32) : f_Notes_at no_z x1 x2 = some (if 0 ≤ x1.toInt ∧ x1.toInt < 12 ∧ 0 ≤ x2.toInt ∧ x2.toInt < 9 then no_z 7 (x1.toInt * 9 + x2.toInt).toNat else -1) := by
  have e0 : (0 : Int32).toInt = 0 := rfl
  have e12 : (12 : Int32).toInt = 12 := rfl
  have e9 : (9 : Int32).toInt = 9 := rfl
  have n0 : f_Notes_at_25 no_z x1 x2 0 = some (-1) := by unfold f_Notes_at_25; rfl
  unfold f_Notes_at
  simp only [i_lt, i_le, e0, e12, e9, n0]
  by_cases h : 0 ≤ x1.toInt ∧ x1.toInt < 12 ∧ 0 ≤ x2.toInt ∧ x2.toInt < 9
  · rw [if_pos h, if_neg (by omega), if_neg (by omega), if_neg (by omega), if_neg (by omega)]
    unfold f_Notes_at_25
    rw [if_neg (by decide)]
    have m1 : (x1 * 9).toInt = x1.toInt * 9 := i_mul (by rw [e9]; omega) (by rw [e9]; omega)
    have m2 : (x1 * 9 + x2).toInt = x1.toInt * 9 + x2.toInt := by rw [i_add (by omega) (by omega), m1]
    rw [ix_ok (by omega) (by omega)]
    simp only [Option.bind_some, i_tn, m2]
  · rw [if_neg h]
    by_cases a1 : x1.toInt < 0
    · rw [if_pos a1]
    · by_cases a2 : 12 ≤ x1.toInt
      · rw [if_neg a1, if_pos a2]
      · by_cases a3 : x2.toInt < 0
        · rw [if_neg a1, if_neg a2, if_pos a3]
        · rw [if_neg a1, if_neg a2, if_neg a3, if_pos (by omega)]
