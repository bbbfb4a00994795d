def bsum (x : Int32) : Int32 := 0 + ((x >>> (nI 0 &&& 31)) &&& 1) + ((x >>> (nI 1 &&& 31)) &&& 1) + ((x >>> (nI 2 &&& 31)) &&& 1) + ((x >>> (nI 3 &&& 31)) &&& 1) + ((x >>> (nI 4 &&& 31)) &&& 1) + ((x >>> (nI 5 &&& 31)) &&& 1) + ((x >>> (nI 6 &&& 31)) &&& 1) + ((x >>> (nI 7 &&& 31)) &&& 1) + ((x >>> (nI 8 &&& 31)) &&& 1) + ((x >>> (nI 9 &&& 31)) &&& 1) + ((x >>> (nI 10 &&& 31)) &&& 1) + ((x >>> (nI 11 &&& 31)) &&& 1)
theorem bits_eq (x : Int32) : f_Mo_bits x = some (bsum x) := by
  unfold f_Mo_bits
  have S : ∀ (N k : Nat) (v : Int32), k < 12 → f_Mo_bits_4 x (N + 1) v (nI k) = f_Mo_bits_4 x N (v + ((x >>> (nI k &&& 31)) &&& 1)) (nI (k + 1)) := fun N k v hk => by
    have i12 : (12 : Int32).toInt = 12 := rfl
    have tk : (nI k).toInt = k := nI_toInt (by omega)
    rw [f_Mo_bits_4, if_neg (by rw [i_le]; omega), nI_1]
  have hF : FU = (FU - 13) + 1 + 1 + 1 + 1 + 1 + 1 + 1 + 1 + 1 + 1 + 1 + 1 + 1 := by decide
  rw [hF]
  show f_Mo_bits_4 x _ 0 (nI 0) = _
  rw [S _ 0 _ (by decide), S _ 1 _ (by decide), S _ 2 _ (by decide), S _ 3 _ (by decide), S _ 4 _ (by decide), S _ 5 _ (by decide), S _ 6 _ (by decide), S _ 7 _ (by decide), S _ 8 _ (by decide), S _ 9 _ (by decide), S _ 10 _ (by decide), S _ 11 _ (by decide), f_Mo_bits_4, if_pos (by decide)]
  rfl
theorem bc_a : ∀ a, a < 64 → ∀ b, b < 64 → f_Integer_bitCount (nI (64 * a + b)) = some (bsum (nI (64 * a + b))) := by decide +kernel
theorem bc_all (s : Nat) (h : s < 4096) : f_Integer_bitCount (nI s) = some (bsum (nI s)) := by
  have := bc_a (s / 64) (by omega) (s % 64) (by omega)
  rw [show 64 * (s / 64) + s % 64 = s by omega] at this
  exact this
theorem bit01 (x : Int32) : x &&& 1 = 0 ∨ x &&& 1 = 1 := by
  have e : (x &&& 1).toBitVec.toNat ≤ 1 := by
    rw [Int32.toBitVec_and, BitVec.toNat_and]
    exact Nat.and_le_right
  have e2 : (x &&& 1).toInt = (x &&& 1).toBitVec.toInt := rfl
  rw [BitVec.toInt_eq_toNat_cond, if_pos (by omega)] at e2
  have i0 : (0 : Int32).toInt = 0 := rfl
  have i1 : (1 : Int32).toInt = 1 := rfl
  by_cases c : (x &&& 1).toBitVec.toNat = 0
  · left; apply i_ext; omega
  · right; apply i_ext; omega
theorem p2_12 : ∀ P, P < 13 → ((1 : Int32) <<< (nI P &&& 31)).toInt = 2 ^ P := by decide
