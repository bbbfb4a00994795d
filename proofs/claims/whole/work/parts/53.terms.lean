theorem l_neg {x : Int64} (h1 : -9223372036854775807 ≤ x.toInt) : (-x).toInt = -x.toInt := by
  have := l_hi x
  have e : -x = 0 - x := by simp
  rw [e, l_sub (by rw [l0]; omega) (by rw [l0]; omega), l0]; omega
/-- least terms: the same two numbers on both sides -/
theorem terms_ok (od my : jY) (x1 x3 : Int64) (h1 : -4611686018427387904 ≤ x1.toInt) (h2 : x1.toInt ≤ 4611686018427387904) (h3 : 0 ≤ x3.toInt) :
    ∃ A B : Int64, f_Odds_reduce od x1 x3 = some (up2 (up2 od 2 0 A) 3 0 B) ∧ f_Mo_terms my x1 x3 = some (up2 (up2 my 45 0 A) 46 0 B) ∧ (x3.toInt = 0 → A.toInt = 0 ∧ B.toInt = 0) ∧ (0 < x3.toInt → A = x1 / lN (Nat.gcd x3.toInt.toNat x1.toInt.natAbs) ∧ B = x3 / lN (Nat.gcd x3.toInt.toNat x1.toInt.natAbs)) := by
  have p63 : (2 : Nat) ^ 63 = 9223372036854775808 := by decide
  have hx3 := l_hi x3
  have a3 : x3 = lN x3.toInt.toNat := l_ext (by rw [lNt (by omega)]; omega)
  generalize hn : x1.toInt.natAbs = n1
  have habs1 : 0 ≤ x1.toInt → x1 = lN n1 := fun h => l_ext (by rw [lNt (by omega)]; omega)
  have habs2 : x1.toInt ≤ 0 → -x1 = lN n1 := fun h => l_ext (by rw [l_neg (by omega), lNt (by omega)]; omega)
  have R : f_Odds_reduce od x1 x3 = f_Odds_reduce_56 x1 x3 od (lN (Nat.gcd x3.toInt.toNat n1)) := by
    unfold f_Odds_reduce
    by_cases c : 0 ≤ lg_cmp x1 0
    · rw [if_pos c]
      rw [lc_ge, l0] at c
      have := rd_20 x1 x3 od 63 x3.toInt.toNat n1 0 FU (by omega) (by omega) (by omega) (by omega) (by unfold FU; omega)
      rw [← a3, ← habs1 c] at this
      exact this
    · rw [if_neg c]
      rw [lc_ge, l0] at c
      have := rd_20 x1 x3 od 63 x3.toInt.toNat n1 0 FU (by omega) (by omega) (by omega) (by omega) (by unfold FU; omega)
      rw [← a3, ← habs2 (by omega)] at this
      exact this
  have T : f_Mo_terms my x1 x3 = tmEnd x1 x3 my (lN (Nat.gcd x3.toInt.toNat n1)) := by
    unfold f_Mo_terms
    have hs : (if 0 < x1 then x1 else -x1) = lN n1 := by
      by_cases c : 0 < x1
      · rw [if_pos c]; rw [l_lt, l0] at c; exact habs1 (by omega)
      · rw [if_neg c]; rw [l_lt, l0] at c; exact habs2 (by omega)
    rw [hs, Nat.gcd_comm]
    have := tm_9 x1 x3 my 63 n1 x3.toInt.toNat FU (by omega) (by omega) (by omega) (by unfold FU; omega)
    rw [← a3] at this
    exact this
  rw [R, T]
  generalize hg : Nat.gcd x3.toInt.toNat n1 = gg
  unfold f_Odds_reduce_56 tmEnd
  by_cases c : x3.toInt = 0
  · refine ⟨0, 0, ?_, ?_, fun _ => ⟨rfl, rfl⟩, fun h => by omega⟩
    · rw [if_pos (by rw [lc_le, l0]; omega)]
      unfold f_Odds_reduce_78
      rw [if_pos (by rw [lc_le, l0]; omega)]
    · rw [if_pos (by rw [lc_eq, l0]; omega)]
      unfold f_Mo_terms_49
      rw [if_pos (by rw [lc_eq, l0]; omega)]
  · have gpos : 0 < gg := by rw [← hg]; exact Nat.gcd_pos_of_pos_left _ (by omega)
    have gle : gg ≤ x3.toInt.toNat := by rw [← hg]; exact Nat.gcd_le_left _ (by omega)
    have gt : (lN gg).toInt = gg := lNt (by omega)
    refine ⟨x1 / lN gg, x3 / lN gg, ?_, ?_, fun h => absurd h c, fun _ => ⟨rfl, rfl⟩⟩
    · rw [if_neg (by rw [lc_le, l0]; omega), if_neg (by rw [lc_eq, l0, gt]; omega), nzl_ok (by omega), Option.bind_some]
      unfold f_Odds_reduce_78
      rw [if_neg (by rw [lc_le, l0]; omega), if_neg (by rw [lc_eq, l0, gt]; omega), nzl_ok (by omega), Option.bind_some]
    · rw [if_neg (by rw [lc_eq, l0]; omega), nzl_ok (by omega), Option.bind_some]
      unfold f_Mo_terms_49
      rw [if_neg (by rw [lc_eq, l0]; omega), nzl_ok (by omega), Option.bind_some]
