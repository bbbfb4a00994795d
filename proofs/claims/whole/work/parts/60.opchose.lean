/-- chose -/
theorem op_chose {ro no mo fa : jZ} {fod my : jY} (hp : iPlaces ro mo) (hn : iNotes no mo) (x1 x2 : Int32) : ∃ fa2 fod2 m2 my2 r, f_WP_chose ro no fa fod x1 x2 = some (fa2, fod2, r) ∧ f_Mo_chose mo my x1 x2 = some (m2, my2, r) ∧ mRel mo m2 := by
  have e0 : (0 : Int32).toInt = 0 := rfl
  have e1 : (1 : Int32).toInt = 1 := rfl
  have e3 : (3 : Int32).toInt = 3 := rfl
  have e6 : (6 : Int32).toInt = 6 := rfl
  have P0 := hp.2.1
  have P12 := hp.2.2.1
  obtain ⟨m2, g1, g2, g3, g4⟩ := knows_i (hn.to (m0 mo 0 0))
  have W1 : f_WP_chose ro no fa fod x1 x2 = (if (3 ≤ x1.toInt ∧ x1.toInt ≤ 6) ∧ (0 ≤ x2.toInt ∧ x2.toInt ≤ 1) then (f_Falls_seekChosen fa fod ro no x1).bind fun q7 => (if x2 = 0 then some (q7.1, q7.2, (Int64.toInt32 (q7.2 2 0))) else some (q7.1, q7.2, (Int64.toInt32 (q7.2 3 0)))) else some (fa, fod, -2147483648)) := by
    unfold f_WP_chose
    rw [within_eq, within_eq]
    simp only [Option.bind_some, e0, e1, e3, e6]
    by_cases c1 : 3 ≤ x1.toInt ∧ x1.toInt ≤ 6
    · rw [if_pos c1, if_neg (by decide)]
      by_cases c2 : 0 ≤ x2.toInt ∧ x2.toInt ≤ 1
      · rw [if_pos c2, if_neg (by decide), if_pos (show (3 ≤ x1.toInt ∧ x1.toInt ≤ 6) ∧ (0 ≤ x2.toInt ∧ x2.toInt ≤ 1) from ⟨c1, c2⟩)]
      · rw [if_neg c2, if_pos rfl, if_neg (show ¬ ((3 ≤ x1.toInt ∧ x1.toInt ≤ 6) ∧ (0 ≤ x2.toInt ∧ x2.toInt ≤ 1)) from fun e => c2 e.2)]
    · rw [if_neg c1, if_pos rfl, if_neg (show ¬ ((3 ≤ x1.toInt ∧ x1.toInt ≤ 6) ∧ (0 ≤ x2.toInt ∧ x2.toInt ≤ 1)) from fun e => c1 e.1)]
  have W2 : f_Mo_chose mo my x1 x2 = (if (3 ≤ x1.toInt ∧ x1.toInt ≤ 6) ∧ (0 ≤ x2.toInt ∧ x2.toInt ≤ 1) then f_Mo_chose_41 x1 x2 FU m2 my 0 0 0 else some (up2 mo 0 0 0, my, -2147483648)) := by
    unfold f_Mo_chose
    rw [g1]
    simp only [Option.bind_some, i_lt, i_le, e0, e1, e3, e6]
    by_cases a1 : x1.toInt < 3
    · rw [if_pos a1, if_neg (by omega)]
    · by_cases a2 : 6 < x1.toInt
      · rw [if_neg a1, if_pos a2, if_neg (by omega)]
      · by_cases a3 : x2.toInt < 0
        · rw [if_neg a1, if_neg a2, if_pos a3, if_neg (by omega)]
        · by_cases a4 : x2.toInt ≤ 1
          · rw [if_neg a1, if_neg a2, if_neg a3, if_pos a4, if_pos (by omega)]
          · rw [if_neg a1, if_neg a2, if_neg a3, if_neg a4, if_neg (by omega)]
  rw [W1, W2]
  by_cases c : (3 ≤ x1.toInt ∧ x1.toInt ≤ 6) ∧ (0 ≤ x2.toInt ∧ x2.toInt ≤ 1)
  · rw [if_pos c, if_pos c]
    obtain ⟨fa2, M, F, q1, q2, q3, q4, q5⟩ := ch_loop hp hn ((m0 mo 0 0).tr g2).A g4 x1 x2 fod my (mo 4 0).toInt.toNat 0 FU FU fa 0 0 (by omega) (by unfold FU; omega) (by unfold FU; omega) (by decide) (by decide) (by decide) (by decide)
    obtain ⟨A, B, k1, k2, -⟩ := terms_ok fod my (Int32.toInt64 F) (Int32.toInt64 M) (by rw [i2l]; omega) (by rw [i2l]; omega) (by rw [i2l]; omega)
    unfold f_Falls_seekChosen
    rw [show f_Falls_seekChosen_8 ro no x1 FU fa fod 0 0 0 = _ from q1, show f_Mo_chose_41 x1 x2 FU m2 my 0 0 0 = _ from q2, k1, k2]
    simp only [Option.bind_some]
    rw [up2_s, up2_s, show up2 (up2 fod 2 0 A) 3 0 B 2 0 = A by rw [up2_k (by decide), up2_s], show up2 (up2 my 45 0 A) 46 0 B 45 0 = A by rw [up2_k (by decide), up2_s]]
    by_cases d : x2 = 0
    · rw [if_pos d, if_pos d]; exact ⟨_, _, _, _, _, rfl, rfl, (m0 mo 0 0).tr g2⟩
    · rw [if_neg d, if_neg d]; exact ⟨_, _, _, _, _, rfl, rfl, (m0 mo 0 0).tr g2⟩
  · rw [if_neg c, if_neg c]
    exact ⟨_, _, _, _, _, rfl, rfl, m0 mo 0 0⟩
