/-- rate -/
theorem op_rate {ro ki no mo : jZ} {od my : jY} (hk : iKinds ki mo) (hp : iPlaces ro mo) (hn : iNotes no mo) (x1 x2 x3 x4 : Int32) : ∃ od2 m2 my2 r, f_WP_rate ro ki no od x1 x2 x3 x4 = some (od2, r) ∧ f_Mo_rate mo my x1 x2 x3 x4 = some (m2, my2, r) ∧ mRel mo m2 := by
  have e0 : (0 : Int32).toInt = 0 := rfl
  have e1 : (1 : Int32).toInt = 1 := rfl
  have P12 := hp.2.2.1
  obtain ⟨m2, g1, g2, g3, g4⟩ := knows_i (hn.to (m0 mo 0 0))
  have r3 : ∀ q, mKeep q → m2 q = mo q := ((m0 mo 0 0).tr g2)
  have W1 : f_WP_rate ro ki no od x1 x2 x3 x4 = (if (0 ≤ x1.toInt ∧ x1.toInt < (mo 4 0).toInt) ∧ (0 ≤ x2.toInt ∧ x2.toInt ≤ x3.toInt ∧ x3.toInt ≤ 8 ∧ x3.toInt - x2.toInt ≤ 5) ∧ (0 ≤ x4.toInt ∧ x4.toInt ≤ 1) then (f_Odds_seekRate od ki no x1 x2 x3).bind fun q10 => (if x4 = 0 then some (q10, (q10 2 0)) else some (q10, (q10 3 0))) else some (od, -1)) := by
    unfold f_WP_rate
    rw [has_is hp, isPlace_eq, years_eq, within_eq]
    simp only [Option.bind_some, e0, e1]
    by_cases c1 : 0 ≤ x1.toInt ∧ x1.toInt < (mo 4 0).toInt
    · rw [if_pos c1, if_neg (by decide)]
      by_cases c2 : 0 ≤ x2.toInt ∧ x2.toInt ≤ x3.toInt ∧ x3.toInt ≤ 8 ∧ x3.toInt - x2.toInt ≤ 5
      · rw [if_pos c2, if_neg (by decide)]
        by_cases c3 : 0 ≤ x4.toInt ∧ x4.toInt ≤ 1
        · rw [if_pos c3, if_neg (by decide), if_pos ⟨c1, c2, c3⟩]
        · rw [if_neg c3, if_pos rfl, if_neg (fun e => c3 e.2.2)]
      · rw [if_neg c2, if_pos rfl, if_neg (fun e => c2 e.2.1)]
    · rw [if_neg c1, if_pos rfl, if_neg (fun e => c1 e.1)]
  have W2 : f_Mo_rate mo my x1 x2 x3 x4 = (if (0 ≤ x1.toInt ∧ x1.toInt < (mo 4 0).toInt) ∧ (0 ≤ x2.toInt ∧ x2.toInt ≤ x3.toInt ∧ x3.toInt ≤ 8 ∧ x3.toInt - x2.toInt ≤ 5) ∧ (0 ≤ x4.toInt ∧ x4.toInt ≤ 1) then (f_Mo_rates m2 my x1 x2 x3).bind fun q11 => (if x4 = 0 then some (m2, q11, (q11 45 0)) else some (m2, q11, (q11 46 0))) else some (up2 mo 0 0 0, my, -1)) := by
    unfold f_Mo_rate
    rw [isPlace_eq, years_mo, years_eq, show (up2 mo 0 0 0) 4 = mo 4 from up2_k (by decide), g1]
    simp only [Option.bind_some, i_lt, i_le, e0, e1]
    by_cases c1 : 0 ≤ x1.toInt ∧ x1.toInt < (mo 4 0).toInt
    · rw [if_pos c1, if_neg (by decide)]
      by_cases c2 : 0 ≤ x2.toInt ∧ x2.toInt ≤ x3.toInt ∧ x3.toInt ≤ 8 ∧ x3.toInt - x2.toInt ≤ 5
      · rw [if_pos c2, if_neg (by decide)]
        by_cases a : x4.toInt < 0
        · rw [if_pos a, if_neg (by omega)]
        · by_cases b : x4.toInt ≤ 1
          · rw [if_neg a, if_pos b, if_pos (by omega)]
          · rw [if_neg a, if_neg b, if_neg (by omega)]
      · rw [if_neg c2, if_pos rfl, if_neg (fun e => c2 e.2.1)]
    · rw [if_neg c1, if_pos rfl, if_neg (fun e => c1 e.1)]
  rw [W1, W2]
  by_cases c : (0 ≤ x1.toInt ∧ x1.toInt < (mo 4 0).toInt) ∧ (0 ≤ x2.toInt ∧ x2.toInt ≤ x3.toInt ∧ x3.toInt ≤ 8 ∧ x3.toInt - x2.toInt ≤ 5) ∧ (0 ≤ x4.toInt ∧ x4.toInt ≤ 1)
  · rw [if_pos c, if_pos c]
    obtain ⟨od2, A, B, q1, q2, q3, q4, -⟩ := rate_ok (m2 := m2) hk hn (r3 3 (by unfold mKeep; omega)) (r3 6 (by unfold mKeep; omega)) (r3 7 (by unfold mKeep; omega)) g4 x1.toInt.toNat x2.toInt.toNat (x3.toInt + 1 - x2.toInt).toNat (by omega) (by omega) (by omega) (by omega) x1 x2 x3 (by omega) (by omega) (by omega) od my
    rw [q1, q4, Option.bind_some, Option.bind_some, q2, q3, up2_s, up2_k (by decide), up2_s]
    by_cases d : x4 = 0
    · rw [if_pos d, if_pos d]; exact ⟨_, _, _, _, rfl, rfl, (m0 mo 0 0).tr g2⟩
    · rw [if_neg d, if_neg d]; exact ⟨_, _, _, _, rfl, rfl, (m0 mo 0 0).tr g2⟩
  · rw [if_neg c, if_neg c]
    exact ⟨_, _, _, _, rfl, rfl, m0 mo 0 0⟩
