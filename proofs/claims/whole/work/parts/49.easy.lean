theorem find_places {ro mo : jZ} (h : iPlaces ro mo) (x2 : Int32) (m2 : jZ) (r : mRel mo m2) : ∀ (n i : Nat) (N1 N2 : Nat), (i : Int) + n = (mo 4 0).toInt → n < N1 → n < N2 → ∃ q, f_WP_findRoad_names_2 ro (ro 7 0) x2 N1 (nI i) = some q ∧ f_Mo_foundMo_placeName_3 m2 0 (mo 4 0) x2 N2 (nI i) = some q := by
  have e0 : (0 : Int32).toInt = 0 := rfl
  have e5 : (12 : Int32).toInt = 12 := rfl
  obtain ⟨h1, h2, h3, -, -, -, -, h5⟩ := h
  have r5 : m2 8 = mo 8 := r 8 (by unfold mKeep; omega)
  intro n
  induction n with
  | zero =>
    intro i N1 N2 hi hN1 hN2
    obtain ⟨N1, rfl⟩ : ∃ k, N1 = k + 1 := ⟨N1 - 1, by omega⟩
    obtain ⟨N2, rfl⟩ : ∃ k, N2 = k + 1 := ⟨N2 - 1, by omega⟩
    have ti : (nI i).toInt = i := nI_toInt (by omega)
    refine ⟨-1, ?_, ?_⟩
    · rw [f_WP_findRoad_names_2, if_pos (by rw [i_le, h1, ti]; omega)]
    · rw [f_Mo_foundMo_placeName_3, if_pos (by rw [i_le, ti]; omega)]
  | succ n ih =>
    intro i N1 N2 hi hN1 hN2
    obtain ⟨N1, rfl⟩ : ∃ k, N1 = k + 1 := ⟨N1 - 1, by omega⟩
    obtain ⟨N2, rfl⟩ : ∃ k, N2 = k + 1 := ⟨N2 - 1, by omega⟩
    have ti : (nI i).toInt = i := nI_toInt (by omega)
    have tz : (0 + nI i).toInt = i := by rw [i_add (by omega) (by omega), ti, e0]; omega
    have A : f_WP_findRoad_names_2 ro (ro 7 0) x2 (N1 + 1) (nI i) = if mo 8 i = x2 then some (nI i) else f_WP_findRoad_names_2 ro (ro 7 0) x2 N1 (nI (i + 1)) := by
      rw [f_WP_findRoad_names_2, if_neg (by rw [i_le, h1, ti]; omega), if_neg (by rw [i_le, e5, ti]; omega), ix_ok (by omega) (by omega)]
      simp only [Option.bind_some, i_tn, ti, Int.toNat_natCast, (h5 i (by omega)).1, nI_1]
    have B : f_Mo_foundMo_placeName_3 m2 0 (mo 4 0) x2 (N2 + 1) (nI i) = if mo 8 i = x2 then some (nI i) else f_Mo_foundMo_placeName_3 m2 0 (mo 4 0) x2 N2 (nI (i + 1)) := by
      rw [f_Mo_foundMo_placeName_3, if_neg (by rw [i_le, ti]; omega), ix_ok (by omega) (by omega)]
      simp only [Option.bind_some, i_tn, tz, Int.toNat_natCast, r5, nI_1]
    rw [A, B]
    by_cases c : mo 8 i = x2
    · exact ⟨_, by rw [if_pos c], by rw [if_pos c]⟩
    · obtain ⟨q, q1, q2⟩ := ih (i + 1) N1 N2 (by omega) (by omega) (by omega)
      exact ⟨q, by rw [if_neg c]; exact q1, by rw [if_neg c]; exact q2⟩
/-- named -/
theorem op_named {ro ki mo : jZ} (hk : iKinds ki mo) (hp : iPlaces ro mo) (x1 x2 : Int32) : ∃ r, f_WP_named ro ki x1 x2 = some r ∧ f_Mo_named mo x1 x2 = some (up2 mo 0 0 0, r) := by
  have hz : (0 : Int32) = nI 0 := rfl
  unfold f_WP_named f_Mo_named
  by_cases c0 : x1 = 0
  · obtain ⟨q, q1, q2⟩ := find_kinds hk x2 (up2 mo 0 0 0) (m0 mo 0 0) (mo 3 0).toInt.toNat 0 FU FU (by have := hk.2.1; omega) (by have := hk.2.2.1; unfold FU; omega) (by have := hk.2.2.1; unfold FU; omega)
    refine ⟨q, ?_, ?_⟩
    · rw [if_pos c0]; unfold f_WP_findKinds_names; rw [hz, q1]; rfl
    · rw [if_pos c0]; unfold f_Mo_foundMo_kindName; rw [show f_Mo_foundMo_kindName_3 (up2 mo 0 0 0) 0 (mo 3 0) x2 FU 0 = some q from q2]; rfl
  · by_cases c1 : x1 = 1
    · obtain ⟨q, q1, q2⟩ := find_places hp x2 (up2 mo 0 0 0) (m0 mo 0 0) (mo 4 0).toInt.toNat 0 FU FU (by have := hp.2.1; omega) (by have := hp.2.2.1; unfold FU; omega) (by have := hp.2.2.1; unfold FU; omega)
      refine ⟨q, ?_, ?_⟩
      · rw [if_neg c0, if_pos c1]; unfold f_WP_findRoad_names; rw [show f_WP_findRoad_names_2 ro (ro 7 0) x2 FU 0 = some q from q1]; rfl
      · rw [if_neg c0, if_pos c1]; unfold f_Mo_foundMo_placeName; rw [show f_Mo_foundMo_placeName_3 (up2 mo 0 0 0) 0 (mo 4 0) x2 FU 0 = some q from q2]; rfl
    · exact ⟨-1, by rw [if_neg c0, if_neg c1], by rw [if_neg c0, if_neg c1]⟩
/-- number -/
theorem op_number {ro ki ru no mo : jZ} (hk : iKinds ki mo) (hp : iPlaces ro mo) (hn : iNotes no mo) (hr : ru 0 0 = mo 17 0) (x1 : Int32) : ∃ r, f_WP_number ro ki ru no x1 = some r ∧ f_Mo_number mo x1 = some (up2 mo 0 0 0, r) := by
  unfold f_WP_number f_Mo_number f_Notes_byHowMany
  rw [hk.1, hp.1, hn.1, hn.2.2.1, hr, hp.2.2.2.1, hp.2.2.2.2.2.1]
  by_cases c0 : x1 = 0
  · exact ⟨_, by rw [if_pos c0], by rw [if_pos c0]⟩
  · rw [if_neg c0, if_neg c0]
    by_cases c1 : x1 = 1
    · exact ⟨_, by rw [if_pos c1], by rw [if_pos c1]⟩
    · rw [if_neg c1, if_neg c1]
      by_cases c2 : x1 = 2
      · exact ⟨_, by rw [if_pos c2], by rw [if_pos c2]⟩
      · rw [if_neg c2, if_neg c2]
        by_cases c3 : x1 = 3
        · rw [if_pos c3, if_pos c3]
          by_cases l : mo 39 0 = -1
          · exact ⟨_, by rw [if_pos l]; rfl, by rw [if_pos l]⟩
          · exact ⟨_, by rw [if_neg l]; rfl, by rw [if_neg l]⟩
        · rw [if_neg c3, if_neg c3]
          by_cases c4 : x1 = 4
          · exact ⟨_, by rw [if_pos c4], by rw [if_pos c4]⟩
          · rw [if_neg c4, if_neg c4]
            by_cases c5 : x1 = 5
            · exact ⟨_, by rw [if_pos c5], by rw [if_pos c5]⟩
            · rw [if_neg c5, if_neg c5]
              by_cases c6 : x1 = 6
              · exact ⟨_, by rw [if_pos c6], by rw [if_pos c6]⟩
              · exact ⟨_, by rw [if_neg c6], by rw [if_neg c6]⟩
/-- coin -/
theorem op_coin {ro mo : jZ} (hp : iPlaces ro mo) (x1 x2 : Int32) : ∃ ro2 m2 r, f_WP_coin ro x1 x2 = some (ro2, r) ∧ f_Mo_coin mo x1 x2 = some (m2, r) ∧ iPlaces ro2 m2 ∧ (∀ k, k ≠ 0 → k ≠ 14 → m2 k = mo k) ∧ (∀ k, k ≠ 14 → ro2 k = ro k) := by
  have e0 : (0 : Int32).toInt = 0 := rfl
  have e99 : (99 : Int32).toInt = 99 := rfl
  obtain ⟨h1, h2, h3, h4, h5, h6, h7, h8⟩ := id hp
  have W1 : f_WP_coin ro x1 x2 = (if (0 ≤ x1.toInt ∧ x1.toInt < (mo 4 0).toInt) ∧ (0 ≤ x2.toInt ∧ x2.toInt ≤ 99) then some (up2 ro 14 x1.toInt.toNat x2, 1) else some (ro, 0)) := by
    unfold f_WP_coin
    rw [has_is hp, isPlace_eq, within_eq]
    simp only [Option.bind_some, e0, e99]
    by_cases c1 : 0 ≤ x1.toInt ∧ x1.toInt < (mo 4 0).toInt
    · rw [if_pos c1, if_neg (by decide)]
      by_cases c2 : 0 ≤ x2.toInt ∧ x2.toInt ≤ 99
      · rw [if_pos c2, if_neg (by decide), if_pos ⟨c1, c2⟩, ix_ok (by omega) (by omega)]
        rfl
      · rw [if_neg c2, if_pos rfl, if_neg (fun e => c2 e.2)]
    · rw [if_neg c1, if_pos rfl, if_neg (fun e => c1 e.1)]
  have W2 : f_Mo_coin mo x1 x2 = (if (0 ≤ x1.toInt ∧ x1.toInt < (mo 4 0).toInt) ∧ (0 ≤ x2.toInt ∧ x2.toInt ≤ 99) then some (up2 (up2 mo 0 0 0) 14 x1.toInt.toNat x2, 1) else some (up2 mo 0 0 0, 0)) := by
    unfold f_Mo_coin
    rw [isPlace_eq, show (up2 mo 0 0 0) 4 = mo 4 from up2_k (by decide)]
    simp only [Option.bind_some, i_lt, i_le, e0, e99]
    by_cases c1 : 0 ≤ x1.toInt ∧ x1.toInt < (mo 4 0).toInt
    · rw [if_pos c1, if_neg (by decide)]
      by_cases a : x2.toInt < 0
      · rw [if_pos a, if_neg (by omega)]
      · by_cases b : x2.toInt ≤ 99
        · rw [if_neg a, if_pos b, if_pos (by omega), ix_ok (by omega) (by omega)]
          rfl
        · rw [if_neg a, if_neg b, if_neg (by omega)]
    · rw [if_neg c1, if_pos rfl, if_neg (fun e => c1 e.1)]
  rw [W1, W2]
  by_cases c : (0 ≤ x1.toInt ∧ x1.toInt < (mo 4 0).toInt) ∧ (0 ≤ x2.toInt ∧ x2.toInt ≤ 99)
  · rw [if_pos c, if_pos c]
    refine ⟨_, _, _, rfl, rfl, ?_, fun k a b => by rw [up2_k b, up2_k a], fun k a => up2_k a⟩
    have q : ∀ k, k ≠ 14 → k ≠ 0 → up2 (up2 mo 0 0 0) 14 x1.toInt.toNat x2 k = mo k := fun k a b => by rw [up2_k a, up2_k b]
    have q2 : ∀ k, k ≠ 14 → up2 ro 14 x1.toInt.toNat x2 k = ro k := fun k a => up2_k a
    unfold iPlaces
    rw [q 4 (by decide) (by decide), q 18 (by decide) (by decide), q 19 (by decide) (by decide), q 8 (by decide) (by decide), q 9 (by decide) (by decide), q 10 (by decide) (by decide), q 11 (by decide) (by decide), q 12 (by decide) (by decide), q 13 (by decide) (by decide), q2 7 (by decide), q2 5 (by decide), q2 6 (by decide), q2 8 (by decide), q2 9 (by decide), q2 10 (by decide), q2 11 (by decide), q2 12 (by decide), q2 13 (by decide)]
    refine ⟨h1, h2, h3, h4, h5, h6, h7, fun p hpp => ?_⟩
    obtain ⟨g1, g2, g3, g4, g5, g6, g7⟩ := h8 p hpp
    refine ⟨g1, g2, g3, g4, g5, g6, ?_⟩
    rw [up2_if, up2_if, up2_k (by decide)]
    by_cases e : p = x1.toInt.toNat
    · rw [if_pos e, if_pos e]; exact ⟨rfl, c.2.1, c.2.2⟩
    · rw [if_neg e, if_neg e]; exact g7
  · rw [if_neg c, if_neg c]
    exact ⟨_, _, _, rfl, rfl, hp.to (m0 mo 0 0), fun k a _ => up2_k a, fun _ _ => rfl⟩
