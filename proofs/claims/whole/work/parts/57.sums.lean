/-- sums of years, on both sides -/
theorem sum_6 {no mo m2 : jZ} (hn : iNotes no mo) (ht : ∀ j, j < 108 → m2 44 j = no 7 j) (x1 x2 x3 : Int32) (h1 : 0 ≤ x1.toInt) (h2 : x1.toInt < 12) (h3 : x3.toInt ≤ 9) : ∀ (n i N1 N2 : Nat) (v4 : Int32), (i : Int) + n = x3.toInt → n < N1 → n < N2 → 0 ≤ v4.toInt → v4.toInt ≤ 9 * i →
    ∃ q : Int32, f_Notes_sumOf_6 no x1 x2 x3 N1 v4 (nI i) = some q ∧ f_Mo_window_6 m2 x1 x2 x3 N2 v4 (nI i) = some q ∧ (q = -1 ∨ (0 ≤ q.toInt ∧ q.toInt ≤ 9 * x3.toInt)) := by
  have e9 : (9 : Int32).toInt = 9 := rfl
  have em : (-1 : Int32).toInt = -1 := rfl
  intro n
  induction n with
  | zero =>
    intro i N1 N2 v4 hi hN1 hN2 h0 hb
    obtain ⟨N1, rfl⟩ : ∃ k, N1 = k + 1 := ⟨N1 - 1, by omega⟩
    obtain ⟨N2, rfl⟩ : ∃ k, N2 = k + 1 := ⟨N2 - 1, by omega⟩
    have ti : (nI i).toInt = i := nI_toInt (by omega)
    exact ⟨v4, by rw [f_Notes_sumOf_6, if_pos (by rw [i_le, ti]; omega)], by rw [f_Mo_window_6, if_pos (by rw [i_le, ti]; omega)], Or.inr (by omega)⟩
  | succ n ih =>
    intro i N1 N2 v4 hi hN1 hN2 h0 hb
    obtain ⟨N1, rfl⟩ : ∃ k, N1 = k + 1 := ⟨N1 - 1, by omega⟩
    obtain ⟨N2, rfl⟩ : ∃ k, N2 = k + 1 := ⟨N2 - 1, by omega⟩
    have ti : (nI i).toInt = i := nI_toInt (by omega)
    have A : f_Notes_sumOf_6 no x1 x2 x3 (N1 + 1) v4 (nI i) = (f_Notes_at no x1 (x2 + nI i)).bind fun q3 => (if q3 = (-1) then some (-1) else f_Notes_sumOf_6 no x1 x2 x3 N1 (v4 + q3) (nI (i + 1))) := by
      rw [f_Notes_sumOf_6, if_neg (by rw [i_le, ti]; omega), if_neg (by rw [i_le, ti]; omega), nI_1]
    have B : f_Mo_window_6 m2 x1 x2 x3 (N2 + 1) v4 (nI i) = (f_Notes_at no x1 (x2 + nI i)).bind fun q3 => (if q3 = (-1) then some (-1) else f_Mo_window_6 m2 x1 x2 x3 N2 (v4 + q3) (nI (i + 1))) := by
      rw [f_Mo_window_6, if_neg (by rw [i_le, ti]; omega), countOf_eq ht x1 _ h1 h2, nI_1]
    rw [A, B, at_eq, Option.bind_some, Option.bind_some]
    by_cases y : 0 ≤ x1.toInt ∧ x1.toInt < 12 ∧ 0 ≤ (x2 + nI i).toInt ∧ (x2 + nI i).toInt < 9
    · rw [if_pos y]
      rcases hn.rng (j := (x1.toInt * 9 + (x2 + nI i).toInt).toNat) (by omega) with c | c
      · rw [if_pos c, if_pos c]; exact ⟨-1, rfl, rfl, Or.inl rfl⟩
      · have nc : ¬ no 7 (x1.toInt * 9 + (x2 + nI i).toInt).toNat = -1 := fun e => by have := congrArg Int32.toInt e; rw [em] at this; omega
        rw [if_neg nc, if_neg nc]
        have ha : (v4 + no 7 (x1.toInt * 9 + (x2 + nI i).toInt).toNat).toInt = v4.toInt + (no 7 (x1.toInt * 9 + (x2 + nI i).toInt).toNat).toInt := i_add (by omega) (by omega)
        exact ih (i + 1) N1 N2 _ (by omega) (by omega) (by omega) (by rw [ha]; omega) (by rw [ha]; omega)
    · rw [if_neg y, if_pos rfl, if_pos rfl]; exact ⟨-1, rfl, rfl, Or.inl rfl⟩
theorem window_ok {no mo m2 : jZ} (hn : iNotes no mo) (ht : ∀ j, j < 108 → m2 44 j = no 7 j) (x1 x2 x3 : Int32) (h1 : 0 ≤ x1.toInt) (h2 : x1.toInt < 12) (h0 : 0 ≤ x3.toInt) (h3 : x3.toInt ≤ 9) : ∃ q : Int32, f_Notes_sumOf no x1 x2 x3 = some q ∧ f_Mo_window m2 x1 x2 x3 = some q ∧ (q = -1 ∨ (0 ≤ q.toInt ∧ q.toInt ≤ 9 * x3.toInt)) := by
  obtain ⟨q, q1, q2, q3⟩ := sum_6 hn ht x1 x2 x3 h1 h2 h3 x3.toInt.toNat 0 FU FU 0 (by omega) (by unfold FU; omega) (by unfold FU; omega) (by decide) (by decide)
  exact ⟨q, q1, q2, q3⟩
