theorem sv_4 {po m3 mo : jZ} (h1 : po 1 0 = mo 4 0) (hP : (mo 4 0).toInt ≤ 12) (h4 : m3 4 = mo 4) (h18 : m3 18 = mo 18) (h19 : m3 19 = mo 19) (hr : ∀ j : Nat, (j : Int) < (mo 4 0).toInt → pRow po m3 mo j) (x : Int32) : ∀ (n i N1 N2 : Nat) (v : Int32), (i : Int) + n = (mo 4 0).toInt → n < N1 → n < N2 → ∃ q, f_Poles_saved_4 po x N1 v (nI i) = some q ∧ f_Mo_savedBy_4 m3 x N2 v (nI i) = some q := by
  have i12 : (12 : Int32).toInt = 12 := rfl
  have i1 : (1 : Int32).toInt = 1 := rfl
  intro n
  induction n with
  | zero =>
    intro i N1 N2 v hi hN1 hN2
    obtain ⟨N1, rfl⟩ : ∃ k, N1 = k + 1 := ⟨N1 - 1, by omega⟩
    obtain ⟨N2, rfl⟩ : ∃ k, N2 = k + 1 := ⟨N2 - 1, by omega⟩
    have ti : (nI i).toInt = i := nI_toInt (by omega)
    exact ⟨v, by rw [f_Poles_saved_4, h1, if_pos (by rw [i_le]; omega)], by rw [f_Mo_savedBy_4, h4, if_pos (by rw [i_le]; omega)]⟩
  | succ n ih =>
    intro i N1 N2 v hi hN1 hN2
    obtain ⟨N1, rfl⟩ : ∃ k, N1 = k + 1 := ⟨N1 - 1, by omega⟩
    obtain ⟨N2, rfl⟩ : ∃ k, N2 = k + 1 := ⟨N2 - 1, by omega⟩
    have ti : (nI i).toInt = i := nI_toInt (by omega)
    have ti1 : (nI i + 1).toInt = (i : Int) + 1 := by rw [i_add (by omega) (by omega), ti, i1]
    obtain ⟨z1, z2, z3, z4, z5⟩ := hr i (by omega)
    have as : ∀ a b c : Int32, (a + b) - c = a + (b - c) := fun a b c => by rw [Int32.sub_eq_add_neg, Int32.sub_eq_add_neg, Int32.add_assoc]
    have A : f_Poles_saved_4 po x (N1 + 1) v (nI i) = (if ((x >>> (nI i &&& 31)) &&& 1) = 0 then f_Poles_saved_4 po x N1 v (nI (i + 1)) else f_Poles_saved_4 po x N1 (v + ((m3 56 i * mo 18 0) / 10 - (if (mo 4 0).toInt ≤ (i : Int) + 1 then 0 else if ((x >>> ((nI i + 1) &&& 31)) &&& 1) = 0 then (((m3 56 i * mo 18 0) / 10) * mo 19 0) / 10 else 0))) (nI (i + 1))) := by
      rw [f_Poles_saved_4, h1, if_neg (by rw [i_le]; omega), if_neg (by rw [i_le]; omega), ix_ok (by omega) (by omega)]
      simp only [Option.bind_some, i_tn, ti, Int.toNat_natCast, z3, z4, nI_1, as]
      by_cases c : ((x >>> (nI i &&& 31)) &&& 1) = 0
      · rw [if_pos c, if_pos c]
      · rw [if_neg c, if_neg c]
        by_cases d : (mo 4 0).toInt ≤ (i : Int) + 1
        · simp only [if_pos d]
          split <;> rfl
        · simp only [if_neg d]
          split <;> rfl
    have B : f_Mo_savedBy_4 m3 x (N2 + 1) v (nI i) = (if ((x >>> (nI i &&& 31)) &&& 1) = 0 then f_Mo_savedBy_4 m3 x N2 v (nI (i + 1)) else f_Mo_savedBy_4 m3 x N2 (v + ((m3 56 i * mo 18 0) / 10 - (if (mo 4 0).toInt ≤ (i : Int) + 1 then 0 else if ((x >>> ((nI i + 1) &&& 31)) &&& 1) = 0 then (((m3 56 i * mo 18 0) / 10) * mo 19 0) / 10 else 0))) (nI (i + 1))) := by
      rw [f_Mo_savedBy_4, h4, if_neg (by rw [i_le]; omega), ix_ok (by omega) (by omega)]
      simp only [Option.bind_some, i_tn, ti, Int.toNat_natCast, h18, h19]
      by_cases c : ((x >>> (nI i &&& 31)) &&& 1) = 0
      · rw [if_pos c, if_pos c, nI_1]
      · rw [if_neg c, if_neg c]
        by_cases d : (mo 4 0).toInt ≤ (i : Int) + 1
        · rw [if_pos (by rw [i_le, ti1]; exact d), if_pos d, nI_1]
        · rw [if_neg (by rw [i_le, ti1]; exact d), if_neg d]
          split <;> rw [nI_1]
    rw [A, B]
    by_cases c : ((x >>> (nI i &&& 31)) &&& 1) = 0
    · rw [if_pos c, if_pos c]; exact ih (i + 1) N1 N2 _ (by omega) (by omega) (by omega)
    · rw [if_neg c, if_neg c]; exact ih (i + 1) N1 N2 _ (by omega) (by omega) (by omega)
theorem br_4 {po m3 mo : jZ} (h1 : po 1 0 = mo 4 0) (hP : (mo 4 0).toInt ≤ 12) (h4 : m3 4 = mo 4) (h14 : m3 14 = mo 14) (hr : ∀ j : Nat, (j : Int) < (mo 4 0).toInt → pRow po m3 mo j) (x : Int32) : ∀ (n i N1 N2 : Nat) (v : Int32), (i : Int) + n = (mo 4 0).toInt → n < N1 → n < N2 → ∃ q, f_Poles_brought_4 po x N1 v (nI i) = some q ∧ f_Mo_coinOf_4 m3 x N2 v (nI i) = some q := by
  have i12 : (12 : Int32).toInt = 12 := rfl
  intro n
  induction n with
  | zero =>
    intro i N1 N2 v hi hN1 hN2
    obtain ⟨N1, rfl⟩ : ∃ k, N1 = k + 1 := ⟨N1 - 1, by omega⟩
    obtain ⟨N2, rfl⟩ : ∃ k, N2 = k + 1 := ⟨N2 - 1, by omega⟩
    have ti : (nI i).toInt = i := nI_toInt (by omega)
    exact ⟨v, by rw [f_Poles_brought_4, h1, if_pos (by rw [i_le]; omega)], by rw [f_Mo_coinOf_4, h4, if_pos (by rw [i_le]; omega)]⟩
  | succ n ih =>
    intro i N1 N2 v hi hN1 hN2
    obtain ⟨N1, rfl⟩ : ∃ k, N1 = k + 1 := ⟨N1 - 1, by omega⟩
    obtain ⟨N2, rfl⟩ : ∃ k, N2 = k + 1 := ⟨N2 - 1, by omega⟩
    have ti : (nI i).toInt = i := nI_toInt (by omega)
    obtain ⟨z1, z2, z3, z4, z5⟩ := hr i (by omega)
    rw [f_Poles_brought_4, f_Mo_coinOf_4, h1, h4, if_neg (by rw [i_le]; omega), if_neg (show ¬ 12 ≤ nI i by rw [i_le]; omega), if_neg (show ¬ mo 4 0 ≤ nI i by rw [i_le]; omega), ix_ok (by omega) (by omega)]
    simp only [Option.bind_some, i_tn, ti, Int.toNat_natCast, z5, h14, nI_1]
    rcases bit01 (x >>> (nI i &&& 31)) with c | c
    · rw [c, if_pos rfl, if_neg (by decide)]; exact ih (i + 1) N1 N2 _ (by omega) (by omega) (by omega)
    · rw [c, if_neg (by decide), if_pos rfl]; exact ih (i + 1) N1 N2 _ (by omega) (by omega) (by omega)
theorem pl_54 {po m3 mo : jZ} (h1 : po 1 0 = mo 4 0) (P : Nat) (hP : mo 4 0 = nI P) (hP12 : P ≤ 12) (h4 : m3 4 = mo 4) (SV : ∀ x, ∃ q, f_Poles_saved po x = some q ∧ f_Mo_savedBy m3 x = some q) (BR : ∀ x, ∃ q, f_Poles_brought po x = some q ∧ f_Mo_coinOf m3 x = some q) (x1 x2 x3 y : Int32) (hy : (y = 0 ∧ ¬ x2 = 0) ∨ (y = 1 ∧ x2 = 0)) (moy : jY) : ∀ (n s N1 N2 : Nat) (v w : Int32), s + n = 2 ^ P → n < N1 → n < N2 → ∃ b : Int32, f_Poles_best_8 po x1 y N1 v w (nI s) = some b ∧ f_Mo_poles_54 x1 x2 x3 N2 m3 moy v w (nI s) = (if x3 = 0 then some (m3, moy, b) else (if x3 = 1 then (f_Mo_savedBy m3 b).bind fun q16 => some (m3, moy, q16) else (f_Mo_coinOf m3 b).bind fun q14 => some (m3, moy, q14))) := by
  have sh := p2_12 P (by omega)
  have pw : 2 ^ P ≤ 4096 := Nat.pow_le_pow_right (by decide) hP12 (n := 2)
  have sh' : ((1 : Int32) <<< (nI P &&& 31)).toInt = ((2 ^ P : Nat) : Int) := by rw [sh, Int.natCast_pow]; rfl
  intro n
  induction n with
  | zero =>
    intro s N1 N2 v w hs hN1 hN2
    obtain ⟨N1, rfl⟩ : ∃ k, N1 = k + 1 := ⟨N1 - 1, by omega⟩
    obtain ⟨N2, rfl⟩ : ∃ k, N2 = k + 1 := ⟨N2 - 1, by omega⟩
    have ts : (nI s).toInt = s := nI_toInt (by omega)
    exact ⟨v, by rw [f_Poles_best_8, h1, hP, if_pos (by rw [i_le]; omega)], by rw [f_Mo_poles_54, h4, hP, if_pos (by rw [i_le]; omega)]⟩
  | succ n ih =>
    intro s N1 N2 v w hs hN1 hN2
    obtain ⟨N1, rfl⟩ : ∃ k, N1 = k + 1 := ⟨N1 - 1, by omega⟩
    obtain ⟨N2, rfl⟩ : ∃ k, N2 = k + 1 := ⟨N2 - 1, by omega⟩
    have ts : (nI s).toInt = s := nI_toInt (by omega)
    rw [f_Poles_best_8, h1, hP, if_neg (by rw [i_le]; omega), bc_all s (by omega), Option.bind_some, f_Mo_poles_54, h4, hP, if_neg (show ¬ (1 : Int32) <<< (nI P &&& 31) ≤ nI s by rw [i_le]; omega), bits_eq, Option.bind_some]
    have E : ∀ q : Int32, ∃ b : Int32, f_Poles_best_50 po x1 y (fun v3 v4 v5 => f_Poles_best_8 po x1 y N1 v3 v4 v5) v w (nI s) q = some b ∧ f_Mo_poles_96 x1 x2 x3 (fun mo_z mo_y v4 v5 v6 => f_Mo_poles_54 x1 x2 x3 N2 mo_z mo_y v4 v5 v6) m3 moy v w (nI s) q = (if x3 = 0 then some (m3, moy, b) else (if x3 = 1 then (f_Mo_savedBy m3 b).bind fun q16 => some (m3, moy, q16) else (f_Mo_coinOf m3 b).bind fun q14 => some (m3, moy, q14))) := fun q => by
      unfold f_Poles_best_50 f_Mo_poles_96
      rw [nI_1]
      by_cases c : v = -1
      · rw [if_pos c, if_pos c]; exact ih (s + 1) N1 N2 _ _ (by omega) (by omega) (by omega)
      · rw [if_neg c, if_neg c]
        by_cases d : q ≤ w
        · rw [if_pos d]
          rw [i_le] at d
          rw [if_neg (show ¬ w < q by rw [i_lt]; omega)]
          exact ih (s + 1) N1 N2 _ _ (by omega) (by omega) (by omega)
        · rw [if_neg d]
          rw [i_le] at d
          rw [if_pos (show w < q by rw [i_lt]; omega)]
          exact ih (s + 1) N1 N2 _ _ (by omega) (by omega) (by omega)
    by_cases c : bsum (nI s) = x1
    · rw [if_pos c, if_pos c]
      rcases hy with ⟨e1, e2⟩ | ⟨e1, e2⟩
      · obtain ⟨q, q1, q2⟩ := BR (nI s)
        rw [if_pos e1, if_neg e2, q1, q2, Option.bind_some, Option.bind_some]
        exact E q
      · obtain ⟨q, q1, q2⟩ := SV (nI s)
        rw [if_neg (by rw [e1]; decide), if_pos e2, q1, q2, Option.bind_some, Option.bind_some]
        exact E q
    · rw [if_neg c, if_neg c, nI_1]
      exact ih (s + 1) N1 N2 _ _ (by omega) (by omega) (by omega)
theorem sv_ok {po m3 mo : jZ} (h1 : po 1 0 = mo 4 0) (hP0 : 0 ≤ (mo 4 0).toInt) (hP : (mo 4 0).toInt ≤ 12) (h4 : m3 4 = mo 4) (h18 : m3 18 = mo 18) (h19 : m3 19 = mo 19) (hr : ∀ j : Nat, (j : Int) < (mo 4 0).toInt → pRow po m3 mo j) (x : Int32) : ∃ q, f_Poles_saved po x = some q ∧ f_Mo_savedBy m3 x = some q := by
  obtain ⟨q, q1, q2⟩ := sv_4 h1 hP h4 h18 h19 hr x (mo 4 0).toInt.toNat 0 FU FU 0 (by omega) (by unfold FU; omega) (by unfold FU; omega)
  exact ⟨q, q1, q2⟩
theorem br_ok {po m3 mo : jZ} (h1 : po 1 0 = mo 4 0) (hP0 : 0 ≤ (mo 4 0).toInt) (hP : (mo 4 0).toInt ≤ 12) (h4 : m3 4 = mo 4) (h14 : m3 14 = mo 14) (hr : ∀ j : Nat, (j : Int) < (mo 4 0).toInt → pRow po m3 mo j) (x : Int32) : ∃ q, f_Poles_brought po x = some q ∧ f_Mo_coinOf m3 x = some q := by
  obtain ⟨q, q1, q2⟩ := br_4 h1 hP h4 h14 hr x (mo 4 0).toInt.toNat 0 FU FU 0 (by omega) (by unfold FU; omega) (by unfold FU; omega)
  exact ⟨q, q1, q2⟩
theorem best_ok {po m3 mo : jZ} (h1 : po 1 0 = mo 4 0) (P : Nat) (hP : mo 4 0 = nI P) (hP12 : P ≤ 12) (h4 : m3 4 = mo 4) (SV : ∀ x, ∃ q, f_Poles_saved po x = some q ∧ f_Mo_savedBy m3 x = some q) (BR : ∀ x, ∃ q, f_Poles_brought po x = some q ∧ f_Mo_coinOf m3 x = some q) (x1 x2 x3 y : Int32) (hy : (y = 0 ∧ ¬ x2 = 0) ∨ (y = 1 ∧ x2 = 0)) (moy : jY) : ∃ b : Int32, f_Poles_best po x1 y = some b ∧ f_Mo_poles_54 x1 x2 x3 FU m3 moy (-1) 0 0 = (if x3 = 0 then some (m3, moy, b) else (if x3 = 1 then (f_Mo_savedBy m3 b).bind fun q16 => some (m3, moy, q16) else (f_Mo_coinOf m3 b).bind fun q14 => some (m3, moy, q14))) := by
  have pw : 2 ^ P ≤ 4096 := Nat.pow_le_pow_right (by decide) hP12 (n := 2)
  have hF : 4096 < FU := by decide
  obtain ⟨b, b1, b2⟩ := pl_54 h1 P hP hP12 h4 SV BR x1 x2 x3 y hy moy (2 ^ P) 0 FU FU (-1) 0 (Nat.zero_add _) (Nat.lt_of_le_of_lt pw hF) (Nat.lt_of_le_of_lt pw hF)
  exact ⟨b, b1, b2⟩
/-- poles -/
theorem op_poles {ro ki no mo po : jZ} {pod my : jY} (hk : iKinds ki mo) (hp : iPlaces ro mo) (hn : iNotes no mo) (x1 x2 x3 : Int32) : ∃ po2 pod2 m2 my2 r, f_WP_poles ro ki no po pod x1 x2 x3 = some (po2, pod2, r) ∧ f_Mo_poles mo my x1 x2 x3 = some (m2, my2, r) ∧ mRel mo m2 := by
  have i0 : (0 : Int32).toInt = 0 := rfl
  have i1 : (1 : Int32).toInt = 1 := rfl
  have i2 : (2 : Int32).toInt = 2 := rfl
  have P0 := hp.2.1
  have P12 := hp.2.2.1
  obtain ⟨m2, k1, k2, k3, k4⟩ := knows_i (hn.to (m0 mo 0 0))
  have r3 : mRel mo m2 := (m0 mo 0 0).tr k2
  obtain ⟨po2, pod2, m3, my3, g1, g2, g3, g4, g5⟩ := rates_all hk hp hn r3.A k4 po pod my
  have r33 : mRel mo m3 := fun q hq => (g4 q (by unfold mKeep at hq; omega)).trans (r3 q hq)
  have W1 : f_WP_poles ro ki no po pod x1 x2 x3 = (if (0 ≤ x1.toInt ∧ x1.toInt ≤ (mo 4 0).toInt) ∧ (0 ≤ x2.toInt ∧ x2.toInt ≤ 1) ∧ (0 ≤ x3.toInt ∧ x3.toInt ≤ 2) then (if x2 = 0 then f_WP_poles_60 ro ki no x1 x2 x3 po2 pod2 1 x1 else f_WP_poles_60 ro ki no x1 x2 x3 po2 pod2 0 x1) else some (po, pod, -1)) := by
    unfold f_WP_poles
    rw [within_eq, within_eq, within_eq, g1, hp.1]
    simp only [Option.bind_some, b10, i_eq, i0, i1, i2]
    repeat' split
    all_goals first | rfl | (exfalso; omega)
  have W2 : f_Mo_poles mo my x1 x2 x3 = (if (0 ≤ x1.toInt ∧ x1.toInt ≤ (mo 4 0).toInt) ∧ (0 ≤ x2.toInt ∧ x2.toInt ≤ 1) ∧ (0 ≤ x3.toInt ∧ x3.toInt ≤ 2) then f_Mo_poles_54 x1 x2 x3 FU m3 my3 (-1) 0 0 else some (up2 mo 0 0 0, my, -1)) := by
    unfold f_Mo_poles
    rw [k1, Option.bind_some, g2, Option.bind_some]
    simp only [i_lt, i_le, i0, i1, i2]
    repeat' split
    all_goals first | rfl | (exfalso; omega)
  rw [W1, W2]
  by_cases c : (0 ≤ x1.toInt ∧ x1.toInt ≤ (mo 4 0).toInt) ∧ (0 ≤ x2.toInt ∧ x2.toInt ≤ 1) ∧ (0 ≤ x3.toInt ∧ x3.toInt ≤ 2)
  · rw [if_pos c, if_pos c]
    have q4 : m3 4 = mo 4 := r33 4 (by unfold mKeep; omega)
    have SV : ∀ x, ∃ q, f_Poles_saved po2 x = some q ∧ f_Mo_savedBy m3 x = some q := sv_ok g3 P0 P12 q4 (r33 18 (by unfold mKeep; omega)) (r33 19 (by unfold mKeep; omega)) g5
    have BR : ∀ x, ∃ q, f_Poles_brought po2 x = some q ∧ f_Mo_coinOf m3 x = some q := br_ok g3 P0 P12 q4 (r33 14 (by unfold mKeep; omega)) g5
    have E : ∀ y : Int32, ((y = 0 ∧ ¬ x2 = 0) ∨ (y = 1 ∧ x2 = 0)) → ∃ po2' pod2' m2 my2 r, f_WP_poles_60 ro ki no x1 x2 x3 po2 pod2 y x1 = some (po2', pod2', r) ∧ f_Mo_poles_54 x1 x2 x3 FU m3 my3 (-1) 0 0 = some (m2, my2, r) ∧ mRel mo m2 := fun y hy => by
      obtain ⟨b, b1, b2⟩ := best_ok g3 (mo 4 0).toInt.toNat (nI_bk P0 (by omega)).symm (by omega) q4 SV BR x1 x2 x3 y hy my3
      unfold f_WP_poles_60
      rw [b1, Option.bind_some, b2]
      by_cases d : x3 = 0
      · rw [if_pos d, if_pos d]; exact ⟨_, _, _, _, _, rfl, rfl, r33⟩
      · rw [if_neg d, if_neg d]
        by_cases e : x3 = 1
        · obtain ⟨q, q1, q2⟩ := SV b
          rw [if_pos e, if_pos e, q1, q2]; exact ⟨_, _, _, _, _, rfl, rfl, r33⟩
        · obtain ⟨q, q1, q2⟩ := BR b
          rw [if_neg e, if_neg e, q1, q2]; exact ⟨_, _, _, _, _, rfl, rfl, r33⟩
    by_cases d : x2 = 0
    · rw [if_pos d]; exact E 1 (Or.inr ⟨rfl, d⟩)
    · rw [if_neg d]; exact E 0 (Or.inl ⟨rfl, d⟩)
  · rw [if_neg c, if_neg c]
    exact ⟨_, _, _, _, _, rfl, rfl, m0 mo 0 0⟩
