theorem applyLaw_ok {ki ru mo lu : jZ} {ruy luy : jY} (hk : iKinds ki mo) (hR : iRule ru mo) (hL : iLuck lu luy mo) (x1 : Int32) (h0 : 0 ≤ x1.toInt) : ∃ lu2 luy2 ru2 ruy2, f_Luck_applyLaw lu luy ki ru ruy x1 = some (lu2, luy2, ru2, ruy2) ∧ (luy2 1 0).toInt = LW (hT mo x1) mo ∧ (luy2 2 0).toInt = LW (hH mo x1) mo ∧ (luy2 3 0).toInt = LW (hS mo x1) mo ∧ lu2 0 0 = x1 ∧ ru2 0 = ru 0 ∧ ru2 1 = ru 1 := by
  unfold f_Luck_applyLaw
  by_cases c : lu 0 0 = x1
  · rw [if_pos c]
    rcases hL with h | ⟨a, b, d⟩
    · rw [← c, h] at h0
      exact absurd h0 (by decide)
    · rw [c] at a b d
      exact ⟨_, _, _, _, rfl, a, b, d, c, rfl, rfl⟩
  · rw [if_neg c]
    generalize hl : up2 (up2 (up2 luy 1 0 0) 2 0 0) 3 0 0 = l
    have l1 : l 1 0 = 0 := by rw [← hl, up2_k (by decide), up2_k (by decide), up2_s]
    have l2 : l 2 0 = 0 := by rw [← hl, up2_k (by decide), up2_s]
    have l3 : l 3 0 = 0 := by rw [← hl, up2_s]
    obtain ⟨luy2, ru2, ruy2, g1, g2, g3, g4, g5, g6⟩ := la_31 hk (up2 lu 0 0 x1) x1 up2_s 1000 0 FU l ru ruy rfl (by decide) hR (by rw [l1]; rfl) (by rw [l2]; rfl) (by rw [l3]; rfl) (by rw [l1]; decide) (by rw [l1]; decide) (by rw [l2]; decide) (by rw [l2]; decide) (by rw [l3]; decide) (by rw [l3]; decide)
    obtain ⟨q1, q2, q3⟩ := law_c hk x1
    exact ⟨_, _, _, _, g1, g2.trans q1, g3.trans q2, g4.trans q3, up2_s, g5, g6⟩
/-- law -/
theorem op_law {ki ru mo lu : jZ} {ruy luy my : jY} (hk : iKinds ki mo) (hR : iRule ru mo) (hL : iLuck lu luy mo) (x1 x2 : Int32) : ∃ ru2 ruy2 lu2 luy2 m2 my2 r, f_WP_law ki ru ruy lu luy x1 x2 = some (ru2, ruy2, lu2, luy2, r) ∧ f_Mo_law mo my x1 x2 = some (m2, my2, r) ∧ mRel mo m2 ∧ ru2 0 = ru 0 ∧ ru2 1 = ru 1 ∧ iLuck lu2 luy2 mo := by
  have i0 : (0 : Int32).toInt = 0 := rfl
  have i1 : (1 : Int32).toInt = 1 := rfl
  have i2 : (2 : Int32).toInt = 2 := rfl
  have i3 : (3 : Int32).toInt = 3 := rfl
  have i4 : (4 : Int32).toInt = 4 := rfl
  have i9 : (9 : Int32).toInt = 9 := rfl
  have K0 := hk.2.1
  have K5 := hk.2.2.1
  unfold f_WP_law f_Mo_law
  rw [within_eq, Option.bind_some, i0, i9]
  by_cases c : 0 ≤ x1.toInt ∧ x1.toInt ≤ 9
  · obtain ⟨lu2, luy2, ru2, ruy2, a1, a2, a3, a4, a5, a6, a7⟩ := applyLaw_ok (ruy := ruy) hk hR hL x1 c.1
    have hL2 : iLuck lu2 luy2 mo := Or.inr ⟨by rw [a5]; exact a2, by rw [a5]; exact a3, by rw [a5]; exact a4⟩
    rw [if_pos c, if_neg (by decide), a1, Option.bind_some, if_neg (show ¬ x1 < 0 by rw [i_lt]; omega), if_neg (show ¬ 9 < x1 by rw [i_lt]; omega)]
    dsimp only
    obtain ⟨m3, my3, w3, w5, w7, w9, e1, e2, e3, e5, e7, e9, b1, b2⟩ := ml_42 hk hR (m0 mo 0 0).A x1 x2 (mo 3 0).toInt.toNat 0 FU (up2 mo 0 0 0) my 0 0 0 0 (by omega) (by unfold FU; omega) (fun _ _ _ => rfl) rfl rfl rfl rfl (by decide) (by decide) (by decide) (by decide) (by decide) (by decide) (by decide) (by decide)
    have rel : mRel mo m3 := fun k hk' => (e2 k (by unfold mKeep at hk'; omega) (by unfold mKeep at hk'; omega)).trans (m0 mo 0 0 k hk')
    have q1 : luy2 1 0 = w3 := l_ext (by rw [a2, e3])
    have q2 : luy2 2 0 = w7 := l_ext (by rw [a3, e7])
    have q3 : luy2 3 0 = w9 := l_ext (by rw [a4, e9])
    have k1 := hk.2.2.2.1
    have l1000 : (1000 : Int64).toInt = 1000 := rfl
    have ilo := i_lo (ki 1 0)
    have ihi := i_hi (ki 1 0)
    have q5 : 1000 * Int32.toInt64 (ki 1 0) = w5 := l_ext (by rw [l_mul (by rw [i2l, l1000]; omega) (by rw [i2l, l1000]; omega), i2l, l1000, k1, e5])
    rw [show f_Mo_law_42 x1 x2 FU (up2 mo 0 0 0) my 0 0 0 0 0 = _ from e1, q1, q2, q3, q5]
    have l10 : (10 : Int64).toInt = 10 := rfl
    have t10' : (10 * w7).toInt = 10 * w7.toInt := by rw [l_mul (by rw [l10]; omega) (by rw [l10]; omega), l10]
    have hh : f_Luck_ofHundred luy2 = (if lg_cmp w7 0 = 0 then some 0 else (nzl (10 * w7)).bind fun _ => some ((100 * ((10 * w7) - w9)) / (10 * w7))) := by
      unfold f_Luck_ofHundred
      rw [q2, q3]
      by_cases d : w7.toInt = 0
      · rw [if_pos (by rw [lc_eq, l0, t10']; omega), if_pos (by rw [lc_eq, l0]; exact d)]
      · rw [if_neg (by rw [lc_eq, l0, t10']; omega), if_neg (by rw [lc_eq, l0]; exact d)]
    rw [hh]
    by_cases d : 0 ≤ x2.toInt ∧ x2.toInt ≤ 4
    · rw [if_neg (show ¬ x2 < 0 by rw [i_lt]; omega), if_pos (show x2 ≤ 4 by rw [i_le]; omega)]
      have hx : x2 = 0 ∨ x2 = 1 ∨ x2 = 2 ∨ x2 = 3 ∨ x2 = 4 := by
        simp only [i_eq, i0, i1, i2, i3, i4]; omega
      have n10 : ∀ (h : ¬ lg_cmp w7 0 = 0), nzl (10 * w7) = some () := fun h => by
        rw [lc_eq, l0] at h
        exact nzl_ok (by omega)
      rcases hx with h | h | h | h | h
      · subst h; exact ⟨_, _, _, _, _, _, _, rfl, rfl, rel, a6, a7, hL2⟩
      · subst h; exact ⟨_, _, _, _, _, _, _, rfl, rfl, rel, a6, a7, hL2⟩
      · subst h; exact ⟨_, _, _, _, _, _, _, rfl, rfl, rel, a6, a7, hL2⟩
      · subst h; exact ⟨_, _, _, _, _, _, _, rfl, rfl, rel, a6, a7, hL2⟩
      · subst h
        by_cases z : lg_cmp w7 0 = 0
        · rw [if_pos z, if_pos z]; exact ⟨_, _, _, _, _, _, _, rfl, rfl, rel, a6, a7, hL2⟩
        · rw [if_neg z, if_neg z, n10 z]; exact ⟨_, _, _, _, _, _, _, rfl, rfl, rel, a6, a7, hL2⟩
    · have hx : ¬ x2 = 0 ∧ ¬ x2 = 1 ∧ ¬ x2 = 2 ∧ ¬ x2 = 3 ∧ ¬ x2 = 4 := by
        simp only [i_eq, i0, i1, i2, i3, i4]; omega
      obtain ⟨n0, n1, n2, n3, n4⟩ := hx
      rw [if_neg n0, if_neg n1, if_neg n2, if_neg n3, if_neg n4]
      by_cases e : x2 < 0
      · rw [if_pos e]; exact ⟨_, _, _, _, _, _, _, rfl, rfl, m0 mo 0 0, a6, a7, hL2⟩
      · rw [if_neg e]
        rw [i_lt] at e
        rw [if_neg (by rw [i_le]; omega)]; exact ⟨_, _, _, _, _, _, _, rfl, rfl, m0 mo 0 0, a6, a7, hL2⟩
  · rw [if_neg c, if_pos rfl]
    by_cases d : x1 < 0
    · rw [if_pos d]; exact ⟨_, _, _, _, _, _, _, rfl, rfl, m0 mo 0 0, rfl, rfl, hL⟩
    · rw [if_neg d]
      rw [i_lt] at d
      rw [if_pos (by rw [i_lt]; omega)]
      exact ⟨_, _, _, _, _, _, _, rfl, rfl, m0 mo 0 0, rfl, rfl, hL⟩
