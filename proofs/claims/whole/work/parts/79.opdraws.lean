theorem sm_rng {ki mo : jZ} (hk : iKinds ki mo) : ∀ n : Nat, (n : Int) ≤ (mo 3 0).toInt → (n : Int) ≤ sm (mo 6) 0 n ∧ sm (mo 6) 0 n ≤ 99 * n
  | 0, _ => by simp [sm]
  | n + 1, h => by
    have := sm_rng hk n (by omega)
    obtain ⟨-, -, W1, W99, -⟩ := hk.2.2.2.2 n (by omega)
    rw [sm, Nat.zero_add]; omega
theorem dl_18 {ki mo mB : jZ} (hk : iKinds ki mo) (r3 : mRelA mo mB) (hK : 0 < (mo 3 0).toInt) (s1 x2 s3 : Int32) (many : Nat) (hm : x2 = nI many) (hm5 : many ≤ 500) (v4 : Int32) (h4 : v4.toInt = sm (mo 6) 0 (mo 3 0).toInt.toNat) : ∀ (n d N1 N2 : Nat) (lu ru : jZ) (ruy : jY) (m2 : jZ) (moy : jY) (v5 v6 : Int32), d + n = many → n < N1 → n < N2 → iRule ru mo → (∀ q, q ≠ 48 → q ≠ 49 → q ≠ 57 → m2 q = mB q) → lu 4 0 = m2 57 0 → lu 6 0 = v5 → lu 7 0 = v6 →
    ∃ (lu2 ru2 : jZ) (ruy2 : jY) (m3 : jZ) (my3 : jY), f_Luck_deal_18 ki s1 x2 N1 lu ru ruy (nI d) = some (lu2, ru2, ruy2) ∧ f_Mo_draws_88 s1 x2 s3 N2 m2 moy v4 v5 v6 (nI d) = (if s3 = 0 then some (m3, my3, lu2 6 0) else some (m3, my3, lu2 7 0)) ∧ (∀ q, q ≠ 48 → q ≠ 49 → q ≠ 57 → m3 q = mB q) ∧ lu2 0 = lu 0 ∧ ru2 0 = ru 0 ∧ ru2 1 = ru 1 := by
  have K5 := hk.2.2.1
  have tm : x2.toInt = many := by rw [hm]; exact nI_toInt (by omega)
  have i500 : (500 : Int32).toInt = 500 := rfl
  have i0 : (0 : Int32).toInt = 0 := rfl
  have sr := sm_rng hk (mo 3 0).toInt.toNat (by omega)
  have k1 := hk.2.2.2.1
  have kv : ki 1 0 = v4 := i_ext (by rw [k1, h4])
  intro n
  induction n with
  | zero =>
    intro d N1 N2 lu ru ruy m2 moy v5 v6 hd hN1 hN2 hR hB h57 h6 h7
    obtain ⟨N1, rfl⟩ : ∃ k, N1 = k + 1 := ⟨N1 - 1, by omega⟩
    obtain ⟨N2, rfl⟩ : ∃ k, N2 = k + 1 := ⟨N2 - 1, by omega⟩
    have td : (nI d).toInt = d := nI_toInt (by omega)
    refine ⟨lu, ru, ruy, m2, moy, ?_, ?_, hB, rfl, rfl, rfl⟩
    · rw [f_Luck_deal_18, if_pos (by rw [i_le]; omega)]
    · rw [f_Mo_draws_88, if_pos (by rw [i_le]; omega), h6, h7]
  | succ n ih =>
    intro d N1 N2 lu ru ruy m2 moy v5 v6 hd hN1 hN2 hR hB h57 h6 h7
    obtain ⟨N1, rfl⟩ : ∃ k, N1 = k + 1 := ⟨N1 - 1, by omega⟩
    obtain ⟨N2, rfl⟩ : ∃ k, N2 = k + 1 := ⟨N2 - 1, by omega⟩
    have td : (nI d).toInt = d := nI_toInt (by omega)
    have dv := nv_rng (m2 57 0)
    generalize hV : nx (m2 57 0) / 65536 = V at dv
    have md : (V - V / v4 * v4).toInt = V.toInt % v4.toInt := mod_i dv (by omega)
    have me := Int.emod_nonneg V.toInt (show v4.toInt ≠ 0 by omega)
    have ml := Int.emod_lt_of_pos V.toInt (show 0 < v4.toInt by omega)
    have m6 : (up2 m2 57 0 (nx (m2 57 0))) 6 = mo 6 := by rw [up2_k (by decide), hB 6 (by decide) (by decide) (by decide)]; exact r3 6 (by omega)
    obtain ⟨j, j1, j2, j3⟩ := kb_23 (m2 := up2 m2 57 0 (nx (m2 57 0))) hk m6 V s1 x2 s3 (fun mo_z mo_y v4 v5 v6 v7 => f_Mo_draws_88 s1 x2 s3 N2 mo_z mo_y v4 v5 v6 v7) moy v4 v5 v6 (nI d) (V - V / v4 * v4) (by omega) (by omega) (mo 3 0).toInt.toNat 0 FU FU 0 (V - V / v4 * v4) (by omega) (by unfold FU; omega) (by unfold FU; omega) rfl (by decide) (by decide) (by rw [i0]; omega) (by rw [i0]; omega)
    obtain ⟨lu2, ru2, ruy2, m3, my3, w5, w6, z1, z2, z3, z4, z5, z6, z7, z8, z9⟩ := do_14 hk hR r3 s1 x2 s3 (fun mo_z mo_y v4 v5 v6 v7 => f_Mo_draws_88 s1 x2 s3 N2 mo_z mo_y v4 v5 v6 v7) moy ruy v4 v5 v6 (nI d) j j1 6 0 FU FU (up2 lu 4 0 (nx (m2 57 0))) (up2 m2 57 0 (nx (m2 57 0))) 0 rfl (by decide) (by decide) (fun q a b c => by rw [up2_k c]; exact hB q a b c) (by rw [up2_s, up2_s]) (fun q hq _ => absurd hq (Nat.not_lt_zero q)) (fun q hq => absurd hq (Nat.not_lt_zero q)) rfl (by rw [up2_k (by decide)]; exact h6) (by rw [up2_k (by decide)]; exact h7)
    have A : f_Luck_dealOnce lu ki ru ruy = some (lu2, ru2, ruy2) := by
      unfold f_Luck_dealOnce f_Luck_next
      rw [h57, Option.bind_some]
      dsimp only
      rw [show ((m2 57 0 * 1103515245) + 12345) &&& 2147483647 = nx (m2 57 0) from rfl, hV]
      unfold f_Luck_kindBy
      rw [kv, if_neg (by rw [i_le]; omega), nz_ok (by omega), Option.bind_some, show f_Luck_kindBy_23 ki V FU (V - V / v4 * v4) 0 0 = _ from j2, Option.bind_some]
      exact z1
    have B : f_Mo_draw m2 v4 = some (up2 m2 57 0 (nx (m2 57 0)), V - V / v4 * v4) := by
      unfold f_Mo_draw
      rw [nz_ok (by omega), Option.bind_some, show ((m2 57 0 * 1103515245) + 12345) &&& 2147483647 = nx (m2 57 0) from rfl, nx_shr, hV]
    rw [f_Luck_deal_18, if_neg (by rw [i_le]; omega), if_neg (by rw [i_le]; omega), A, Option.bind_some, f_Mo_draws_88, if_neg (by rw [i_le]; omega), B, Option.bind_some]
    dsimp only
    rw [show f_Mo_draws_105 s1 x2 s3 (fun mo_z mo_y v4 v5 v6 v7 => f_Mo_draws_88 s1 x2 s3 N2 mo_z mo_y v4 v5 v6 v7) FU (up2 m2 57 0 (nx (m2 57 0))) moy v4 v5 v6 (nI d) (V - V / v4 * v4) 0 = _ from j3, show f_Mo_draws_141 s1 x2 s3 (fun mo_z mo_y v4 v5 v6 v7 => f_Mo_draws_88 s1 x2 s3 N2 mo_z mo_y v4 v5 v6 v7) FU (up2 m2 57 0 (nx (m2 57 0))) moy v4 v5 v6 (nI d) (nI j) 0 0 = _ from z2, nI_1]
    obtain ⟨lu3, ru3, ruy3, m4, my4, y1, y2, y3, y4, y5, y6⟩ := ih (d + 1) N1 N2 lu2 ru2 ruy2 m3 my3 w5 w6 (by omega) (by omega) (by omega) (hR.ru z8 z9) z3 z4 z5 z6
    exact ⟨lu3, ru3, ruy3, m4, my4, y1, y2, y3, by rw [y4, z7, up2_k (by decide)], y5.trans z8, y6.trans z9⟩
theorem dr_47 {ki mo mB : jZ} (hk : iKinds ki mo) (r3 : mRelA mo mB) (x1 x2 x3 : Int32) (moy : jY) : ∀ (n k N : Nat) (v4 : Int32), (k : Int) + n = (mo 3 0).toInt → n < N → v4.toInt = sm (mo 6) 0 k → ∃ w : Int32, f_Mo_draws_47 x1 x2 x3 N mB moy v4 (nI k) = f_Mo_draws_88 x1 x2 x3 FU (up2 mB 57 0 x1) moy w 0 0 0 ∧ w.toInt = sm (mo 6) 0 (mo 3 0).toInt.toNat := by
  have K5 := hk.2.2.1
  intro n
  induction n with
  | zero =>
    intro k N v4 hi hN h
    obtain ⟨N, rfl⟩ : ∃ k, N = k + 1 := ⟨N - 1, by omega⟩
    have tk : (nI k).toInt = k := nI_toInt (by omega)
    have hkK : k = (mo 3 0).toInt.toNat := by omega
    exact ⟨v4, by rw [f_Mo_draws_47, r3 3 (by omega), if_pos (by rw [i_le]; omega)], by rw [← hkK]; exact h⟩
  | succ n ih =>
    intro k N v4 hi hN h
    obtain ⟨N, rfl⟩ : ∃ k, N = k + 1 := ⟨N - 1, by omega⟩
    have tk : (nI k).toInt = k := nI_toInt (by omega)
    have sr := sm_rng hk k (by omega)
    obtain ⟨-, -, W1, W99, -⟩ := hk.2.2.2.2 k (by omega)
    rw [f_Mo_draws_47, r3 3 (by omega), if_neg (by rw [i_le]; omega), ix_ok (by omega) (by omega), Option.bind_some, i_tn, tk, Int.toNat_natCast, r3 6 (by omega), nI_1]
    exact ih (k + 1) N _ (by omega) (by omega) (by rw [i_add (by omega) (by omega), h, sm, Nat.zero_add])
/-- draws -/
theorem op_draws {ki ru mo lu : jZ} {ruy my : jY} (hk : iKinds ki mo) (hR : iRule ru mo) (x1 x2 x3 : Int32) : ∃ ru2 ruy2 lu2 m2 my2 r, f_WP_draws ki ru ruy lu x1 x2 x3 = some (ru2, ruy2, lu2, r) ∧ f_Mo_draws mo my x1 x2 x3 = some (m2, my2, r) ∧ mRel mo m2 ∧ ru2 0 = ru 0 ∧ ru2 1 = ru 1 ∧ lu2 0 = lu 0 := by
  have i0 : (0 : Int32).toInt = 0 := rfl
  have i1 : (1 : Int32).toInt = 1 := rfl
  have i500 : (500 : Int32).toInt = 500 := rfl
  have K0 := hk.2.1
  have K5 := hk.2.2.1
  have W1 : f_WP_draws ki ru ruy lu x1 x2 x3 = (if 0 ≤ x1.toInt ∧ (1 ≤ x2.toInt ∧ x2.toInt ≤ 500) ∧ (0 ≤ x3.toInt ∧ x3.toInt ≤ 1) ∧ ¬ (mo 3 0).toInt = 0 then (f_Luck_deal lu ki ru ruy x1 x2).bind fun q9 => (if x3 = 0 then some (q9.2.1, q9.2.2, q9.1, (q9.1 6 0)) else some (q9.2.1, q9.2.2, q9.1, (q9.1 7 0))) else some (ru, ruy, lu, -2147483648)) := by
    unfold f_WP_draws
    rw [within_eq, within_eq, hk.1]
    simp only [Option.bind_some, b10, i_lt, i_eq, i0, i1, i500]
    repeat' split
    all_goals first | rfl | (exfalso; omega)
  have W2 : f_Mo_draws mo my x1 x2 x3 = (if 0 ≤ x1.toInt ∧ (1 ≤ x2.toInt ∧ x2.toInt ≤ 500) ∧ (0 ≤ x3.toInt ∧ x3.toInt ≤ 1) ∧ ¬ (mo 3 0).toInt = 0 then f_Mo_draws_47 x1 x2 x3 FU (up2 mo 0 0 0) my 0 0 else some (up2 mo 0 0 0, my, -2147483648)) := by
    unfold f_Mo_draws
    simp only [i_lt, i_eq, i0, i1, i500]
    repeat' split
    all_goals first | rfl | (exfalso; omega)
  rw [W1, W2]
  by_cases c : 0 ≤ x1.toInt ∧ (1 ≤ x2.toInt ∧ x2.toInt ≤ 500) ∧ (0 ≤ x3.toInt ∧ x3.toInt ≤ 1) ∧ ¬ (mo 3 0).toInt = 0
  · rw [if_pos c, if_pos c]
    obtain ⟨w, g1, g2⟩ := dr_47 hk (m0 mo 0 0).A x1 x2 x3 my (mo 3 0).toInt.toNat 0 FU 0 (by omega) (by unfold FU; omega) rfl
    obtain ⟨lu2, ru2, ruy2, m3, my3, y1, y2, y3, y4, y5, y6⟩ := dl_18 hk (m0 mo 0 0).A (by omega) x1 x2 x3 x2.toInt.toNat (nI_bk (by omega) (by omega)).symm (by omega) w g2 x2.toInt.toNat 0 FU FU (up2 (up2 (up2 lu 4 0 x1) 6 0 0) 7 0 0) ru ruy (up2 (up2 mo 0 0 0) 57 0 x1) my 0 0 (by omega) (by unfold FU; omega) (by unfold FU; omega) hR (fun q _ _ c => up2_k c) (by rw [up2_k (by decide), up2_k (by decide), up2_s, up2_s]) (by rw [up2_k (by decide), up2_s]) up2_s
    have D : f_Luck_deal lu ki ru ruy x1 x2 = some (lu2, ru2, ruy2) := y1
    have rel : mRel mo m3 := fun k hk' => (y3 k (by unfold mKeep at hk'; omega) (by unfold mKeep at hk'; omega) (by unfold mKeep at hk'; omega)).trans (m0 mo 0 0 k hk')
    have l0' : lu2 0 = lu 0 := by rw [y4, up2_k (by decide), up2_k (by decide), up2_k (by decide)]
    rw [D, Option.bind_some, show f_Mo_draws_47 x1 x2 x3 FU (up2 mo 0 0 0) my 0 0 = _ from g1, show f_Mo_draws_88 x1 x2 x3 FU (up2 (up2 mo 0 0 0) 57 0 x1) my w 0 0 0 = _ from y2]
    dsimp only
    by_cases d : x3 = 0
    · rw [if_pos d, if_pos d]; exact ⟨_, _, _, _, _, _, rfl, rfl, rel, y5, y6, l0'⟩
    · rw [if_neg d, if_neg d]; exact ⟨_, _, _, _, _, _, rfl, rfl, rel, y5, y6, l0'⟩
  · rw [if_neg c, if_neg c]
    exact ⟨_, _, _, _, _, _, rfl, rfl, m0 mo 0 0, rfl, rfl, rfl⟩
