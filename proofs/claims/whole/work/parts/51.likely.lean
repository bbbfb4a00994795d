theorem lk_12 {ki no mo m2 : jZ} (hk : iKinds ki mo) (hn : iNotes no mo) (h7 : m2 7 = mo 7) (ht : ∀ j, j < 108 → m2 44 j = no 7 j) (k p : Nat) (hk1 : (k : Int) < (mo 3 0).toInt) (hp : p < 12) (x1 x2 x3 x4 : Int32) (e1 : x1.toInt = k) (e2 : x2.toInt = p) (h4 : x4.toInt ≤ 8) : ∀ (n y N : Nat) (v5 : Int64), (y : Int) + n = x4.toInt + 1 → n < N → n ≤ 6 → 0 ≤ v5.toInt → v5.toInt * 10 ^ n ≤ 99000000 →
    ∃ r : Int64, f_Mo_likelyOf_12 m2 x1 x2 x3 x4 N v5 (nI y) = some r ∧ r.toInt = lkRun ki no k p n y v5.toInt := by
  have e9 : (9 : Int32).toInt = 9 := rfl
  have em : (-1 : Int32).toInt = -1 := rfl
  have K5 := hk.2.2.1
  intro n
  induction n with
  | zero =>
    intro y N v6 hy hN hn6 h0 hb
    obtain ⟨N, rfl⟩ : ∃ k, N = k + 1 := ⟨N - 1, by omega⟩
    have ti : (nI y).toInt = y := nI_toInt (by omega)
    exact ⟨v6, by rw [f_Mo_likelyOf_12, if_pos (by rw [i_lt, ti]; omega)], rfl⟩
  | succ n ih =>
    intro y N v6 hy hN hn6 h0 hb
    obtain ⟨N, rfl⟩ : ∃ k, N = k + 1 := ⟨N - 1, by omega⟩
    have ti : (nI y).toInt = y := nI_toInt (by omega)
    have hpow : v6.toInt * 10 ^ (n + 1) = v6.toInt * 10 ^ n * 10 := by rw [Int.pow_succ, Int.mul_assoc]
    have hpos : 0 ≤ v6.toInt * 10 ^ n := Int.mul_nonneg h0 (Int.pow_nonneg (by omega))
    have ixn : (x2.toInt * 9 + (nI y).toInt).toNat = p * 9 + y := by rw [e2, ti]; omega
    rw [f_Mo_likelyOf_12, if_neg (by rw [i_lt, ti]; omega), countOf_eq ht x2 (nI y) (by omega) (by omega), at_eq, if_pos (by rw [e2, ti]; omega), Option.bind_some, ixn, nI_1, lkRun]
    rcases hn.rng (j := p * 9 + y) (by omega) with c | c
    · rw [if_pos c, if_pos c]
      exact ih (y + 1) N v6 (by omega) (by omega) (by omega) h0 (by rw [hpow] at hb; omega)
    · have nc : ¬ no 7 (p * 9 + y) = -1 := fun e => by have := congrArg Int32.toInt e; rw [em] at this; omega
      rw [if_neg nc, if_neg nc]
      have ha := (hk.2.2.2.2 k hk1).2.2.2.2.2.2 (no 7 (p * 9 + y)).toInt.toNat (by omega)
      have hcast : ((no 7 (p * 9 + y)).toInt.toNat : Int) = (no 7 (p * 9 + y)).toInt := by omega
      rw [hcast] at ha
      have hl := cnt_le (mo 7) (10 * k) (no 7 (p * 9 + y)).toInt 10
      rw [show f_Mo_likelyOf_43 m2 x1 x2 x3 x4 (fun v5 v7 => f_Mo_likelyOf_12 m2 x1 x2 x3 x4 N v5 v7) FU v6 (nI y) (no 7 (p * 9 + y)) 0 0 = _ from lk_43 m2 x1 x2 x3 x4 (fun v5 v7 => f_Mo_likelyOf_12 m2 x1 x2 x3 x4 N v5 v7) k e1 (by omega) v6 (nI y) (no 7 (p * 9 + y)) 10 0 FU 0 rfl (by decide) rfl]
      rw [h7, nI_1]
      generalize (ki 6 (10 * k + (no 7 (p * 9 + y)).toInt.toNat)) = q at ha
      have hqn : nI (cnt (mo 7) (10 * k) (no 7 (p * 9 + y)).toInt 10) = q := i_ext (by rw [nI_toInt (by omega), ha])
      rw [hqn]
      have hq0 : 0 ≤ q.toInt := by omega
      have hq10 : q.toInt ≤ 10 := by omega
      have one : (1 : Int) ≤ 10 ^ n := Int.pow_pos (by omega)
      have hv : v6.toInt * 10 ^ n ≤ 9900000 := by rw [hpow] at hb; omega
      have hv1 : v6.toInt ≤ v6.toInt * 10 ^ n := by
        have := Int.mul_le_mul_of_nonneg_left one h0
        omega
      have hm1 : v6.toInt * q.toInt ≤ v6.toInt * 10 := Int.mul_le_mul_of_nonneg_left hq10 h0
      have hm0 : 0 ≤ v6.toInt * q.toInt := Int.mul_nonneg h0 hq0
      have hm : (v6 * Int32.toInt64 q).toInt = v6.toInt * q.toInt := by
        rw [l_mul (by rw [i2l]; omega) (by rw [i2l]; omega), i2l]
      obtain ⟨r, g1, g2⟩ := ih (y + 1) N (v6 * Int32.toInt64 q) (by omega) (by omega) (by omega) (by rw [hm]; exact hm0) (by
        rw [hm]
        have : v6.toInt * q.toInt * 10 ^ n = v6.toInt * 10 ^ n * q.toInt := by rw [Int.mul_assoc, Int.mul_comm q.toInt, ← Int.mul_assoc]
        rw [this]
        have := Int.mul_le_mul_of_nonneg_left hq10 hpos
        omega)
      exact ⟨r, g1, by rw [g2, hm]⟩
/-- LIKELY of a kind: the weight, then the product -/
def lk (ki no : jZ) (k p a n : Nat) : Int := lkRun ki no k p n a (ki 3 k).toInt
theorem pow10_le (n : Nat) (h : n ≤ 6) : (10 : Int) ^ n ≤ 1000000 := by
  have : n = 0 ∨ n = 1 ∨ n = 2 ∨ n = 3 ∨ n = 4 ∨ n = 5 ∨ n = 6 := by omega
  rcases this with rfl | rfl | rfl | rfl | rfl | rfl | rfl <;> decide
theorem weigh_ok {ki no mo : jZ} (hk : iKinds ki mo) (hn : iNotes no mo) (k p a n : Nat) (hk1 : (k : Int) < (mo 3 0).toInt) (hp : p < 12) (x2 x3 x4 x5 : Int32) (e2 : x2.toInt = k) (e3 : x3.toInt = p) (e4 : x4.toInt = a) (e5 : x5.toInt + 1 = (a : Int) + n) (h5 : x5.toInt ≤ 8) (hn6 : n ≤ 6) :
    ∃ r : Int64, f_Odds_weigh ki no x2 x3 x4 x5 = some r ∧ r.toInt = lk ki no k p a n ∧ 0 ≤ r.toInt ∧ r.toInt ≤ 99000000 := by
  have K5 := hk.2.2.1
  obtain ⟨-, w2, w3, w4, -⟩ := hk.2.2.2.2 k hk1
  have e0 : (0 : Int32).toInt = 0 := rfl
  have e5' : (5 : Int32).toInt = 5 := rfl
  unfold f_Odds_weigh
  rw [if_neg (by rw [i_lt]; omega), if_pos (by rw [i_lt]; omega), ix_ok (by omega) (by omega), Option.bind_some, i_tn, e2, Int.toNat_natCast]
  have hx4 : x4 = nI a := i_ext (by rw [e4, nI_toInt (by omega)])
  rw [hx4]
  have hw : (Int32.toInt64 (ki 3 k)).toInt = (ki 3 k).toInt := i2l _
  have hb : (ki 3 k).toInt * 10 ^ n ≤ 99000000 := by
    rw [w2]
    have h1 := Int.mul_le_mul_of_nonneg_left (pow10_le n hn6) (show 0 ≤ (mo 6 k).toInt by omega)
    omega
  obtain ⟨r, g1, g2, g3, g4⟩ := weigh_27 hk hn k p hk1 hp x2 x3 (nI a) x5 e2 e3 h5 n a FU (Int32.toInt64 (ki 3 k)) (by omega) (by unfold FU; omega) hn6 (by rw [hw, w2]; omega) (by rw [hw]; exact hb)
  exact ⟨r, g1, by rw [g2, hw]; rfl, g3, g4⟩
theorem likelyOf_ok {ki no mo m2 : jZ} (hk : iKinds ki mo) (hn : iNotes no mo) (h6 : m2 6 = mo 6) (h7 : m2 7 = mo 7) (ht : ∀ j, j < 108 → m2 44 j = no 7 j) (k p a n : Nat) (hk1 : (k : Int) < (mo 3 0).toInt) (hp : p < 12) (x2 x3 x4 x5 : Int32) (e2 : x2.toInt = k) (e3 : x3.toInt = p) (e4 : x4.toInt = a) (e5 : x5.toInt + 1 = (a : Int) + n) (h5 : x5.toInt ≤ 8) (hn6 : n ≤ 6) :
    f_Mo_likelyOf m2 x2 x3 x4 x5 = f_Odds_weigh ki no x2 x3 x4 x5 := by
  have K5 := hk.2.2.1
  obtain ⟨-, w2, w3, w4, -⟩ := hk.2.2.2.2 k hk1
  obtain ⟨r, g1, g2, -⟩ := weigh_ok hk hn k p a n hk1 hp x2 x3 x4 x5 e2 e3 e4 e5 h5 hn6
  rw [g1]
  unfold f_Mo_likelyOf
  rw [ix_ok (by omega) (by omega), Option.bind_some, i_tn, e2, Int.toNat_natCast, h6]
  have hx4 : x4 = nI a := i_ext (by rw [e4, nI_toInt (by omega)])
  rw [hx4]
  have hw : (Int32.toInt64 (mo 6 k)).toInt = (ki 3 k).toInt := by rw [i2l, w2]
  have hb : (ki 3 k).toInt * 10 ^ n ≤ 99000000 := by
    rw [w2]
    have h1 := Int.mul_le_mul_of_nonneg_left (pow10_le n hn6) (show 0 ≤ (mo 6 k).toInt by omega)
    omega
  obtain ⟨r2, q1, q2⟩ := lk_12 hk hn h7 ht k p hk1 hp x2 x3 (nI a) x5 e2 e3 h5 n a FU (Int32.toInt64 (mo 6 k)) (by omega) (by unfold FU; omega) hn6 (by rw [hw, w2]; omega) (by rw [hw]; exact hb)
  rw [q1, l_ext (show r2.toInt = r.toInt by rw [q2, g2, hw]; rfl)]
theorem years_eq (x0 x1 : Int32) : f_WP_areYears x0 x1 = some (if 0 ≤ x0.toInt ∧ x0.toInt ≤ x1.toInt ∧ x1.toInt ≤ 8 ∧ x1.toInt - x0.toInt ≤ 5 then 1 else 0) := by
  have e0 : (0 : Int32).toInt = 0 := rfl
  have e9 : (9 : Int32).toInt = 9 := rfl
  have e6 : (6 : Int32).toInt = 6 := rfl
  unfold f_WP_areYears
  simp only [i_lt, i_le, e0, e9, e6]
  by_cases a : x0.toInt < 0
  · rw [if_pos a, if_neg (by omega)]
  · by_cases b : x1.toInt < x0.toInt
    · rw [if_neg a, if_pos b, if_neg (by omega)]
    · by_cases c : 9 ≤ x1.toInt
      · rw [if_neg a, if_neg b, if_pos c, if_neg (by omega)]
      · rw [i_sub (by omega) (by omega)]
        by_cases d : 6 ≤ x1.toInt - x0.toInt
        · rw [if_neg a, if_neg b, if_neg c, if_pos d, if_neg (by omega)]
        · rw [if_neg a, if_neg b, if_neg c, if_neg d, if_pos (by omega)]
theorem years_mo (x0 x1 : Int32) : f_Mo_areYears x0 x1 = f_WP_areYears x0 x1 := rfl
/-- likely -/
theorem op_likely {ro ki no mo : jZ} (hk : iKinds ki mo) (hp : iPlaces ro mo) (hn : iNotes no mo) (x1 x2 x3 x4 : Int32) : ∃ r m2, f_WP_likely ro ki no x1 x2 x3 x4 = some r ∧ f_Mo_likely mo x1 x2 x3 x4 = some (m2, r) ∧ mRel mo m2 := by
  have e0 : (0 : Int32).toInt = 0 := rfl
  have e1 : (1 : Int32).toInt = 1 := rfl
  have K0 := hk.2.1
  have K5 := hk.2.2.1
  have P12 := hp.2.2.1
  have s0 : (mo 3 0 - 1).toInt = (mo 3 0).toInt - 1 := by rw [i_sub (by omega) (by omega), e1]
  obtain ⟨m2, g1, g2, g3, g4⟩ := knows_i (hn.to (m0 mo 0 0))
  have r3 : ∀ q, mKeep q → m2 q = mo q := ((m0 mo 0 0).tr g2)
  by_cases c1 : 0 ≤ x1.toInt ∧ x1.toInt < (mo 3 0).toInt
  · by_cases c2 : 0 ≤ x2.toInt ∧ x2.toInt < (mo 4 0).toInt
    · by_cases c3 : 0 ≤ x3.toInt ∧ x3.toInt ≤ x4.toInt ∧ x4.toInt ≤ 8 ∧ x4.toInt - x3.toInt ≤ 5
      · obtain ⟨r, q1, q2, -⟩ := weigh_ok hk hn x1.toInt.toNat x2.toInt.toNat x3.toInt.toNat (x4.toInt + 1 - x3.toInt).toNat (by omega) (by omega) x1 x2 x3 x4 (by omega) (by omega) (by omega) (by omega) (by omega) (by omega)
        have hlk := likelyOf_ok (m2 := m2) hk hn (r3 6 (by unfold mKeep; omega)) (r3 7 (by unfold mKeep; omega)) g4 x1.toInt.toNat x2.toInt.toNat x3.toInt.toNat (x4.toInt + 1 - x3.toInt).toNat (by omega) (by omega) x1 x2 x3 x4 (by omega) (by omega) (by omega) (by omega) (by omega) (by omega)
        refine ⟨r, m2, ?_, ?_, (m0 mo 0 0).tr g2⟩
        · unfold f_WP_likely
          rw [within_eq, Option.bind_some, hk.1, s0, e0, if_pos (show 0 ≤ x1.toInt ∧ x1.toInt ≤ (mo 3 0).toInt - 1 by omega), if_neg (by decide), has_is hp, isPlace_eq, if_pos c2, Option.bind_some, if_neg (by decide), years_eq, if_pos c3, Option.bind_some, if_neg (by decide), q1]
          rfl
        · unfold f_Mo_likely
          rw [if_neg (by rw [i_lt]; omega), if_neg (by rw [i_le]; omega), isPlace_eq, show (up2 mo 0 0 0) 4 = mo 4 from up2_k (by decide), if_pos c2, Option.bind_some, if_neg (by decide), years_mo, years_eq, if_pos c3, Option.bind_some, if_neg (by decide), g1, Option.bind_some, hlk, q1]
          rfl
      · refine ⟨-1, up2 mo 0 0 0, ?_, ?_, m0 mo 0 0⟩
        · unfold f_WP_likely
          rw [within_eq, Option.bind_some, hk.1, s0, e0, if_pos (show 0 ≤ x1.toInt ∧ x1.toInt ≤ (mo 3 0).toInt - 1 by omega), if_neg (by decide), has_is hp, isPlace_eq, if_pos c2, Option.bind_some, if_neg (by decide), years_eq, if_neg c3, Option.bind_some, if_pos rfl]
        · unfold f_Mo_likely
          rw [if_neg (by rw [i_lt]; omega), if_neg (by rw [i_le]; omega), isPlace_eq, show (up2 mo 0 0 0) 4 = mo 4 from up2_k (by decide), if_pos c2, Option.bind_some, if_neg (by decide), years_mo, years_eq, if_neg c3, Option.bind_some, if_pos rfl]
    · refine ⟨-1, up2 mo 0 0 0, ?_, ?_, m0 mo 0 0⟩
      · unfold f_WP_likely
        rw [within_eq, Option.bind_some, hk.1, s0, e0, if_pos (show 0 ≤ x1.toInt ∧ x1.toInt ≤ (mo 3 0).toInt - 1 by omega), if_neg (by decide), has_is hp, isPlace_eq, if_neg c2, Option.bind_some, if_pos rfl]
      · unfold f_Mo_likely
        rw [if_neg (by rw [i_lt]; omega), if_neg (by rw [i_le]; omega), isPlace_eq, show (up2 mo 0 0 0) 4 = mo 4 from up2_k (by decide), if_neg c2, Option.bind_some, if_pos rfl]
  · refine ⟨-1, up2 mo 0 0 0, ?_, ?_, m0 mo 0 0⟩
    · unfold f_WP_likely
      rw [within_eq, Option.bind_some, hk.1, s0, e0, if_neg (show ¬ (0 ≤ x1.toInt ∧ x1.toInt ≤ (mo 3 0).toInt - 1) by omega), if_pos rfl]
    · unfold f_Mo_likely
      by_cases a : x1 < 0
      · rw [if_pos a]
      · rw [if_neg a, if_pos (by rw [i_lt] at a; rw [i_le]; omega)]
