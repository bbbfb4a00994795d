theorem l_div {x y : Int64} (h : 0 < y.toInt) (h0 : 0 ≤ x.toInt) : (x / y).toInt = x.toInt / y.toInt := by
  rw [Int64.toInt_div, Int.tdiv_eq_ediv_of_nonneg h0]
  have h1 := l_hi x
  have h2 : x.toInt / y.toInt ≤ x.toInt := Int.ediv_le_self _ h0
  have h3 : 0 ≤ x.toInt / y.toInt := Int.ediv_nonneg h0 (by omega)
  exact l_wrap (by omega) (by omega)
theorem i_div {x y : Int32} (h : 0 < y.toInt) (h0 : 0 ≤ x.toInt) : (x / y).toInt = x.toInt / y.toInt := by
  rw [Int32.toInt_div, Int.tdiv_eq_ediv_of_nonneg h0]
  have h1 := i_hi x
  have h2 : x.toInt / y.toInt ≤ x.toInt := Int.ediv_le_self _ h0
  have h3 : 0 ≤ x.toInt / y.toInt := Int.ediv_nonneg h0 (by omega)
  exact i_wrap (by omega) (by omega)
theorem sI_le {f g : Nat → Int} {c : Int} : ∀ n, (∀ k, f k ≤ c * g k) → sI f n ≤ c * sI g n
  | 0, _ => by simp [sI]
  | n + 1, h => by
    have := sI_le n h
    have h2 := h n
    rw [sI, sI, Int.mul_add]; omega
/-- what least terms of a fraction of at most 9 look like -/
theorem terms_bd (x1 x3 : Int64) (h1 : 0 ≤ x1.toInt) (h2 : x1.toInt ≤ 9 * x3.toInt) (h3 : 0 < x3.toInt) : 0 < (x3 / lN (Nat.gcd x3.toInt.toNat x1.toInt.natAbs)).toInt ∧ 0 ≤ (x1 / lN (Nat.gcd x3.toInt.toNat x1.toInt.natAbs)).toInt ∧ (x1 / lN (Nat.gcd x3.toInt.toNat x1.toInt.natAbs)).toInt ≤ 9 * (x3 / lN (Nat.gcd x3.toInt.toNat x1.toInt.natAbs)).toInt ∧ (x1 / lN (Nat.gcd x3.toInt.toNat x1.toInt.natAbs)).toInt ≤ x1.toInt := by
  have p63 : (2 : Nat) ^ 63 = 9223372036854775808 := by decide
  have hx3 := l_hi x3
  generalize hg : Nat.gcd x3.toInt.toNat x1.toInt.natAbs = g
  have gpos : 0 < g := by rw [← hg]; exact Nat.gcd_pos_of_pos_left _ (by omega)
  have gle : g ≤ x3.toInt.toNat := by rw [← hg]; exact Nat.gcd_le_left _ (by omega)
  have gt : (lN g).toInt = g := lNt (by omega)
  obtain ⟨u, hu⟩ : g ∣ x3.toInt.toNat := hg ▸ Nat.gcd_dvd_left _ _
  obtain ⟨w, hw⟩ : g ∣ x1.toInt.natAbs := hg ▸ Nat.gcd_dvd_right _ _
  have a1 : x1.toInt = (g : Int) * (w : Int) := by rw [← Int.natCast_mul, ← hw]; omega
  have a3 : x3.toInt = (g : Int) * (u : Int) := by rw [← Int.natCast_mul, ← hu]; omega
  have gne : (g : Int) ≠ 0 := by omega
  rw [l_div (by omega) (by omega), l_div (by omega) h1, gt, a1, a3, Int.mul_ediv_cancel_left _ gne, Int.mul_ediv_cancel_left _ gne]
  have hu0 : u ≠ 0 := fun e => by rw [e, Nat.mul_zero] at hu; omega
  have hle : g * w ≤ g * (9 * u) := by
    have : (g : Int) * w ≤ 9 * ((g : Int) * u) := by rw [← a1, ← a3]; exact h2
    have e : 9 * ((g : Int) * u) = ((g * (9 * u) : Nat) : Int) := by rw [Int.natCast_mul, Int.natCast_mul]; rw [Int.mul_left_comm]; rfl
    rw [e, ← Int.natCast_mul] at this
    exact Int.ofNat_le.mp this
  have hwu : w ≤ 9 * u := Nat.le_of_mul_le_mul_left hle gpos
  refine ⟨by omega, by omega, by omega, ?_⟩
  have : (1 : Int) * (w : Int) ≤ (g : Int) * w := Int.mul_le_mul_of_nonneg_right (by omega) (by omega)
  omega
/-- RATE on both sides, and how large -/
theorem rate_bd {ki no mo m2 : jZ} (hk : iKinds ki mo) (hn : iNotes no mo) (h3 : m2 3 = mo 3) (h6 : m2 6 = mo 6) (h7 : m2 7 = mo 7) (ht : ∀ j, j < 108 → m2 44 j = no 7 j) (p a n : Nat) (hp : p < 12) (hn6 : n ≤ 6) (h1 : 1 ≤ n) (h9 : a + n ≤ 9) (x1 x2 x3 : Int32) (e1 : x1.toInt = p) (e2 : x2.toInt = a) (e3 : x3.toInt + 1 = (a : Int) + n) (od my : jY) :
    ∃ (od2 : jY) (A B : Int64), f_Odds_seekRate od ki no x1 x2 x3 = some od2 ∧ od2 2 0 = A ∧ od2 3 0 = B ∧ f_Mo_rates m2 my x1 x2 x3 = some (up2 (up2 my 45 0 A) 46 0 B) ∧ ((A.toInt = 0 ∧ B.toInt = 0) ∨ (0 < B.toInt ∧ 0 ≤ A.toInt ∧ A.toInt ≤ 9 * B.toInt ∧ A.toInt ≤ 44550000000)) := by
  have K0 := hk.2.1
  have K5 := hk.2.2.1
  obtain ⟨od1, r, g1, g2, g3, g4⟩ := wall_6 hk hn p a n hp hn6 h1 h9 x1 x2 x3 e1 e2 e3 5 0 FU od 0 rfl (by decide) rfl (fun k hk' => absurd hk' (Nat.not_lt_zero k))
  obtain ⟨s, q1, q2⟩ := sr_21 hk hn p a n hp hn6 h1 h9 x1 x2 x3 od1 g3 r 5 0 FU 0 rfl (by decide) rfl
  obtain ⟨r2, s2, t1, t2, t3⟩ := rt_9 hk hn h3 h6 h7 ht p a n hp hn6 h1 h9 x1 x2 x3 e1 e2 e3 my (mo 3 0).toInt.toNat 0 FU 0 0 (by omega) (by unfold FU; omega) rfl rfl
  have zA : ∀ k, (mo 3 0).toInt.toNat ≤ k → lkA ki no mo p a n k = 0 := fun k hk' => by unfold lkA; rw [if_neg (by omega)]
  have zS : ∀ k, (mo 3 0).toInt.toNat ≤ k → lkS ki no mo p a n k = 0 := fun k hk' => by unfold lkS; rw [zA k hk', Int.zero_mul]
  have e1' : r2 = s := l_ext (by rw [t2, q2, Nat.zero_add]; exact (sI_tail 5 (by omega) zS).symm)
  have e2' : s2 = r := l_ext (by rw [t3, g2, Nat.zero_add]; exact (sI_tail 5 (by omega) zA).symm)
  have bdS := sI_bd (f := lkS ki no mo p a n) 5 (fun k _ => lkS_rng hk hn p a n hp hn6 h1 h9 k)
  have bdA := sI_bd (f := lkA ki no mo p a n) 5 (fun k _ => lkA_rng hk hn p a n hp hn6 h1 h9 k)
  have e10 : (10 : Int64).toInt = 10 := rfl
  have hu : (10 * r).toInt = 10 * r.toInt := by rw [l_mul (by rw [e10]; omega) (by rw [e10]; omega), e10]
  have h90 : sI (lkS ki no mo p a n) 5 ≤ 90 * sI (lkA ki no mo p a n) 5 := sI_le 5 (fun k => by
    unfold lkS
    by_cases c : (k : Int) < (mo 3 0).toInt
    · have km := mean_ok (m2 := m2) hk h7 (nI k) k (nI_toInt (by omega)) c
      have ka := lkA_rng hk hn p a n hp hn6 h1 h9 k
      rw [Int.mul_comm]
      exact Int.mul_le_mul_of_nonneg_right km.2.2 ka.1
    · rw [zA k (by omega)]; simp)
  obtain ⟨A, B, k1, k2, k3, k4⟩ := terms_ok od1 my s (10 * r) (by omega) (by omega) (by rw [hu]; omega)
  refine ⟨up2 (up2 od1 2 0 A) 3 0 B, A, B, ?_, by rw [up2_k (by decide), up2_s], up2_s, ?_, ?_⟩
  · unfold f_Odds_seekRate f_Odds_weighAllOdds_likelies
    rw [show f_Odds_weighAllOdds_likelies_6 ki no x1 x2 x3 FU od 0 0 = some (od1, r) from g1, Option.bind_some]
    show f_Odds_seekRate_21 ki no x1 x2 x3 FU od1 r 0 0 = _
    rw [show f_Odds_seekRate_21 ki no x1 x2 x3 FU od1 r 0 0 = _ from q1, k1]
    rfl
  · unfold f_Mo_rates
    rw [show f_Mo_rates_9 m2 x1 x2 x3 FU my 0 0 0 = _ from t1, e1', e2', k2]
    rfl
  · by_cases c : (10 * r).toInt = 0
    · exact Or.inl (k3 c)
    · obtain ⟨kA, kB⟩ := k4 (by omega)
      obtain ⟨b1, b2, b3, b4⟩ := terms_bd s (10 * r) (by omega) (by omega) (by omega)
      rw [← kA] at b2 b3 b4
      rw [← kB] at b1 b3
      exact Or.inr ⟨b1, b2, b3, by omega⟩
theorem ld_loop {ro no mo mB : jZ} (hp : iPlaces ro mo) (hn : iNotes no mo) (r3 : mRelA mo mB) (ht : ∀ j, j < 108 → mB 44 j = no 7 j) (x2 : Int32) : ∀ (n i N1 N2 : Nat) (fa m2 : jZ), (i : Int) + n = (mo 4 0).toInt → n < N1 → n < N2 → (∀ q, q < 50 → m2 q = mB q) → m2 50 0 = fa 1 0 → m2 51 0 = fa 2 0 → 0 ≤ (fa 1 0).toInt → (fa 1 0).toInt ≤ 27 * i → 0 ≤ (fa 2 0).toInt → (fa 2 0).toInt ≤ 27 * i →
    ∃ (fa2 m3 : jZ), f_Falls_seekLand_12 ro no x2 N1 fa (nI i) = some fa2 ∧ f_Mo_lands_12 x2 N2 m2 (nI i) = some m3 ∧ (∀ q, q < 50 → m3 q = mB q) ∧ m3 50 0 = fa2 1 0 ∧ m3 51 0 = fa2 2 0 ∧ 0 ≤ (fa2 1 0).toInt ∧ (fa2 1 0).toInt ≤ 324 ∧ 0 ≤ (fa2 2 0).toInt ∧ (fa2 2 0).toInt ≤ 324 := by
  have e1 : (1 : Int32).toInt = 1 := rfl
  have P0 := hp.2.1
  have P12 := hp.2.2.1
  intro n
  induction n with
  | zero =>
    intro i N1 N2 fa m2 hi hN1 hN2 hB h50 h51 b1 b2 b3 b4
    obtain ⟨N1, rfl⟩ : ∃ k, N1 = k + 1 := ⟨N1 - 1, by omega⟩
    obtain ⟨N2, rfl⟩ : ∃ k, N2 = k + 1 := ⟨N2 - 1, by omega⟩
    have ti : (nI i).toInt = i := nI_toInt (by omega)
    have q4 : m2 4 = mo 4 := (hB 4 (by decide)).trans (r3 4 (by omega))
    refine ⟨fa, m2, ?_, ?_, hB, h50, h51, b1, by omega, b3, by omega⟩
    · rw [f_Falls_seekLand_12]
      by_cases c : 12 ≤ nI i
      · rw [if_pos c]
      · rw [if_neg c, has_is hp, isPlace_eq, if_neg (by rw [ti]; omega), Option.bind_some, if_pos rfl]
    · rw [f_Mo_lands_12, q4, if_pos (by rw [i_le, ti]; omega)]
  | succ n ih =>
    intro i N1 N2 fa m2 hi hN1 hN2 hB h50 h51 b1 b2 b3 b4
    obtain ⟨N1, rfl⟩ : ∃ k, N1 = k + 1 := ⟨N1 - 1, by omega⟩
    obtain ⟨N2, rfl⟩ : ∃ k, N2 = k + 1 := ⟨N2 - 1, by omega⟩
    have ti : (nI i).toInt = i := nI_toInt (by omega)
    have q4 : m2 4 = mo 4 := (hB 4 (by decide)).trans (r3 4 (by omega))
    have q11 : m2 11 = mo 11 := (hB 11 (by decide)).trans (r3 11 (by omega))
    have ht2 : ∀ j, j < 108 → m2 44 j = no 7 j := fun j hj => by rw [hB 44 (by decide)]; exact ht j hj
    obtain ⟨-, -, -, ⟨g4, -⟩, -⟩ := hp.2.2.2.2.2.2.2 i (by omega)
    obtain ⟨b, a, s1, s2, s3, s4, s6, br, ar⟩ := six_ok (m2 := m2) hn ht2 (nI i) x2 (by omega) (by omega)
    have s4' : ∀ v, f_Mo_sumOf (up2 m2 50 0 v) (nI i) x2 = some a := fun v => by
      obtain ⟨q, y1, y2, -⟩ := three_ok (m2 := up2 m2 50 0 v) hn (fun j hj => by rw [up2_k (by decide)]; exact ht2 j hj) (nI i) x2 (by omega) (by omega)
      rw [y2, ← y1, s2]
    have A : f_Falls_seekLand_12 ro no x2 (N1 + 1) fa (nI i) = (if mo 11 i = 0 then (if b = -1 ∨ a = -1 then f_Falls_seekLand_12 ro no x2 N1 (up2 (up2 fa 3 0 b) 4 0 a) (nI (i + 1)) else f_Falls_seekLand_12 ro no x2 N1 (up2 (up2 (up2 (up2 fa 3 0 b) 4 0 a) 1 0 (fa 1 0 + b)) 2 0 (fa 2 0 + a)) (nI (i + 1))) else f_Falls_seekLand_12 ro no x2 N1 fa (nI (i + 1))) := by
      rw [f_Falls_seekLand_12, if_neg (by rw [i_le, ti]; have : (12 : Int32).toInt = 12 := rfl; omega), has_is hp, isPlace_eq, if_pos (by rw [ti]; omega), Option.bind_some, if_neg (by decide), ix_ok (by omega) (by omega), sums_eq fa (nI i) x2 s1 s2]
      simp only [Option.bind_some, i_tn, ti, Int.toNat_natCast, g4, nI_1]
      by_cases c : mo 11 i = 0
      · rw [if_pos c, if_pos c]
        by_cases e : b = -1 ∨ a = -1
        · simp only [if_pos e, if_true]
        · simp only [if_neg e]
          have u1 : up2 (up2 fa 3 0 b) 4 0 a 1 = fa 1 := by rw [up2_k (by decide), up2_k (by decide)]
          have u2 : up2 (up2 fa 3 0 b) 4 0 a 2 = fa 2 := by rw [up2_k (by decide), up2_k (by decide)]
          have u3 : up2 (up2 fa 3 0 b) 4 0 a 3 0 = b := by rw [up2_k (by decide), up2_s]
          rw [if_neg (by decide), u1, u2, u3, up2_s]
      · rw [if_neg c, if_neg c]
    have B : f_Mo_lands_12 x2 (N2 + 1) m2 (nI i) = (if mo 11 i = 0 then (if b = -1 ∨ a = -1 then f_Mo_lands_12 x2 N2 m2 (nI (i + 1)) else f_Mo_lands_12 x2 N2 (up2 (up2 m2 50 0 (fa 1 0 + b)) 51 0 (fa 2 0 + a)) (nI (i + 1))) else f_Mo_lands_12 x2 N2 m2 (nI (i + 1))) := by
      rw [f_Mo_lands_12, q4, if_neg (by rw [i_le, ti]; omega), ix_ok (by omega) (by omega)]
      simp only [Option.bind_some, i_tn, ti, Int.toNat_natCast, q11, s6, s3, s4', nI_1, h50, h51]
      by_cases c : mo 11 i = 0
      · rw [if_pos c, if_pos c]
        by_cases e : b = -1 ∨ a = -1
        · simp only [if_pos e, if_true]
        · simp only [if_neg e]
          rw [if_neg (by decide)]
      · rw [if_neg c, if_neg c]
    rw [A, B]
    have u1 : up2 (up2 fa 3 0 b) 4 0 a 1 = fa 1 := by rw [up2_k (by decide), up2_k (by decide)]
    have u2 : up2 (up2 fa 3 0 b) 4 0 a 2 = fa 2 := by rw [up2_k (by decide), up2_k (by decide)]
    by_cases c : mo 11 i = 0
    · rw [if_pos c, if_pos c]
      by_cases e : b = -1 ∨ a = -1
      · rw [if_pos e, if_pos e]
        exact ih (i + 1) N1 N2 _ m2 (by omega) (by omega) (by omega) hB (by rw [u1]; exact h50) (by rw [u2]; exact h51) (by rw [u1]; omega) (by rw [u1]; omega) (by rw [u2]; omega) (by rw [u2]; omega)
      · rw [if_neg e, if_neg e]
        have hbr : 0 ≤ b.toInt ∧ b.toInt ≤ 27 := br.resolve_left (fun q => e (Or.inl q))
        have har : 0 ≤ a.toInt ∧ a.toInt ≤ 27 := ar.resolve_left (fun q => e (Or.inr q))
        have t1 : (fa 1 0 + b).toInt = (fa 1 0).toInt + b.toInt := i_add (by omega) (by omega)
        have t2 : (fa 2 0 + a).toInt = (fa 2 0).toInt + a.toInt := i_add (by omega) (by omega)
        refine ih (i + 1) N1 N2 _ _ (by omega) (by omega) (by omega) (fun q hq => by rw [up2_k (by omega), up2_k (by omega)]; exact hB q hq) (by rw [up2_k (by decide), up2_s, up2_k (by decide), up2_s]) (by rw [up2_s, up2_s]) ?_ ?_ ?_ ?_
        · rw [up2_k (by decide), up2_s]; omega
        · rw [up2_k (by decide), up2_s]; omega
        · rw [up2_s]; omega
        · rw [up2_s]; omega
    · rw [if_neg c, if_neg c]
      exact ih (i + 1) N1 N2 fa m2 (by omega) (by omega) (by omega) hB h50 h51 b1 (by omega) b3 (by omega)
