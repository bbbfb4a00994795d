/-- LIKELY times the sum of faces -/
def lkS (ki no mo : jZ) (p a n : Nat) (k : Nat) : Int := lkA ki no mo p a n k * (ki 4 k).toInt
theorem lkS_rng {ki no mo : jZ} (hk : iKinds ki mo) (hn : iNotes no mo) (p a n : Nat) (hp : p < 12) (hn6 : n ≤ 6) (h1 : 1 ≤ n) (h9 : a + n ≤ 9) (k : Nat) : 0 ≤ lkS ki no mo p a n k ∧ lkS ki no mo p a n k ≤ 8910000000 := by
  have K5 := hk.2.2.1
  have r := lkA_rng hk hn p a n hp hn6 h1 h9 k
  unfold lkS
  by_cases c : (k : Int) < (mo 3 0).toInt
  · obtain ⟨-, m1, m2⟩ := mean_ok (m2 := mo) hk rfl (nI k) k (nI_toInt (by omega)) c
    have a1 := Int.mul_le_mul_of_nonneg_left m2 r.1
    exact ⟨Int.mul_nonneg r.1 m1, by omega⟩
  · have : lkA ki no mo p a n k = 0 := by unfold lkA; rw [if_neg c]
    rw [this, Int.zero_mul]
    exact ⟨Int.le_refl _, by decide⟩
theorem lkS_mul {ki no mo : jZ} (hk : iKinds ki mo) (hn : iNotes no mo) (p a n : Nat) (hp : p < 12) (hn6 : n ≤ 6) (h1 : 1 ≤ n) (h9 : a + n ≤ 9) (k : Nat) (q : Int64) (hq : q.toInt = lkA ki no mo p a n k) : (q * Int32.toInt64 (ki 4 k)).toInt = lkS ki no mo p a n k := by
  have r := lkS_rng hk hn p a n hp hn6 h1 h9 k
  unfold lkS at r ⊢
  rw [← hq] at r ⊢
  rw [l_mul (by rw [i2l]; omega) (by rw [i2l]; omega), i2l]
theorem sr_21 {ki no mo : jZ} (hk : iKinds ki mo) (hn : iNotes no mo) (p a n : Nat) (hp : p < 12) (hn6 : n ≤ 6) (h1 : 1 ≤ n) (h9 : a + n ≤ 9) (x2 x3 x4 : Int32) (od : jY) (ho : ∀ k, k < 5 → (od 0 k).toInt = lkA ki no mo p a n k) (v5 : Int64) : ∀ (m i N : Nat) (v7 : Int64), i + m = 5 → m < N → v7.toInt = sI (lkS ki no mo p a n) i →
    ∃ r : Int64, f_Odds_seekRate_21 ki no x2 x3 x4 N od v5 v7 (nI i) = (f_Odds_reduce od r (10 * v5)).bind (fun q => some q) ∧ r.toInt = sI (lkS ki no mo p a n) 5 := by
  intro m
  induction m with
  | zero =>
    intro i N v7 hi hN hv
    obtain ⟨N, rfl⟩ : ∃ k, N = k + 1 := ⟨N - 1, by omega⟩
    have : i = 5 := by omega
    subst this
    exact ⟨v7, by rw [f_Odds_seekRate_21, if_pos (by decide)], hv⟩
  | succ m ih =>
    intro i N v7 hi hN hv
    obtain ⟨N, rfl⟩ : ∃ k, N = k + 1 := ⟨N - 1, by omega⟩
    have e50 : (5 : Int32).toInt = 5 := rfl
    have ti : (nI i).toInt = i := nI_toInt (by omega)
    have bd := sI_bd (f := lkS ki no mo p a n) i (fun k _ => lkS_rng hk hn p a n hp hn6 h1 h9 k)
    have rg := lkS_rng hk hn p a n hp hn6 h1 h9 i
    have hm := lkS_mul hk hn p a n hp hn6 h1 h9 i (od 0 i) (ho i (by omega))
    rw [f_Odds_seekRate_21, if_neg (by rw [i_le, ti]; omega), ix_ok (by omega) (by omega)]
    simp only [Option.bind_some, i_tn, ti, Int.toNat_natCast, nI_1]
    exact ih (i + 1) N _ (by omega) (by omega) (by rw [l_add (by omega) (by omega), hv, hm, sI])
theorem rt_9 {ki no mo m2 : jZ} (hk : iKinds ki mo) (hn : iNotes no mo) (h3 : m2 3 = mo 3) (h6 : m2 6 = mo 6) (h7 : m2 7 = mo 7) (ht : ∀ j, j < 108 → m2 44 j = no 7 j) (p a n : Nat) (hp : p < 12) (hn6 : n ≤ 6) (h1 : 1 ≤ n) (h9 : a + n ≤ 9) (x1 x2 x3 : Int32) (e1 : x1.toInt = p) (e2 : x2.toInt = a) (e3 : x3.toInt + 1 = (a : Int) + n) (my : jY) : ∀ (m i N : Nat) (v4 v6 : Int64), (i : Int) + m = (mo 3 0).toInt → m < N → v4.toInt = sI (lkS ki no mo p a n) i → v6.toInt = sI (lkA ki no mo p a n) i →
    ∃ r s : Int64, f_Mo_rates_9 m2 x1 x2 x3 N my v4 v6 (nI i) = (f_Mo_terms my r (10 * s)).bind (fun q => some q) ∧ r.toInt = sI (lkS ki no mo p a n) (i + m) ∧ s.toInt = sI (lkA ki no mo p a n) (i + m) := by
  have K5 := hk.2.2.1
  intro m
  induction m with
  | zero =>
    intro i N v4 v6 hi hN h4 h6'
    obtain ⟨N, rfl⟩ : ∃ k, N = k + 1 := ⟨N - 1, by omega⟩
    have ti : (nI i).toInt = i := nI_toInt (by omega)
    exact ⟨v4, v6, by rw [f_Mo_rates_9, h3, if_pos (by rw [i_le, ti]; omega)], h4, h6'⟩
  | succ m ih =>
    intro i N v4 v6 hi hN h4 h6'
    obtain ⟨N, rfl⟩ : ∃ k, N = k + 1 := ⟨N - 1, by omega⟩
    have ti : (nI i).toInt = i := nI_toInt (by omega)
    have c : (i : Int) < (mo 3 0).toInt := by omega
    have bdS := sI_bd (f := lkS ki no mo p a n) i (fun k _ => lkS_rng hk hn p a n hp hn6 h1 h9 k)
    have rgS := lkS_rng hk hn p a n hp hn6 h1 h9 i
    have bdA := sI_bd (f := lkA ki no mo p a n) i (fun k _ => lkA_rng hk hn p a n hp hn6 h1 h9 k)
    have rgA := lkA_rng hk hn p a n hp hn6 h1 h9 i
    obtain ⟨q, q1, q2, -⟩ := weigh_ok hk hn i p a n c hp (nI i) x1 x2 x3 ti e1 e2 e3 (by omega) hn6
    have hqA : q.toInt = lkA ki no mo p a n i := by rw [q2]; unfold lkA; rw [if_pos c]
    have hl := likelyOf_ok (m2 := m2) hk hn h6 h7 ht i p a n c hp (nI i) x1 x2 x3 ti e1 e2 e3 (by omega) hn6
    obtain ⟨hmean, -⟩ := mean_ok (m2 := m2) hk h7 (nI i) i ti c
    have hm := lkS_mul hk hn p a n hp hn6 h1 h9 i q hqA
    rw [f_Mo_rates_9, h3, if_neg (by rw [i_le, ti]; omega), hl, q1, Option.bind_some, hmean, Option.bind_some, nI_1]
    obtain ⟨r, s, g1, g2, g3⟩ := ih (i + 1) N (v4 + q * Int32.toInt64 (ki 4 i)) (v6 + q) (by omega) (by omega) (by rw [l_add (by omega) (by omega), h4, hm, sI]) (by rw [l_add (by omega) (by omega), h6', hqA, sI])
    exact ⟨r, s, g1, by rw [g2]; congr 1; omega, by rw [g3]; congr 1; omega⟩
/-- RATE on both sides: the same two numbers -/
theorem rate_ok {ki no mo m2 : jZ} (hk : iKinds ki mo) (hn : iNotes no mo) (h3 : m2 3 = mo 3) (h6 : m2 6 = mo 6) (h7 : m2 7 = mo 7) (ht : ∀ j, j < 108 → m2 44 j = no 7 j) (p a n : Nat) (hp : p < 12) (hn6 : n ≤ 6) (h1 : 1 ≤ n) (h9 : a + n ≤ 9) (x1 x2 x3 : Int32) (e1 : x1.toInt = p) (e2 : x2.toInt = a) (e3 : x3.toInt + 1 = (a : Int) + n) (od my : jY) :
    ∃ (od2 : jY) (A B : Int64), f_Odds_seekRate od ki no x1 x2 x3 = some od2 ∧ od2 2 0 = A ∧ od2 3 0 = B ∧ f_Mo_rates m2 my x1 x2 x3 = some (up2 (up2 my 45 0 A) 46 0 B) ∧ (∀ k, 4 ≤ k → od2 k = od k) := by
  have K0 := hk.2.1
  have K5 := hk.2.2.1
  have hz : (0 : Int32) = nI 0 := rfl
  obtain ⟨od1, r, g1, g2, g3, g4⟩ := wall_6 hk hn p a n hp hn6 h1 h9 x1 x2 x3 e1 e2 e3 5 0 FU od 0 rfl (by decide) rfl (fun k hk' => absurd hk' (Nat.not_lt_zero k))
  obtain ⟨s, q1, q2⟩ := sr_21 hk hn p a n hp hn6 h1 h9 x1 x2 x3 od1 g3 r 5 0 FU 0 rfl (by decide) rfl
  obtain ⟨r2, s2, t1, t2, t3⟩ := rt_9 hk hn h3 h6 h7 ht p a n hp hn6 h1 h9 x1 x2 x3 e1 e2 e3 my (mo 3 0).toInt.toNat 0 FU 0 0 (by omega) (by unfold FU; omega) rfl rfl
  have zA : ∀ k, (mo 3 0).toInt.toNat ≤ k → lkA ki no mo p a n k = 0 := fun k hk' => by unfold lkA; rw [if_neg (by omega)]
  have zS : ∀ k, (mo 3 0).toInt.toNat ≤ k → lkS ki no mo p a n k = 0 := fun k hk' => by unfold lkS; rw [zA k hk', Int.zero_mul]
  have e1' : r2 = s := l_ext (by rw [t2, q2, Nat.zero_add]; exact (sI_tail 5 (by omega) zS).symm)
  have e2' : s2 = r := l_ext (by rw [t3, g2, Nat.zero_add]; exact (sI_tail 5 (by omega) zA).symm)
  have bdS := sI_bd (f := lkS ki no mo p a n) 5 (fun k _ => lkS_rng hk hn p a n hp hn6 h1 h9 k)
  have bdA := sI_bd (f := lkA ki no mo p a n) 5 (fun k _ => lkA_rng hk hn p a n hp hn6 h1 h9 k)
  have e10 : (10 : Int64).toInt = 10 := rfl
  have hu : (10 * r).toInt = 10 * r.toInt := by rw [l_mul (by rw [e10]; omega) (by rw [e10]; omega), e10]
  obtain ⟨A, B, k1, k2, -⟩ := terms_ok od1 my s (10 * r) (by omega) (by omega) (by rw [hu]; omega)
  refine ⟨up2 (up2 od1 2 0 A) 3 0 B, A, B, ?_, by rw [up2_k (by decide), up2_s], up2_s, ?_, fun k hk' => by rw [up2_k (by omega), up2_k (by omega)]; exact g4 k (by omega)⟩
  · unfold f_Odds_seekRate f_Odds_weighAllOdds_likelies
    rw [show f_Odds_weighAllOdds_likelies_6 ki no x1 x2 x3 FU od 0 0 = some (od1, r) from g1, Option.bind_some]
    show f_Odds_seekRate_21 ki no x1 x2 x3 FU od1 r 0 0 = _
    rw [show f_Odds_seekRate_21 ki no x1 x2 x3 FU od1 r 0 0 = _ from q1, k1]
    rfl
  · unfold f_Mo_rates
    rw [show f_Mo_rates_9 m2 x1 x2 x3 FU my 0 0 0 = _ from t1, e1', e2', k2]
    rfl
