theorem tbRun_rng {P Y O st : Nat → Int32} : ∀ (n : Nat), (∀ i, i < n → pNote P Y O i) → ∀ j, tbRun P Y O st n j = -1 ∨ (0 ≤ (tbRun P Y O st n j).toInt ∧ (tbRun P Y O st n j).toInt ≤ 9)
  | 0, _, j => Or.inl rfl
  | n + 1, h, j => by
    have ih := tbRun_rng (st := st) n (fun i hi => h i (by omega)) j
    rw [tbRun]
    unfold tbStep
    by_cases c : st n = 0 ∧ ¬ P n = -1
    · rw [if_pos c]
      by_cases e : j = ((P n).toInt * 9 + (Y n).toInt).toNat
      · simp only [if_pos e]
        rcases h n (by omega) with ⟨-, -, h8⟩ | ⟨h2, -⟩
        · exact Or.inr h8
        · exact absurd h2 c.2
      · simp only [if_neg e]; exact ih
    · rw [if_neg c]; exact ih
theorem iNotes.rng {no mo : jZ} (h : iNotes no mo) {j : Nat} (hj : j < 108) : no 7 j = -1 ∨ (0 ≤ (no 7 j).toInt ∧ (no 7 j).toInt ≤ 9) := by
  obtain ⟨-, h2, -, h4, h5, h6⟩ := h
  rw [h6 j hj]
  unfold knownTab
  refine tbRun_rng _ (fun i hi => ?_) j
  have : (i : Int) < (mo 38 0).toInt := by
    unfold kn at hi
    by_cases c : mo 39 0 = -1
    · rw [if_pos c] at hi; omega
    · rw [if_neg c] at hi; omega
  exact (h5 i this).p
theorem how_eq (ki : jZ) (x1 x2 : Int32) (h1 : 0 ≤ x1.toInt) (h2 : x1.toInt < 5) (h3 : 0 ≤ x2.toInt) (h4 : x2.toInt ≤ 9) : f_Kinds_howManyAre ki x1 x2 = some (ki 6 (10 * x1.toInt + x2.toInt).toNat) := by
  have e0 : (0 : Int32).toInt = 0 := rfl
  have e5 : (5 : Int32).toInt = 5 := rfl
  have e10 : (10 : Int32).toInt = 10 := rfl
  unfold f_Kinds_howManyAre
  rw [if_neg (by rw [i_lt]; omega), if_neg (by rw [i_le]; omega), if_neg (by rw [i_lt]; omega), if_neg (by rw [i_le]; omega)]
  unfold f_Kinds_howManyAre_24
  have m1 : (x1 * 10).toInt = x1.toInt * 10 := i_mul (by rw [e10]; omega) (by rw [e10]; omega)
  have m2 : (x1 * 10 + x2).toInt = 10 * x1.toInt + x2.toInt := by rw [i_add (by omega) (by omega), m1]; omega
  rw [if_neg (by decide), ix_ok (by omega) (by omega), Option.bind_some, i_tn, m2]
theorem cnt_le (f : Nat → Int32) (b : Nat) (c : Int) : ∀ n, cnt f b c n ≤ n
  | 0 => Nat.le_refl 0
  | n + 1 => by
    have := cnt_le f b c n
    rw [cnt]
    by_cases h : (f (b + n)).toInt = c
    · rw [if_pos h]; omega
    · rw [if_neg h]; omega
theorem lk_43 (mo : jZ) (x1 x2 x3 x4 : Int32) (k12 : Int64 → Int32 → Option Int64) (k : Nat) (hk : x1.toInt = k) (hk5 : k < 5) (v5 : Int64) (v7 v8 : Int32) : ∀ (n f N : Nat) (v9 : Int32), f + n = 10 → n < N → v9.toInt = cnt (mo 7) (10 * k) v8.toInt f →
    f_Mo_likelyOf_43 mo x1 x2 x3 x4 k12 N v5 v7 v8 v9 (nI f) = k12 (v5 * (Int32.toInt64 (nI (cnt (mo 7) (10 * k) v8.toInt 10)))) (v7 + 1) := by
  have e10 : (10 : Int32).toInt = 10 := rfl
  have e1 : (1 : Int32).toInt = 1 := rfl
  have e0 : (0 : Int32).toInt = 0 := rfl
  intro n
  induction n with
  | zero =>
    intro f N v9 hf hN h9
    obtain ⟨N, rfl⟩ : ∃ k, N = k + 1 := ⟨N - 1, by omega⟩
    have : f = 10 := by omega
    subst this
    have : v9 = nI (cnt (mo 7) (10 * k) v8.toInt 10) := i_ext (by rw [h9, nI_toInt (by have := cnt_le (mo 7) (10 * k) v8.toInt 10; omega)])
    rw [f_Mo_likelyOf_43, if_pos (by decide), this]
  | succ n ih =>
    intro f N v9 hf hN h9
    obtain ⟨N, rfl⟩ : ∃ k, N = k + 1 := ⟨N - 1, by omega⟩
    have ti : (nI f).toInt = f := nI_toInt (by omega)
    have m1 : (10 * x1).toInt = 10 * x1.toInt := i_mul (by rw [e10]; omega) (by rw [e10]; omega)
    have m2 : (10 * x1 + nI f).toInt = ((10 * k + f : Nat) : Int) := by rw [i_add (by omega) (by omega), m1]; omega
    have hc := cnt_le (mo 7) (10 * k) v8.toInt f
    rw [f_Mo_likelyOf_43, if_neg (by rw [i_le, ti]; omega), ix_ok (by omega) (by omega)]
    simp only [Option.bind_some, i_tn, m2, Int.toNat_natCast, nI_1]
    by_cases c : mo 7 (10 * k + f) = v8
    · rw [if_pos c]
      refine ih (f + 1) N _ (by omega) (by omega) ?_
      rw [cnt, if_pos (by rw [c]), i_add (by omega) (by omega), h9, e1]
      omega
    · rw [if_neg c]
      refine ih (f + 1) N _ (by omega) (by omega) ?_
      rw [cnt, if_neg (fun e => c (i_ext e)), i_add (by omega) (by omega), h9, e0]
      omega
/-- LIKELY, as a product along the years -/
def lkRun (ki no : jZ) (k p : Nat) : Nat → Nat → Int → Int
  | 0, _, acc => acc
  | n + 1, y, acc => lkRun ki no k p n (y + 1) (if no 7 (p * 9 + y) = -1 then acc else acc * (ki 6 (10 * k + (no 7 (p * 9 + y)).toInt.toNat)).toInt)
theorem weigh_27 {ki no mo : jZ} (hk : iKinds ki mo) (hn : iNotes no mo) (k p : Nat) (hk1 : (k : Int) < (mo 3 0).toInt) (hp : p < 12) (x2 x3 x4 x5 : Int32) (e2 : x2.toInt = k) (e3 : x3.toInt = p) (h5 : x5.toInt ≤ 8) : ∀ (n y N : Nat) (v6 : Int64), (y : Int) + n = x5.toInt + 1 → n < N → n ≤ 6 → 0 ≤ v6.toInt → v6.toInt * 10 ^ n ≤ 99000000 →
    ∃ r : Int64, f_Odds_weigh_27 ki no x2 x3 x4 x5 N v6 (nI y) = some r ∧ r.toInt = lkRun ki no k p n y v6.toInt ∧ 0 ≤ r.toInt ∧ r.toInt ≤ 99000000 := by
  have e9 : (9 : Int32).toInt = 9 := rfl
  have em : (-1 : Int32).toInt = -1 := rfl
  have K5 := hk.2.2.1
  intro n
  induction n with
  | zero =>
    intro y N v6 hy hN hn6 h0 hb
    obtain ⟨N, rfl⟩ : ∃ k, N = k + 1 := ⟨N - 1, by omega⟩
    have ti : (nI y).toInt = y := nI_toInt (by omega)
    exact ⟨v6, by rw [f_Odds_weigh_27, if_pos (by rw [i_lt, ti]; omega)], rfl, h0, by simpa using hb⟩
  | succ n ih =>
    intro y N v6 hy hN hn6 h0 hb
    obtain ⟨N, rfl⟩ : ∃ k, N = k + 1 := ⟨N - 1, by omega⟩
    have ti : (nI y).toInt = y := nI_toInt (by omega)
    have hpow : v6.toInt * 10 ^ (n + 1) = v6.toInt * 10 ^ n * 10 := by rw [Int.pow_succ, Int.mul_assoc]
    have hpos : 0 ≤ v6.toInt * 10 ^ n := Int.mul_nonneg h0 (Int.pow_nonneg (by omega))
    have ixn : (x3.toInt * 9 + (nI y).toInt).toNat = p * 9 + y := by rw [e3, ti]; omega
    rw [f_Odds_weigh_27, if_neg (by rw [i_lt, ti]; omega), if_neg (by rw [i_le, ti]; omega), at_eq, if_pos (by rw [e3, ti]; omega), Option.bind_some, ixn, nI_1, lkRun]
    rcases hn.rng (j := p * 9 + y) (by omega) with c | c
    · rw [if_pos c, if_pos c]
      exact ih (y + 1) N v6 (by omega) (by omega) (by omega) h0 (by rw [hpow] at hb; omega)
    · have nc : ¬ no 7 (p * 9 + y) = -1 := fun e => by have := congrArg Int32.toInt e; rw [em] at this; omega
      rw [if_neg nc, if_neg nc, how_eq ki x2 _ (by omega) (by omega) c.1 c.2, Option.bind_some, e2]
      have hix : (10 * (k : Int) + (no 7 (p * 9 + y)).toInt).toNat = 10 * k + (no 7 (p * 9 + y)).toInt.toNat := by omega
      rw [hix]
      have ha := (hk.2.2.2.2 k hk1).2.2.2.2.2.2 (no 7 (p * 9 + y)).toInt.toNat (by omega)
      have hl := cnt_le (mo 7) (10 * k) ((no 7 (p * 9 + y)).toInt.toNat : Int) 10
      generalize (ki 6 (10 * k + (no 7 (p * 9 + y)).toInt.toNat)) = q at ha
      have hq0 : 0 ≤ q.toInt := by omega
      have hq10 : q.toInt ≤ 10 := by omega
      have one : (1 : Int) ≤ 10 ^ n := Int.pow_pos (by omega)
      have hv : v6.toInt * 10 ^ n ≤ 9900000 := by rw [hpow] at hb; omega
      have hv1 : v6.toInt ≤ v6.toInt * 10 ^ n := by
        have := Int.mul_le_mul_of_nonneg_left one h0
        omega
      have hm1 : v6.toInt * q.toInt ≤ v6.toInt * 10 := Int.mul_le_mul_of_nonneg_left hq10 h0
      have hm0 : 0 ≤ v6.toInt * q.toInt := Int.mul_nonneg h0 hq0
      have hm : (v6 * Int32.toInt64 q).toInt = v6.toInt * q.toInt := by
        rw [l_mul (by rw [i2l]; omega) (by rw [i2l]; omega), i2l]
      obtain ⟨r, g1, g2, g3, g4⟩ := ih (y + 1) N (v6 * Int32.toInt64 q) (by omega) (by omega) (by omega) (by rw [hm]; exact hm0) (by
        rw [hm]
        have : v6.toInt * q.toInt * 10 ^ n = v6.toInt * 10 ^ n * q.toInt := by rw [Int.mul_assoc, Int.mul_comm q.toInt, ← Int.mul_assoc]
        rw [this]
        have := Int.mul_le_mul_of_nonneg_left hq10 hpos
        omega)
      exact ⟨r, g1, by rw [g2, hm], g3, g4⟩
