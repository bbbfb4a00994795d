theorem lc_eq (x y : Int64) : lg_cmp x y = 0 ↔ x.toInt = y.toInt := by
  unfold lg_cmp
  by_cases h1 : y < x
  · rw [if_pos h1]; rw [l_lt] at h1; exact ⟨fun h => absurd h (by decide), fun h => by omega⟩
  · rw [if_neg h1]
    by_cases h2 : x = y
    · rw [if_pos h2, h2]; exact ⟨fun _ => rfl, fun _ => rfl⟩
    · rw [if_neg h2]; exact ⟨fun h => absurd h (by decide), fun h => absurd (l_ext h) h2⟩
theorem lc_le (x y : Int64) : lg_cmp x y ≤ 0 ↔ x.toInt ≤ y.toInt := by
  unfold lg_cmp
  by_cases h1 : y < x
  · rw [if_pos h1]; rw [l_lt] at h1; exact ⟨fun h => absurd h (by decide), fun h => by omega⟩
  · rw [if_neg h1]; rw [l_lt] at h1
    by_cases h2 : x = y
    · rw [if_pos h2, h2]; exact ⟨fun _ => Int.le_refl _, fun _ => by decide⟩
    · rw [if_neg h2]; exact ⟨fun _ => by omega, fun _ => by decide⟩
theorem lc_ge (x y : Int64) : 0 ≤ lg_cmp x y ↔ y.toInt ≤ x.toInt := by
  unfold lg_cmp
  by_cases h1 : y < x
  · rw [if_pos h1]; rw [l_lt] at h1; exact ⟨fun _ => by omega, fun _ => by decide⟩
  · rw [if_neg h1]; rw [l_lt] at h1
    by_cases h2 : x = y
    · rw [if_pos h2, h2]; exact ⟨fun _ => Int.le_refl _, fun _ => by decide⟩
    · rw [if_neg h2]
      exact ⟨fun h => absurd h (by decide), fun h => absurd (l_ext (by omega)) h2⟩
theorem mod_half {b r : Nat} (h : 0 < r) (hr : r < b) : 2 * (b % r) < b := by
  have h1 := Nat.mod_lt b h
  by_cases c : 2 * r ≤ b
  · omega
  · have : b % r = b - r := by
      rw [Nat.mod_eq_sub_mod (by omega), Nat.mod_eq_of_lt (by omega)]
    omega
theorem l0 : (0 : Int64).toInt = 0 := rfl
theorem lNt {n : Nat} (h : n < 2 ^ 63) : (lN n).toInt = n := pk_lT h
/-- the class's loop finds the greatest common divisor -/
theorem rd_20 (x1 x3 : Int64) (od : jY) : ∀ (k a b i N : Nat), b < 2 ^ k → a < 2 ^ 63 → b < 2 ^ 63 → i + 2 * k < 200 → 2 * k < N → f_Odds_reduce_20 x1 x3 N od (lN a) (lN b) (nI i) = f_Odds_reduce_56 x1 x3 od (lN (Nat.gcd a b)) := by
  have e200 : (200 : Int32).toInt = 200 := rfl
  intro k
  induction k with
  | zero =>
    intro a b i N hb ha hb2 hi hN
    obtain ⟨N, rfl⟩ : ∃ k, N = k + 1 := ⟨N - 1, by omega⟩
    have : b = 0 := by have : (2 : Nat) ^ 0 = 1 := rfl; omega
    subst this
    have ti : (nI i).toInt = i := nI_toInt (by omega)
    rw [f_Odds_reduce_20, if_neg (by rw [i_le, ti]; omega), if_pos (by rw [lc_eq]; rfl), Nat.gcd_zero_right]
  | succ k ih =>
    intro a b i N hb ha hb2 hi hN
    obtain ⟨N, rfl⟩ : ∃ k, N = k + 1 + 1 := ⟨N - 2, by omega⟩
    have ti : (nI i).toInt = i := nI_toInt (by omega)
    have ti1 : (nI (i + 1)).toInt = ((i + 1 : Nat) : Int) := nI_toInt (by omega)
    by_cases c : b = 0
    · subst c
      rw [f_Odds_reduce_20, if_neg (by rw [i_le, ti]; omega), if_pos (by rw [lc_eq]; rfl), Nat.gcd_zero_right]
    · have hr := Nat.mod_lt a (Nat.pos_of_ne_zero c)
      rw [f_Odds_reduce_20, if_neg (by rw [i_le, ti]; omega), if_neg (by rw [lc_eq, lNt hb2, l0]; omega), nzl_ok (by rw [lNt hb2]; omega), Option.bind_some, pk_lRem ha (by omega) hb2, nI_1]
      have hg : Nat.gcd a b = Nat.gcd b (a % b) := by rw [Nat.gcd_comm a b, Nat.gcd_rec, Nat.gcd_comm]
      generalize a % b = r at hr hg ⊢
      rw [hg]
      by_cases d : r = 0
      · subst d
        rw [f_Odds_reduce_20, if_neg (by rw [i_le, ti1]; omega), if_pos (by rw [lc_eq]; rfl), Nat.gcd_zero_right]
      · have hh := mod_half (Nat.pos_of_ne_zero d) hr
        rw [f_Odds_reduce_20, if_neg (by rw [i_le, ti1]; omega), if_neg (by rw [lc_eq, lNt (by omega), l0]; omega), nzl_ok (by rw [lNt (by omega)]; omega), Option.bind_some, pk_lRem hb2 (by omega) (by omega), nI_1]
        have hg2 : Nat.gcd b r = Nat.gcd r (b % r) := by rw [Nat.gcd_comm b r, Nat.gcd_rec, Nat.gcd_comm]
        rw [hg2]
        have hp : (2 : Nat) ^ (k + 1) = 2 * 2 ^ k := by rw [Nat.pow_succ, Nat.mul_comm]
        exact ih r (b % r) (i + 1 + 1) N (by omega) (by omega) (by omega) (by omega) (by omega)
def tmEnd (x1 x3 : Int64) (my : jY) (v5 : Int64) : Option jY := (if (lg_cmp x3 0) = 0 then f_Mo_terms_49 x1 x3 my v5 0 else (nzl v5).bind fun _ => f_Mo_terms_49 x1 x3 my v5 (x1 / v5))
/-- so does the reference's -/
theorem tm_9 (x1 x3 : Int64) (my : jY) : ∀ (k a b N : Nat), b < 2 ^ k → a < 2 ^ 63 → b < 2 ^ 63 → 2 * k < N → f_Mo_terms_9 x1 x3 N my (lN a) (lN b) = tmEnd x1 x3 my (lN (Nat.gcd a b)) := by
  intro k
  induction k with
  | zero =>
    intro a b N hb ha hb2 hN
    obtain ⟨N, rfl⟩ : ∃ k, N = k + 1 := ⟨N - 1, by omega⟩
    have : b = 0 := by have : (2 : Nat) ^ 0 = 1 := rfl; omega
    subst this
    rw [f_Mo_terms_9, if_pos (by rw [lc_eq]; rfl), Nat.gcd_zero_right]; rfl
  | succ k ih =>
    intro a b N hb ha hb2 hN
    obtain ⟨N, rfl⟩ : ∃ k, N = k + 1 + 1 := ⟨N - 2, by omega⟩
    by_cases c : b = 0
    · subst c
      rw [f_Mo_terms_9, if_pos (by rw [lc_eq]; rfl), Nat.gcd_zero_right]; rfl
    · have hr := Nat.mod_lt a (Nat.pos_of_ne_zero c)
      have A : f_Mo_terms_9 x1 x3 (N + 1 + 1) my (lN a) (lN b) = f_Mo_terms_9 x1 x3 (N + 1) my (lN b) (lN (a % b)) := by
        rw [f_Mo_terms_9, if_neg (by rw [lc_eq, lNt hb2, l0]; omega), nzl_ok (by rw [lNt hb2]; omega), Option.bind_some, pk_lRem ha (by omega) hb2]
      rw [A]
      have hg : Nat.gcd a b = Nat.gcd b (a % b) := by rw [Nat.gcd_comm a b, Nat.gcd_rec, Nat.gcd_comm]
      generalize a % b = r at hr hg ⊢
      rw [hg]
      by_cases d : r = 0
      · subst d
        rw [f_Mo_terms_9, if_pos (by rw [lc_eq]; rfl), Nat.gcd_zero_right]; rfl
      · have hh := mod_half (Nat.pos_of_ne_zero d) hr
        have B : f_Mo_terms_9 x1 x3 (N + 1) my (lN b) (lN r) = f_Mo_terms_9 x1 x3 N my (lN r) (lN (b % r)) := by
          rw [f_Mo_terms_9, if_neg (by rw [lc_eq, lNt (by omega), l0]; omega), nzl_ok (by rw [lNt (by omega)]; omega), Option.bind_some, pk_lRem hb2 (by omega) (by omega)]
        rw [B]
        have hg2 : Nat.gcd b r = Nat.gcd r (b % r) := by rw [Nat.gcd_comm b r, Nat.gcd_rec, Nat.gcd_comm]
        rw [hg2]
        have hp : (2 : Nat) ^ (k + 1) = 2 * 2 ^ k := by rw [Nat.pow_succ, Nat.mul_comm]
        exact ih r (b % r) N (by omega) (by omega) (by omega) (by omega)
