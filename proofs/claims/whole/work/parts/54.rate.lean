def sI (f : Nat → Int) : Nat → Int
  | 0 => 0
  | n + 1 => sI f n + f n
/-- LIKELY of any number: 0 where there is no such kind -/
def lkA (ki no mo : jZ) (p a n : Nat) (k : Nat) : Int := if (k : Int) < (mo 3 0).toInt then lk ki no k p a n else 0
theorem sI_bd {f : Nat → Int} {c : Int} : ∀ n : Nat, (∀ k, k < n → 0 ≤ f k ∧ f k ≤ c) → 0 ≤ sI f n ∧ sI f n ≤ c * n
  | 0, _ => ⟨Int.le_refl _, by simp [sI]⟩
  | n + 1, h => by
    have := sI_bd n (fun k hk => h k (by omega))
    have := h n (by omega)
    rw [sI]
    have e : c * ((n + 1 : Nat) : Int) = c * n + c := by rw [Int.natCast_add, Int.mul_add]; simp
    omega
theorem sI_tail {f : Nat → Int} {K : Nat} : ∀ n, K ≤ n → (∀ k, K ≤ k → f k = 0) → sI f n = sI f K
  | 0, h, _ => by have : K = 0 := by omega
                  rw [this]
  | n + 1, h, hz => by
    by_cases e : K = n + 1
    · rw [e]
    · rw [sI, hz n (by omega), sI_tail n (by omega) hz]; omega
theorem mean_4 (m2 : jZ) (x1 : Int32) (k : Nat) (hk : x1.toInt = k) (hk5 : k < 5) (hf : ∀ f, f < 10 → 0 ≤ (m2 7 (10 * k + f)).toInt ∧ (m2 7 (10 * k + f)).toInt ≤ 9) : ∀ (n f N : Nat) (v2 : Int32), f + n = 10 → n < N → v2.toInt = sm (m2 7) (10 * k) f → 0 ≤ v2.toInt → v2.toInt ≤ 9 * f →
    ∃ q : Int32, f_Mo_meanOf_4 m2 x1 N v2 (nI f) = some q ∧ q.toInt = sm (m2 7) (10 * k) 10 := by
  have e10 : (10 : Int32).toInt = 10 := rfl
  intro n
  induction n with
  | zero =>
    intro f N v2 h hN h2 h0 hb
    obtain ⟨N, rfl⟩ : ∃ k, N = k + 1 := ⟨N - 1, by omega⟩
    have : f = 10 := by omega
    subst this
    exact ⟨v2, by rw [f_Mo_meanOf_4, if_pos (by decide)], h2⟩
  | succ n ih =>
    intro f N v2 h hN h2 h0 hb
    obtain ⟨N, rfl⟩ : ∃ k, N = k + 1 := ⟨N - 1, by omega⟩
    have ti : (nI f).toInt = f := nI_toInt (by omega)
    have m1 : (10 * x1).toInt = 10 * x1.toInt := i_mul (by rw [e10]; omega) (by rw [e10]; omega)
    have m2' : (10 * x1 + nI f).toInt = ((10 * k + f : Nat) : Int) := by rw [i_add (by omega) (by omega), m1]; omega
    have hff := hf f (by omega)
    rw [f_Mo_meanOf_4, if_neg (by rw [i_le, ti]; omega), ix_ok (by omega) (by omega)]
    simp only [Option.bind_some, i_tn, m2', Int.toNat_natCast, nI_1]
    have ha : (v2 + m2 7 (10 * k + f)).toInt = v2.toInt + (m2 7 (10 * k + f)).toInt := i_add (by omega) (by omega)
    exact ih (f + 1) N _ (by omega) (by omega) (by rw [ha, h2, sm]) (by rw [ha]; omega) (by rw [ha]; omega)
theorem mean_ok {ki mo m2 : jZ} (hk : iKinds ki mo) (h7 : m2 7 = mo 7) (x1 : Int32) (k : Nat) (e1 : x1.toInt = k) (hk1 : (k : Int) < (mo 3 0).toInt) : f_Mo_meanOf m2 x1 = some (ki 4 k) ∧ 0 ≤ (ki 4 k).toInt ∧ (ki 4 k).toInt ≤ 90 := by
  have K5 := hk.2.2.1
  obtain ⟨-, -, -, -, hf, hs, -⟩ := hk.2.2.2.2 k hk1
  obtain ⟨q, q1, q2⟩ := mean_4 m2 x1 k e1 (by omega) (fun f hff => by rw [h7]; exact (hf f hff).2) 10 0 FU 0 rfl (by decide) rfl (by decide) (by decide)
  refine ⟨?_, ?_⟩
  · unfold f_Mo_meanOf
    rw [show f_Mo_meanOf_4 m2 x1 FU 0 0 = some q from q1, i_ext (show q.toInt = (ki 4 k).toInt by rw [q2, h7, hs])]
  · rw [hs]
    have b : ∀ n, n ≤ 10 → 0 ≤ sm (mo 7) (10 * k) n ∧ sm (mo 7) (10 * k) n ≤ 9 * n := by
      intro n
      induction n with
      | zero => intro _; exact ⟨Int.le_refl _, by simp [sm]⟩
      | succ n ih =>
        intro hn
        have := ih (by omega)
        have := (hf n (by omega)).2
        rw [sm]
        omega
    have := b 10 (Nat.le_refl 10)
    omega
theorem lkA_rng {ki no mo : jZ} (hk : iKinds ki mo) (hn : iNotes no mo) (p a n : Nat) (hp : p < 12) (hn6 : n ≤ 6) (h1 : 1 ≤ n) (h9 : a + n ≤ 9) (k : Nat) : 0 ≤ lkA ki no mo p a n k ∧ lkA ki no mo p a n k ≤ 99000000 := by
  have K5 := hk.2.2.1
  unfold lkA
  by_cases c : (k : Int) < (mo 3 0).toInt
  · rw [if_pos c]
    obtain ⟨r, -, g2, g3, g4⟩ := weigh_ok hk hn k p a n c hp (nI k) (nI p) (nI a) (nI (a + n - 1)) (nI_toInt (by omega)) (nI_toInt (by omega)) (nI_toInt (by omega)) (by rw [nI_toInt (by omega)]; omega) (by rw [nI_toInt (by omega)]; omega) hn6
    rw [← g2]; exact ⟨g3, g4⟩
  · rw [if_neg c]; exact ⟨Int.le_refl _, by decide⟩
/-- the class's row of LIKELY -/
theorem wall_6 {ki no mo : jZ} (hk : iKinds ki mo) (hn : iNotes no mo) (p a n : Nat) (hp : p < 12) (hn6 : n ≤ 6) (h1 : 1 ≤ n) (h9 : a + n ≤ 9) (x3 x4 x5 : Int32) (e3 : x3.toInt = p) (e4 : x4.toInt = a) (e5 : x5.toInt + 1 = (a : Int) + n) : ∀ (m i N : Nat) (od : jY) (v6 : Int64), i + m = 5 → m < N → v6.toInt = sI (lkA ki no mo p a n) i → (∀ k, k < i → (od 0 k).toInt = lkA ki no mo p a n k) →
    ∃ od2 r, f_Odds_weighAllOdds_likelies_6 ki no x3 x4 x5 N od v6 (nI i) = some (od2, r) ∧ r.toInt = sI (lkA ki no mo p a n) 5 ∧ (∀ k, k < 5 → (od2 0 k).toInt = lkA ki no mo p a n k) ∧ ∀ k, k ≠ 0 → od2 k = od k := by
  have e50 : (5 : Int32).toInt = 5 := rfl
  have K0 := hk.2.1
  have K5 := hk.2.2.1
  intro m
  induction m with
  | zero =>
    intro i N od v6 hi hN hv ho
    obtain ⟨N, rfl⟩ : ∃ k, N = k + 1 := ⟨N - 1, by omega⟩
    have : i = 5 := by omega
    subst this
    exact ⟨od, v6, by rw [f_Odds_weighAllOdds_likelies_6, if_pos (by decide)], hv, ho, fun _ _ => rfl⟩
  | succ m ih =>
    intro i N od v6 hi hN hv ho
    obtain ⟨N, rfl⟩ : ∃ k, N = k + 1 := ⟨N - 1, by omega⟩
    have ti : (nI i).toInt = i := nI_toInt (by omega)
    have bd := sI_bd (f := lkA ki no mo p a n) i (fun k _ => lkA_rng hk hn p a n hp hn6 h1 h9 k)
    have key : ∀ q : Int64, q.toInt = lkA ki no mo p a n i → ∃ od2 r, f_Odds_weighAllOdds_likelies_6 ki no x3 x4 x5 N (up2 od 0 i q) (v6 + q) (nI (i + 1)) = some (od2, r) ∧ r.toInt = sI (lkA ki no mo p a n) 5 ∧ (∀ k, k < 5 → (od2 0 k).toInt = lkA ki no mo p a n k) ∧ ∀ k, k ≠ 0 → od2 k = od k := by
      intro q hq
      have rg := lkA_rng hk hn p a n hp hn6 h1 h9 i
      obtain ⟨od2, r, g1, g2, g3, g4⟩ := ih (i + 1) N (up2 od 0 i q) (v6 + q) (by omega) (by omega) (by rw [l_add (by omega) (by omega), hv, hq, sI]) (fun k hk' => by
        by_cases e : k = i
        · rw [e, up2_s, hq]
        · rw [up2_j e]; exact ho k (by omega))
      exact ⟨od2, r, g1, g2, g3, fun k hk' => (g4 k hk').trans (up2_k hk')⟩
    rw [f_Odds_weighAllOdds_likelies_6, if_neg (by rw [i_le, ti]; omega)]
    by_cases c : (i : Int) < (mo 3 0).toInt
    · obtain ⟨q, q1, q2, q3, q4⟩ := weigh_ok hk hn i p a n c hp (nI i) x3 x4 x5 ti e3 e4 e5 (by omega) hn6
      rw [if_neg (by rw [i_le, hk.1, ti]; omega), q1, Option.bind_some, ix_ok (by omega) (by omega)]
      simp only [Option.bind_some, i_tn, ti, Int.toNat_natCast, nI_1, up2_s]
      exact key q (by rw [q2]; unfold lkA; rw [if_pos c])
    · rw [if_pos (by rw [i_le, hk.1, ti]; omega), ix_ok (by omega) (by omega)]
      simp only [Option.bind_some, i_tn, ti, Int.toNat_natCast, nI_1, up2_s]
      exact key 0 (by unfold lkA; rw [if_neg c]; rfl)
