theorem wallo_6 {ki no mo : jZ} (hk : iKinds ki mo) (hn : iNotes no mo) (p a n : Nat) (hp : p < 12) (hn6 : n ≤ 6) (h1 : 1 ≤ n) (h9 : a + n ≤ 9) (x3 x4 x5 : Int32) (e3 : x3.toInt = p) (e4 : x4.toInt = a) (e5 : x5.toInt + 1 = (a : Int) + n) : ∀ (m i N : Nat) (od : jY) (v6 : Int64), i + m = 5 → m < N → v6.toInt = sI (lkA ki no mo p a n) i → (∀ k, k < i → (od 1 k).toInt = lkA ki no mo p a n k) →
    ∃ od2 r, f_Odds_weighAllOdds_others_6 ki no x3 x4 x5 N od v6 (nI i) = some (od2, r) ∧ r.toInt = sI (lkA ki no mo p a n) 5 ∧ (∀ k, k < 5 → (od2 1 k).toInt = lkA ki no mo p a n k) ∧ ∀ k, k ≠ 1 → od2 k = od k := by
  have e50 : (5 : Int32).toInt = 5 := rfl
  have K0 := hk.2.1
  have K5 := hk.2.2.1
  intro m
  induction m with
  | zero =>
    intro i N od v6 hi hN hv ho
    obtain ⟨N, rfl⟩ : ∃ k, N = k + 1 := ⟨N - 1, by omega⟩
    have : i = 5 := by omega
    subst this
    exact ⟨od, v6, by rw [f_Odds_weighAllOdds_others_6, if_pos (by decide)], hv, ho, fun _ _ => rfl⟩
  | succ m ih =>
    intro i N od v6 hi hN hv ho
    obtain ⟨N, rfl⟩ : ∃ k, N = k + 1 := ⟨N - 1, by omega⟩
    have ti : (nI i).toInt = i := nI_toInt (by omega)
    have bd := sI_bd (f := lkA ki no mo p a n) i (fun k _ => lkA_rng hk hn p a n hp hn6 h1 h9 k)
    have key : ∀ q : Int64, q.toInt = lkA ki no mo p a n i → ∃ od2 r, f_Odds_weighAllOdds_others_6 ki no x3 x4 x5 N (up2 od 1 i q) (v6 + q) (nI (i + 1)) = some (od2, r) ∧ r.toInt = sI (lkA ki no mo p a n) 5 ∧ (∀ k, k < 5 → (od2 1 k).toInt = lkA ki no mo p a n k) ∧ ∀ k, k ≠ 1 → od2 k = od k := by
      intro q hq
      have rg := lkA_rng hk hn p a n hp hn6 h1 h9 i
      obtain ⟨od2, r, g1, g2, g3, g4⟩ := ih (i + 1) N (up2 od 1 i q) (v6 + q) (by omega) (by omega) (by rw [l_add (by omega) (by omega), hv, hq, sI]) (fun k hk' => by
        by_cases e : k = i
        · rw [e, up2_s, hq]
        · rw [up2_j e]; exact ho k (by omega))
      exact ⟨od2, r, g1, g2, g3, fun k hk' => (g4 k hk').trans (up2_k hk')⟩
    rw [f_Odds_weighAllOdds_others_6, if_neg (by rw [i_le, ti]; omega)]
    by_cases c : (i : Int) < (mo 3 0).toInt
    · obtain ⟨q, q1, q2, q3, q4⟩ := weigh_ok hk hn i p a n c hp (nI i) x3 x4 x5 ti e3 e4 e5 (by omega) hn6
      rw [if_neg (by rw [i_le, hk.1, ti]; omega), q1, Option.bind_some, ix_ok (by omega) (by omega)]
      simp only [Option.bind_some, i_tn, ti, Int.toNat_natCast, nI_1, up2_s]
      exact key q (by rw [q2]; unfold lkA; rw [if_pos c])
    · rw [if_pos (by rw [i_le, hk.1, ti]; omega), ix_ok (by omega) (by omega)]
      simp only [Option.bind_some, i_tn, ti, Int.toNat_natCast, nI_1, up2_s]
      exact key 0 (by unfold lkA; rw [if_neg c]; rfl)
theorem mul_bd {a b c d : Int} (h1 : 0 ≤ a) (h2 : a ≤ c) (h3 : 0 ≤ b) (h4 : b ≤ d) : 0 ≤ a * b ∧ a * b ≤ c * d :=
  ⟨Int.mul_nonneg h1 h3, Int.mul_le_mul h2 h4 h3 (by omega)⟩
/-- a pair's share in what is worse -/
def wg (S : Nat → Int32) (A B : Nat → Int) (i k : Nat) : Int := if S i ≤ S k then 0 else A i * B k
theorem wg_bd {S : Nat → Int32} {A B : Nat → Int} (hA : ∀ k, 0 ≤ A k ∧ A k ≤ 99000000) (hB : ∀ k, 0 ≤ B k ∧ B k ≤ 99000000) (i k : Nat) : 0 ≤ wg S A B i k ∧ wg S A B i k ≤ 9801000000000000 := by
  unfold wg
  have := mul_bd (hA i).1 (hA i).2 (hB k).1 (hB k).2
  by_cases c : S i ≤ S k
  · rw [if_pos c]; omega
  · rw [if_neg c]; omega
theorem cmp_47 (ki no : jZ) (x2 x3 x4 x5 : Int32) (k38 : jY → Int64 → Int64 → Int64 → Int32 → Option jY) (A B : Nat → Int) (hA : ∀ k, 0 ≤ A k ∧ A k ≤ 99000000) (hB : ∀ k, 0 ≤ B k ∧ B k ≤ 99000000) (od : jY) (ho0 : ∀ k, k < 5 → (od 0 k).toInt = A k) (ho1 : ∀ k, k < 5 → (od 1 k).toInt = B k) (v6 v8 : Int64) (i : Nat) (hi : i < 5) (b : Int) (hb0 : 0 ≤ b) (hb : b ≤ 300000000000000000) : ∀ (m k N : Nat) (v10 : Int64), k + m = 5 → m < N → v10.toInt = b + sI (wg (ki 4) A B i) k → ∃ r : Int64, f_Odds_compare_47 ki no x2 x3 x4 x5 k38 N od v6 v8 v10 (nI i) (nI k) = k38 od v6 v8 r (nI (i + 1)) ∧ r.toInt = b + sI (wg (ki 4) A B i) 5 := by
  have e5 : (5 : Int32).toInt = 5 := rfl
  have ti : (nI i).toInt = i := nI_toInt (by omega)
  intro m
  induction m with
  | zero =>
    intro k N v10 hk hN hv
    obtain ⟨N, rfl⟩ : ∃ k, N = k + 1 := ⟨N - 1, by omega⟩
    have : k = 5 := by omega
    subst this
    exact ⟨v10, by rw [f_Odds_compare_47, if_pos (by decide), nI_1], hv⟩
  | succ m ih =>
    intro k N v10 hk hN hv
    obtain ⟨N, rfl⟩ : ∃ k, N = k + 1 := ⟨N - 1, by omega⟩
    have tk : (nI k).toInt = k := nI_toInt (by omega)
    have bd := sI_bd (f := wg (ki 4) A B i) k (fun k _ => wg_bd hA hB i k)
    have rg := mul_bd (hA i).1 (hA i).2 (hB k).1 (hB k).2
    rw [f_Odds_compare_47, if_neg (by rw [i_le, tk]; omega), ix_ok (by omega) (by omega), ix_ok (by omega) (by omega)]
    simp only [Option.bind_some, i_tn, ti, tk, Int.toNat_natCast, nI_1]
    by_cases c : ki 4 i ≤ ki 4 k
    · rw [if_pos c]
      exact ih (k + 1) N v10 (by omega) (by omega) (by rw [hv, sI]; unfold wg; rw [if_pos c]; omega)
    · rw [if_neg c]
      have hm : (od 0 i * od 1 k).toInt = A i * B k := by
        rw [l_mul (by rw [ho0 i hi, ho1 k (by omega)]; omega) (by rw [ho0 i hi, ho1 k (by omega)]; omega), ho0 i hi, ho1 k (by omega)]
      refine ih (k + 1) N _ (by omega) (by omega) ?_
      have e : sI (wg (ki 4) A B i) (k + 1) = sI (wg (ki 4) A B i) k + A i * B k := by
        rw [sI]; unfold wg; rw [if_neg c]
      rw [l_add (by omega) (by omega), hm, hv, e]; omega
theorem cmp_38 (ki no : jZ) (x2 x3 x4 x5 : Int32) (A B : Nat → Int) (hA : ∀ k, 0 ≤ A k ∧ A k ≤ 99000000) (hB : ∀ k, 0 ≤ B k ∧ B k ≤ 99000000) (od : jY) (ho0 : ∀ k, k < 5 → (od 0 k).toInt = A k) (ho1 : ∀ k, k < 5 → (od 1 k).toInt = B k) (v6 v8 : Int64) : ∀ (m i N : Nat) (v10 : Int64), i + m = 5 → m < N → v10.toInt = sI (fun i => sI (wg (ki 4) A B i) 5) i → ∃ r : Int64, f_Odds_compare_38 ki no x2 x3 x4 x5 N od v6 v8 v10 (nI i) = ((f_Odds_reduce od r (v6 * v8)).bind fun q6 => some q6) ∧ r.toInt = sI (fun i => sI (wg (ki 4) A B i) 5) 5 := by
  have e5 : (5 : Int32).toInt = 5 := rfl
  intro m
  induction m with
  | zero =>
    intro i N v10 hi hN hv
    obtain ⟨N, rfl⟩ : ∃ k, N = k + 1 := ⟨N - 1, by omega⟩
    have : i = 5 := by omega
    subst this
    exact ⟨v10, by rw [f_Odds_compare_38, if_pos (by decide)], hv⟩
  | succ m ih =>
    intro i N v10 hi hN hv
    obtain ⟨N, rfl⟩ : ∃ k, N = k + 1 := ⟨N - 1, by omega⟩
    have ti : (nI i).toInt = i := nI_toInt (by omega)
    have bd := sI_bd (f := fun i => sI (wg (ki 4) A B i) 5) (c := 49005000000000000) i (fun k _ => by have := sI_bd (f := wg (ki 4) A B k) 5 (fun j _ => wg_bd hA hB k j); omega)
    obtain ⟨r, g1, g2⟩ := cmp_47 ki no x2 x3 x4 x5 (fun od_y v6 v8 v10 v12 => f_Odds_compare_38 ki no x2 x3 x4 x5 N od_y v6 v8 v10 v12) A B hA hB od ho0 ho1 v6 v8 i (by omega) (sI (fun i => sI (wg (ki 4) A B i) 5) i) (by omega) (by omega) 5 0 FU v10 rfl (by decide) (by rw [hv]; simp [sI])
    rw [f_Odds_compare_38, if_neg (by rw [i_le, ti]; omega), show f_Odds_compare_47 ki no x2 x3 x4 x5 (fun od_y v6 v8 v10 v12 => f_Odds_compare_38 ki no x2 x3 x4 x5 N od_y v6 v8 v10 v12) FU od v6 v8 v10 (nI i) 0 = _ from g1]
    exact ih (i + 1) N r (by omega) (by omega) g2
theorem wo_75 {ki no mo m2 : jZ} (hk : iKinds ki mo) (hn : iNotes no mo) (h3 : m2 3 = mo 3) (h6 : m2 6 = mo 6) (h7 : m2 7 = mo 7) (ht : ∀ j, j < 108 → m2 44 j = no 7 j) (p p2 a n : Nat) (hp : p < 12) (hp2 : p2 < 12) (hn6 : n ≤ 6) (h1 : 1 ≤ n) (h9 : a + n ≤ 9) (x1 x2 x3 x4 x5 : Int32) (e1 : x1.toInt = p) (e2 : x2.toInt = p2) (e3 : x3.toInt = a) (e4 : x4.toInt + 1 = (a : Int) + n) (my : jY) (k63 : jZ → jY → Int64 → Int64 → Int32 → Option (jZ × jY × Int64)) (i : Nat) (hi : (i : Int) < (mo 3 0).toInt) (b c : Int) (hb0 : 0 ≤ b) (hb : b ≤ 300000000000000000) (hc0 : 0 ≤ c) (hc : c ≤ 300000000000000000) : ∀ (m k N : Nat) (v6 v8 : Int64), (k : Int) + m = (mo 3 0).toInt → m < N → v6.toInt = b + sI (wg (ki 4) (lkA ki no mo p a n) (lkA ki no mo p2 a n) i) k → v8.toInt = c + sI (fun o => lkA ki no mo p a n i * lkA ki no mo p2 a n o) k →
    ∃ r s : Int64, f_Mo_worse_75 x1 x2 x3 x4 x5 k63 N m2 my v6 v8 (nI i) (nI k) = k63 m2 my r s (nI (i + 1)) ∧ r.toInt = b + sI (wg (ki 4) (lkA ki no mo p a n) (lkA ki no mo p2 a n) i) (k + m) ∧ s.toInt = c + sI (fun o => lkA ki no mo p a n i * lkA ki no mo p2 a n o) (k + m) := by
  have K5 := hk.2.2.1
  have ti : (nI i).toInt = i := nI_toInt (by omega)
  have hA := fun k => lkA_rng hk hn p a n hp hn6 h1 h9 k
  have hB := fun k => lkA_rng hk hn p2 a n hp2 hn6 h1 h9 k
  intro m
  induction m with
  | zero =>
    intro k N v6 v8 hk' hN hv hw
    obtain ⟨N, rfl⟩ : ∃ k, N = k + 1 := ⟨N - 1, by omega⟩
    have tk : (nI k).toInt = k := nI_toInt (by omega)
    exact ⟨v6, v8, by rw [f_Mo_worse_75, h3, if_pos (by rw [i_le, tk]; omega), nI_1], hv, hw⟩
  | succ m ih =>
    intro k N v6 v8 hk' hN hv hw
    obtain ⟨N, rfl⟩ : ∃ k, N = k + 1 := ⟨N - 1, by omega⟩
    have tk : (nI k).toInt = k := nI_toInt (by omega)
    have ck : (k : Int) < (mo 3 0).toInt := by omega
    obtain ⟨q, q1, q2, -⟩ := weigh_ok hk hn i p a n hi hp (nI i) x1 x3 x4 ti e1 e3 e4 (by omega) hn6
    obtain ⟨s, s1, s2, -⟩ := weigh_ok hk hn k p2 a n ck hp2 (nI k) x2 x3 x4 tk e2 e3 e4 (by omega) hn6
    have l1 := likelyOf_ok (m2 := m2) hk hn h6 h7 ht i p a n hi hp (nI i) x1 x3 x4 ti e1 e3 e4 (by omega) hn6
    have l2 := likelyOf_ok (m2 := m2) hk hn h6 h7 ht k p2 a n ck hp2 (nI k) x2 x3 x4 tk e2 e3 e4 (by omega) hn6
    have hq : q.toInt = lkA ki no mo p a n i := by rw [q2]; unfold lkA; rw [if_pos hi]
    have hs : s.toInt = lkA ki no mo p2 a n k := by rw [s2]; unfold lkA; rw [if_pos ck]
    obtain ⟨mi, -⟩ := mean_ok (m2 := m2) hk h7 (nI i) i ti hi
    obtain ⟨mk, -⟩ := mean_ok (m2 := m2) hk h7 (nI k) k tk ck
    have rg := mul_bd (hA i).1 (hA i).2 (hB k).1 (hB k).2
    have bd := sI_bd (f := wg (ki 4) (lkA ki no mo p a n) (lkA ki no mo p2 a n) i) k (fun k _ => wg_bd hA hB i k)
    have bd2 := sI_bd (f := fun o => lkA ki no mo p a n i * lkA ki no mo p2 a n o) (c := 9801000000000000) k (fun k _ => mul_bd (hA i).1 (hA i).2 (hB k).1 (hB k).2)
    have hm : (q * s).toInt = lkA ki no mo p a n i * lkA ki no mo p2 a n k := by
      rw [l_mul (by rw [hq, hs]; omega) (by rw [hq, hs]; omega), hq, hs]
    rw [f_Mo_worse_75, h3, if_neg (by rw [i_le, tk]; omega), l1, q1, Option.bind_some, l2, s1, Option.bind_some, mi, Option.bind_some, mk, Option.bind_some, nI_1]
    have w8 : (v8 + q * s).toInt = c + sI (fun o => lkA ki no mo p a n i * lkA ki no mo p2 a n o) (k + 1) := by
      rw [l_add (by omega) (by omega), hm, hw, sI]; omega
    have hk1 : k + (m + 1) = k + 1 + m := by omega
    rw [hk1]
    by_cases cc : ki 4 i ≤ ki 4 k
    · rw [if_pos cc]
      refine ih (k + 1) N _ _ (by omega) (by omega) ?_ w8
      have z : (v6 + 0).toInt = v6.toInt := by rw [l_add (by rw [l0]; omega) (by rw [l0]; omega), l0]; omega
      rw [z, hv, sI]; unfold wg; rw [if_pos cc]; omega
    · rw [if_neg cc]
      refine ih (k + 1) N _ _ (by omega) (by omega) ?_ w8
      have e : sI (wg (ki 4) (lkA ki no mo p a n) (lkA ki no mo p2 a n) i) (k + 1) = sI (wg (ki 4) (lkA ki no mo p a n) (lkA ki no mo p2 a n) i) k + lkA ki no mo p a n i * lkA ki no mo p2 a n k := by
        rw [sI]; unfold wg; rw [if_neg cc]
      rw [l_add (by omega) (by omega), hm, hv, e]; omega
theorem wo_63 {ki no mo m2 : jZ} (hk : iKinds ki mo) (hn : iNotes no mo) (h3 : m2 3 = mo 3) (h6 : m2 6 = mo 6) (h7 : m2 7 = mo 7) (ht : ∀ j, j < 108 → m2 44 j = no 7 j) (p p2 a n : Nat) (hp : p < 12) (hp2 : p2 < 12) (hn6 : n ≤ 6) (h1 : 1 ≤ n) (h9 : a + n ≤ 9) (x1 x2 x3 x4 x5 : Int32) (e1 : x1.toInt = p) (e2 : x2.toInt = p2) (e3 : x3.toInt = a) (e4 : x4.toInt + 1 = (a : Int) + n) (my : jY) (K : Nat) (hK : (K : Int) = (mo 3 0).toInt) : ∀ (m i N : Nat) (v6 v8 : Int64), i + m = K → m < N → v6.toInt = sI (fun i => sI (wg (ki 4) (lkA ki no mo p a n) (lkA ki no mo p2 a n) i) K) i → v8.toInt = sI (fun i => sI (fun o => lkA ki no mo p a n i * lkA ki no mo p2 a n o) K) i →
    ∃ r s : Int64, f_Mo_worse_63 x1 x2 x3 x4 x5 N m2 my v6 v8 (nI i) = ((f_Mo_terms my r s).bind fun q16 => (if x5 = 0 then some (m2, q16, (q16 45 0)) else some (m2, q16, (q16 46 0)))) ∧ r.toInt = sI (fun i => sI (wg (ki 4) (lkA ki no mo p a n) (lkA ki no mo p2 a n) i) K) K ∧ s.toInt = sI (fun i => sI (fun o => lkA ki no mo p a n i * lkA ki no mo p2 a n o) K) K := by
  have K5 := hk.2.2.1
  have hA := fun k => lkA_rng hk hn p a n hp hn6 h1 h9 k
  have hB := fun k => lkA_rng hk hn p2 a n hp2 hn6 h1 h9 k
  intro m
  induction m with
  | zero =>
    intro i N v6 v8 hi hN hv hw
    obtain ⟨N, rfl⟩ : ∃ k, N = k + 1 := ⟨N - 1, by omega⟩
    have ti : (nI i).toInt = i := nI_toInt (by omega)
    have : i = K := by omega
    rw [this] at hv hw
    exact ⟨v6, v8, by rw [f_Mo_worse_63, h3, if_pos (by rw [i_le, ti]; omega)], hv, hw⟩
  | succ m ih =>
    intro i N v6 v8 hi hN hv hw
    obtain ⟨N, rfl⟩ : ∃ k, N = k + 1 := ⟨N - 1, by omega⟩
    have ti : (nI i).toInt = i := nI_toInt (by omega)
    have bd := sI_bd (f := fun i => sI (wg (ki 4) (lkA ki no mo p a n) (lkA ki no mo p2 a n) i) K) (c := 49005000000000000) i (fun k _ => by
      have := sI_bd (f := wg (ki 4) (lkA ki no mo p a n) (lkA ki no mo p2 a n) k) K (fun j _ => wg_bd hA hB k j)
      omega)
    have bd2 := sI_bd (f := fun i => sI (fun o => lkA ki no mo p a n i * lkA ki no mo p2 a n o) K) (c := 49005000000000000) i (fun k _ => by
      have := sI_bd (f := fun o => lkA ki no mo p a n k * lkA ki no mo p2 a n o) (c := 9801000000000000) K (fun j _ => mul_bd (hA k).1 (hA k).2 (hB j).1 (hB j).2)
      omega)
    obtain ⟨r, s, g1, g2, g3⟩ := wo_75 hk hn h3 h6 h7 ht p p2 a n hp hp2 hn6 h1 h9 x1 x2 x3 x4 x5 e1 e2 e3 e4 my (fun mo_z mo_y v6 v8 v10 => f_Mo_worse_63 x1 x2 x3 x4 x5 N mo_z mo_y v6 v8 v10) i (by omega) _ _ bd.1 (by omega) bd2.1 (by omega) K 0 FU v6 v8 (by omega) (by unfold FU; omega) (by rw [hv]; simp [sI]) (by rw [hw]; simp [sI])
    rw [f_Mo_worse_63, h3, if_neg (by rw [i_le, ti]; omega), show f_Mo_worse_75 x1 x2 x3 x4 x5 (fun mo_z mo_y v6 v8 v10 => f_Mo_worse_63 x1 x2 x3 x4 x5 N mo_z mo_y v6 v8 v10) FU m2 my v6 v8 (nI i) 0 = _ from g1]
    rw [Nat.zero_add] at g2 g3
    exact ih (i + 1) N r s (by omega) (by omega) (by rw [g2, sI]) (by rw [g3, sI])
theorem sI_mul (a : Int) (f : Nat → Int) : ∀ n, sI (fun o => a * f o) n = a * sI f n
  | 0 => by simp [sI]
  | n + 1 => by rw [sI, sI, sI_mul a f n, Int.mul_add]
theorem sI_mulr (a : Int) (f : Nat → Int) : ∀ n, sI (fun o => f o * a) n = sI f n * a
  | 0 => by simp [sI]
  | n + 1 => by rw [sI, sI, sI_mulr a f n, Int.add_mul]
theorem sI_cong {f g : Nat → Int} : ∀ n, (∀ k, k < n → f k = g k) → sI f n = sI g n
  | 0, _ => rfl
  | n + 1, h => by rw [sI, sI, sI_cong n (fun k hk => h k (by omega)), h n (by omega)]
theorem sI_zero {f : Nat → Int} (n : Nat) (h : ∀ k, f k = 0) : sI f n = 0 := by
  rw [sI_tail (K := 0) n (by omega) (fun k _ => h k)]; rfl
theorem op_worse {ro ki no mo : jZ} {od my : jY} (hk : iKinds ki mo) (hp : iPlaces ro mo) (hn : iNotes no mo) (x1 x2 x3 x4 x5 : Int32) : ∃ od2 m2 my2 r, f_WP_worse ro ki no od x1 x2 x3 x4 x5 = some (od2, r) ∧ f_Mo_worse mo my x1 x2 x3 x4 x5 = some (m2, my2, r) ∧ mRel mo m2 := by
  have e0 : (0 : Int32).toInt = 0 := rfl
  have e1 : (1 : Int32).toInt = 1 := rfl
  have P12 := hp.2.2.1
  have K0 := hk.2.1
  have K5 := hk.2.2.1
  obtain ⟨m2, g1, g2, g3, g4⟩ := knows_i (hn.to (m0 mo 0 0))
  have r3 : ∀ q, mKeep q → m2 q = mo q := ((m0 mo 0 0).tr g2)
  have W1 : f_WP_worse ro ki no od x1 x2 x3 x4 x5 = (if (0 ≤ x1.toInt ∧ x1.toInt < (mo 4 0).toInt) ∧ (0 ≤ x2.toInt ∧ x2.toInt < (mo 4 0).toInt) ∧ ¬ x1.toInt = x2.toInt ∧ (0 ≤ x3.toInt ∧ x3.toInt ≤ x4.toInt ∧ x4.toInt ≤ 8 ∧ x4.toInt - x3.toInt ≤ 5) ∧ (0 ≤ x5.toInt ∧ x5.toInt ≤ 1) then (f_Odds_compare od ki no x1 x2 x3 x4).bind fun q14 => (if x5 = 0 then some (q14, (q14 2 0)) else some (q14, (q14 3 0))) else some (od, -1)) := by
    unfold f_WP_worse
    rw [has_is hp x1, has_is hp x2, isPlace_eq, isPlace_eq, years_eq, within_eq]
    simp only [Option.bind_some, b10, i_eq, e0, e1]
    repeat' split
    all_goals first | rfl | (exfalso; omega)
  have W2 : f_Mo_worse mo my x1 x2 x3 x4 x5 = (if (0 ≤ x1.toInt ∧ x1.toInt < (mo 4 0).toInt) ∧ (0 ≤ x2.toInt ∧ x2.toInt < (mo 4 0).toInt) ∧ ¬ x1.toInt = x2.toInt ∧ (0 ≤ x3.toInt ∧ x3.toInt ≤ x4.toInt ∧ x4.toInt ≤ 8 ∧ x4.toInt - x3.toInt ≤ 5) ∧ (0 ≤ x5.toInt ∧ x5.toInt ≤ 1) then f_Mo_worse_63 x1 x2 x3 x4 x5 FU m2 my 0 0 0 else some (up2 mo 0 0 0, my, -1)) := by
    unfold f_Mo_worse
    rw [isPlace_eq, isPlace_eq, years_mo, years_eq, show (up2 mo 0 0 0) 4 = mo 4 from up2_k (by decide), g1]
    simp only [Option.bind_some, b10, i_eq, i_lt, i_le, e0, e1]
    repeat' split
    all_goals first | rfl | (exfalso; omega)
  rw [W1, W2]
  by_cases c : (0 ≤ x1.toInt ∧ x1.toInt < (mo 4 0).toInt) ∧ (0 ≤ x2.toInt ∧ x2.toInt < (mo 4 0).toInt) ∧ ¬ x1.toInt = x2.toInt ∧ (0 ≤ x3.toInt ∧ x3.toInt ≤ x4.toInt ∧ x4.toInt ≤ 8 ∧ x4.toInt - x3.toInt ≤ 5) ∧ (0 ≤ x5.toInt ∧ x5.toInt ≤ 1)
  · rw [if_pos c, if_pos c]
    generalize hP : x1.toInt.toNat = p
    generalize hP2 : x2.toInt.toNat = p2
    generalize hA' : x3.toInt.toNat = a
    generalize hN' : (x4.toInt + 1 - x3.toInt).toNat = n
    generalize hKK : (mo 3 0).toInt.toNat = K
    obtain ⟨od1, r, a1, a2, a3, a4⟩ := wall_6 hk hn p a n (by omega) (by omega) (by omega) (by omega) x1 x3 x4 (by omega) (by omega) (by omega) 5 0 FU od 0 rfl (by decide) rfl (fun k hk' => absurd hk' (Nat.not_lt_zero k))
    obtain ⟨od2, s, b1, b2, b3, b4⟩ := wallo_6 hk hn p2 a n (by omega) (by omega) (by omega) (by omega) x2 x3 x4 (by omega) (by omega) (by omega) 5 0 FU od1 0 rfl (by decide) rfl (fun k hk' => absurd hk' (Nat.not_lt_zero k))
    have hA := fun k => lkA_rng hk hn p a n (by omega) (by omega) (by omega) (by omega) k
    have hB := fun k => lkA_rng hk hn p2 a n (by omega) (by omega) (by omega) (by omega) k
    have ho0 : ∀ k, k < 5 → (od2 0 k).toInt = lkA ki no mo p a n k := fun k hk' => by rw [b4 0 (by decide)]; exact a3 k hk'
    obtain ⟨t, c1, c2⟩ := cmp_38 ki no x1 x2 x3 x4 (lkA ki no mo p a n) (lkA ki no mo p2 a n) hA hB od2 ho0 b3 r s 5 0 FU 0 rfl (by decide) rfl
    obtain ⟨u, v, d1, d2, d3⟩ := wo_63 hk hn (r3 3 (by unfold mKeep; omega)) (r3 6 (by unfold mKeep; omega)) (r3 7 (by unfold mKeep; omega)) g4 p p2 a n (by omega) (by omega) (by omega) (by omega) (by omega) x1 x2 x3 x4 x5 (by omega) (by omega) (by omega) (by omega) my K (by omega) K 0 FU 0 0 (by omega) (by unfold FU; omega) rfl rfl
    have zA : ∀ k, K ≤ k → lkA ki no mo p a n k = 0 := fun k hk' => by unfold lkA; rw [if_neg (by omega)]
    have zB : ∀ k, K ≤ k → lkA ki no mo p2 a n k = 0 := fun k hk' => by unfold lkA; rw [if_neg (by omega)]
    have eT : t = u := l_ext (by
      rw [c2, d2, sI_tail (K := K) 5 (by omega) (fun k hk' => sI_zero 5 (fun j => by unfold wg; rw [zA k hk', Int.zero_mul]; simp))]
      exact sI_cong K (fun i _ => sI_tail 5 (by omega) (fun k hk' => by unfold wg; rw [zB k hk', Int.mul_zero]; simp)))
    have tA := sI_tail (f := lkA ki no mo p a n) (K := K) 5 (by omega) zA
    have tB := sI_tail (f := lkA ki no mo p2 a n) (K := K) 5 (by omega) zB
    have bA := sI_bd (f := lkA ki no mo p a n) 5 (fun k _ => hA k)
    have bB := sI_bd (f := lkA ki no mo p2 a n) 5 (fun k _ => hB k)
    have mm := mul_bd bA.1 bA.2 bB.1 bB.2
    have hrs : (r * s).toInt = r.toInt * s.toInt := l_mul (by rw [a2, b2]; omega) (by rw [a2, b2]; omega)
    have eV : v = r * s := l_ext (by
      rw [d3, hrs, a2, b2, tA, tB, sI_cong K (fun i _ => sI_mul (lkA ki no mo p a n i) (lkA ki no mo p2 a n) K), sI_mulr])
    have bt := sI_bd (f := fun i => sI (wg (ki 4) (lkA ki no mo p a n) (lkA ki no mo p2 a n) i) 5) (c := 49005000000000000) 5 (fun k _ => by
      have := sI_bd (f := wg (ki 4) (lkA ki no mo p a n) (lkA ki no mo p2 a n) k) 5 (fun j _ => wg_bd hA hB k j)
      omega)
    obtain ⟨X, Y, k1, k2, -⟩ := terms_ok od2 my t (r * s) (by omega) (by omega) (by rw [hrs, a2, b2]; exact mm.1)
    have CC : f_Odds_compare od ki no x1 x2 x3 x4 = some (up2 (up2 od2 2 0 X) 3 0 Y) := by
      unfold f_Odds_compare f_Odds_weighAllOdds_likelies f_Odds_weighAllOdds_others
      rw [show f_Odds_weighAllOdds_likelies_6 ki no x1 x3 x4 FU od 0 0 = some (od1, r) from a1, Option.bind_some]
      show (f_Odds_weighAllOdds_others_6 ki no x2 x3 x4 FU od1 0 0).bind _ = _
      rw [show f_Odds_weighAllOdds_others_6 ki no x2 x3 x4 FU od1 0 0 = some (od2, s) from b1, Option.bind_some]
      show f_Odds_compare_38 ki no x1 x2 x3 x4 FU od2 r s 0 0 = _
      rw [show f_Odds_compare_38 ki no x1 x2 x3 x4 FU od2 r s 0 0 = _ from c1, k1]; rfl
    rw [CC, show f_Mo_worse_63 x1 x2 x3 x4 x5 FU m2 my 0 0 0 = _ from d1, ← eT, eV, k2, Option.bind_some, Option.bind_some, up2_s, up2_s, show up2 (up2 od2 2 0 X) 3 0 Y 2 0 = X by rw [up2_k (by decide), up2_s], show up2 (up2 my 45 0 X) 46 0 Y 45 0 = X by rw [up2_k (by decide), up2_s]]
    by_cases d : x5 = 0
    · rw [if_pos d, if_pos d]; exact ⟨_, _, _, _, rfl, rfl, (m0 mo 0 0).tr g2⟩
    · rw [if_neg d, if_neg d]; exact ⟨_, _, _, _, rfl, rfl, (m0 mo 0 0).tr g2⟩
  · rw [if_neg c, if_neg c]
    exact ⟨_, _, _, _, rfl, rfl, m0 mo 0 0⟩
