theorem ly_233 : ∀ (n i N : Nat) (m : jZ), i + n = 64 → n < N → ∃ m2, f_Mo_lays_233 N m (nI i) = some m2 ∧ (∀ q, q < 15 ∨ 16 < q → m2 q = m q) ∧ (∀ j, i ≤ j → j < 64 → m2 15 j = (m 15 (64 + j)) ∧ m2 16 j = (m 16 (64 + j))) ∧ (∀ q j, j < i ∨ 64 ≤ j → m2 q j = m q j) := by
  have ib : (64 : Int32).toInt = 64 := rfl
  intro n
  induction n with
  | zero =>
    intro i N m hn hN
    obtain ⟨M, rfl⟩ : ∃ M, N = M + 1 := ⟨N - 1, by omega⟩
    have ti : (nI i).toInt = i := nI_toInt (by omega)
    rw [f_Mo_lays_233, if_pos (by rw [i_le]; omega)]
    exact ⟨m, rfl, fun _ _ => rfl, fun j a b => by omega, fun _ _ _ => rfl⟩
  | succ n ih =>
    intro i N m hn hN
    obtain ⟨M, rfl⟩ : ∃ M, N = M + 1 := ⟨N - 1, by omega⟩
    have ti : (nI i).toInt = i := nI_toInt (by omega)
    have tb : (64 + nI i).toInt = ((64 + i : Nat) : Int) := by rw [i_add (by omega) (by omega), ib, ti]; omega
    rw [f_Mo_lays_233, if_neg (by rw [i_le]; omega), ix_ok (show 0 ≤ (64 + nI i).toInt by omega) (by omega), ix_ok (show 0 ≤ (nI i).toInt by omega) (by omega), Option.bind_some, Option.bind_some, Option.bind_some, Option.bind_some, i_tn (64 + nI i), i_tn (nI i), tb, ti, Int.toNat_natCast, Int.toNat_natCast, nI_1]
    obtain ⟨m2, e1, e2, e3, e4⟩ := ih (i + 1) M (up2 (up2 m 15 i (m 15 (64 + i))) 16 i (m 16 (64 + i))) (by omega) (by omega)
    have cj : ∀ (z : jZ) (k : Nat) (v : Int32) (q j : Nat), j ≠ i → up2 z k i v q j = z q j := fun z k v q j hj => by
      by_cases e : q = k
      · rw [e, up2_j hj]
      · rw [up2_k e]
    refine ⟨m2, e1, fun q hq => by rw [e2 q hq, up2_k (by omega), up2_k (by omega)], fun j a b => ?_, fun q j hj => by rw [e4 q j (by omega), cj _ _ _ _ _ (by omega), cj _ _ _ _ _ (by omega)]⟩
    by_cases c : j = i
    · rw [c, e4 15 i (by omega), e4 16 i (by omega)]
      refine ⟨?_, ?_⟩
      · rw [up2_k (by decide), up2_s]
      · rw [up2_s]
    · have := e3 j (by omega) b
      rw [cj _ _ _ _ _ (by omega), cj _ _ _ _ _ (by omega), cj _ _ _ _ _ (by omega), cj _ _ _ _ _ (by omega)] at this
      exact this
theorem ly_122 : ∀ (n i N : Nat) (m : jZ), i + n = 12 → n < N → ∃ m2, f_Mo_lays_122 N m (nI i) = f_Mo_lays_233 FU m2 0 ∧ (∀ q, q < 8 ∨ 14 < q → m2 q = m q) ∧ (∀ j, i ≤ j → j < 12 → m2 8 j = (m 8 (12 + j)) ∧ m2 9 j = (m 9 (12 + j)) ∧ m2 10 j = (vp_nar .boolean (m 10 (12 + j))) ∧ m2 11 j = (m 11 (12 + j)) ∧ m2 12 j = (m 12 (12 + j)) ∧ m2 13 j = (m 13 (12 + j)) ∧ m2 14 j = 0) ∧ (∀ q j, j < i ∨ 12 ≤ j → m2 q j = m q j) := by
  have ib : (12 : Int32).toInt = 12 := rfl
  intro n
  induction n with
  | zero =>
    intro i N m hn hN
    obtain ⟨M, rfl⟩ : ∃ M, N = M + 1 := ⟨N - 1, by omega⟩
    have ti : (nI i).toInt = i := nI_toInt (by omega)
    rw [f_Mo_lays_122, if_pos (by rw [i_le]; omega)]
    exact ⟨m, rfl, fun _ _ => rfl, fun j a b => by omega, fun _ _ _ => rfl⟩
  | succ n ih =>
    intro i N m hn hN
    obtain ⟨M, rfl⟩ : ∃ M, N = M + 1 := ⟨N - 1, by omega⟩
    have ti : (nI i).toInt = i := nI_toInt (by omega)
    have tb : (12 + nI i).toInt = ((12 + i : Nat) : Int) := by rw [i_add (by omega) (by omega), ib, ti]; omega
    rw [f_Mo_lays_122, if_neg (by rw [i_le]; omega), ix_ok (show 0 ≤ (12 + nI i).toInt by omega) (by omega), ix_ok (show 0 ≤ (nI i).toInt by omega) (by omega), ix_ok (show 0 ≤ (nI i).toInt by omega) (by omega), Option.bind_some, Option.bind_some, Option.bind_some, Option.bind_some, Option.bind_some, Option.bind_some, Option.bind_some, Option.bind_some, Option.bind_some, Option.bind_some, Option.bind_some, Option.bind_some, Option.bind_some, i_tn (12 + nI i), i_tn (nI i), tb, ti, Int.toNat_natCast, Int.toNat_natCast, nI_1]
    obtain ⟨m2, e1, e2, e3, e4⟩ := ih (i + 1) M (up2 (up2 (up2 (up2 (up2 (up2 (up2 m 8 i (m 8 (12 + i))) 9 i (m 9 (12 + i))) 10 i (vp_nar .boolean (m 10 (12 + i)))) 11 i (m 11 (12 + i))) 12 i (m 12 (12 + i))) 13 i (m 13 (12 + i))) 14 i 0) (by omega) (by omega)
    have cj : ∀ (z : jZ) (k : Nat) (v : Int32) (q j : Nat), j ≠ i → up2 z k i v q j = z q j := fun z k v q j hj => by
      by_cases e : q = k
      · rw [e, up2_j hj]
      · rw [up2_k e]
    refine ⟨m2, e1, fun q hq => by rw [e2 q hq, up2_k (by omega), up2_k (by omega), up2_k (by omega), up2_k (by omega), up2_k (by omega), up2_k (by omega), up2_k (by omega)], fun j a b => ?_, fun q j hj => by rw [e4 q j (by omega), cj _ _ _ _ _ (by omega), cj _ _ _ _ _ (by omega), cj _ _ _ _ _ (by omega), cj _ _ _ _ _ (by omega), cj _ _ _ _ _ (by omega), cj _ _ _ _ _ (by omega), cj _ _ _ _ _ (by omega)]⟩
    by_cases c : j = i
    · rw [c, e4 8 i (by omega), e4 9 i (by omega), e4 10 i (by omega), e4 11 i (by omega), e4 12 i (by omega), e4 13 i (by omega), e4 14 i (by omega)]
      refine ⟨?_, ?_, ?_, ?_, ?_, ?_, ?_⟩
      · rw [up2_k (by decide), up2_k (by decide), up2_k (by decide), up2_k (by decide), up2_k (by decide), up2_k (by decide), up2_s]
      · rw [up2_k (by decide), up2_k (by decide), up2_k (by decide), up2_k (by decide), up2_k (by decide), up2_s]
      · rw [up2_k (by decide), up2_k (by decide), up2_k (by decide), up2_k (by decide), up2_s]
      · rw [up2_k (by decide), up2_k (by decide), up2_k (by decide), up2_s]
      · rw [up2_k (by decide), up2_k (by decide), up2_s]
      · rw [up2_k (by decide), up2_s]
      · rw [up2_s]
    · have := e3 j (by omega) b
      rw [cj _ _ _ _ _ (by omega), cj _ _ _ _ _ (by omega), cj _ _ _ _ _ (by omega), cj _ _ _ _ _ (by omega), cj _ _ _ _ _ (by omega), cj _ _ _ _ _ (by omega), cj _ _ _ _ _ (by omega), cj _ _ _ _ _ (by omega), cj _ _ _ _ _ (by omega), cj _ _ _ _ _ (by omega), cj _ _ _ _ _ (by omega), cj _ _ _ _ _ (by omega), cj _ _ _ _ _ (by omega), cj _ _ _ _ _ (by omega), cj _ _ _ _ _ (by omega), cj _ _ _ _ _ (by omega), cj _ _ _ _ _ (by omega), cj _ _ _ _ _ (by omega), cj _ _ _ _ _ (by omega), cj _ _ _ _ _ (by omega), cj _ _ _ _ _ (by omega), cj _ _ _ _ _ (by omega), cj _ _ _ _ _ (by omega), cj _ _ _ _ _ (by omega), cj _ _ _ _ _ (by omega), cj _ _ _ _ _ (by omega), cj _ _ _ _ _ (by omega), cj _ _ _ _ _ (by omega), cj _ _ _ _ _ (by omega), cj _ _ _ _ _ (by omega), cj _ _ _ _ _ (by omega), cj _ _ _ _ _ (by omega), cj _ _ _ _ _ (by omega), cj _ _ _ _ _ (by omega), cj _ _ _ _ _ (by omega), cj _ _ _ _ _ (by omega), cj _ _ _ _ _ (by omega), cj _ _ _ _ _ (by omega), cj _ _ _ _ _ (by omega), cj _ _ _ _ _ (by omega), cj _ _ _ _ _ (by omega), cj _ _ _ _ _ (by omega)] at this
      exact this
theorem ly_93 : ∀ (n i N : Nat) (m : jZ), i + n = 50 → n < N → ∃ m2, f_Mo_lays_93 N m (nI i) = f_Mo_lays_122 FU m2 0 ∧ (∀ q, q < 7 ∨ 7 < q → m2 q = m q) ∧ (∀ j, i ≤ j → j < 50 → m2 7 j = (m 7 (50 + j))) ∧ (∀ q j, j < i ∨ 50 ≤ j → m2 q j = m q j) := by
  have ib : (50 : Int32).toInt = 50 := rfl
  intro n
  induction n with
  | zero =>
    intro i N m hn hN
    obtain ⟨M, rfl⟩ : ∃ M, N = M + 1 := ⟨N - 1, by omega⟩
    have ti : (nI i).toInt = i := nI_toInt (by omega)
    rw [f_Mo_lays_93, if_pos (by rw [i_le]; omega)]
    exact ⟨m, rfl, fun _ _ => rfl, fun j a b => by omega, fun _ _ _ => rfl⟩
  | succ n ih =>
    intro i N m hn hN
    obtain ⟨M, rfl⟩ : ∃ M, N = M + 1 := ⟨N - 1, by omega⟩
    have ti : (nI i).toInt = i := nI_toInt (by omega)
    have tb : (50 + nI i).toInt = ((50 + i : Nat) : Int) := by rw [i_add (by omega) (by omega), ib, ti]; omega
    rw [f_Mo_lays_93, if_neg (by rw [i_le]; omega), ix_ok (show 0 ≤ (50 + nI i).toInt by omega) (by omega), ix_ok (show 0 ≤ (nI i).toInt by omega) (by omega), Option.bind_some, Option.bind_some, i_tn (50 + nI i), i_tn (nI i), tb, ti, Int.toNat_natCast, Int.toNat_natCast, nI_1]
    obtain ⟨m2, e1, e2, e3, e4⟩ := ih (i + 1) M (up2 m 7 i (m 7 (50 + i))) (by omega) (by omega)
    have cj : ∀ (z : jZ) (k : Nat) (v : Int32) (q j : Nat), j ≠ i → up2 z k i v q j = z q j := fun z k v q j hj => by
      by_cases e : q = k
      · rw [e, up2_j hj]
      · rw [up2_k e]
    refine ⟨m2, e1, fun q hq => by rw [e2 q hq, up2_k (by omega)], fun j a b => ?_, fun q j hj => by rw [e4 q j (by omega), cj _ _ _ _ _ (by omega)]⟩
    by_cases c : j = i
    · rw [c, e4 7 i (by omega)]
      rw [up2_s]
    · have := e3 j (by omega) b
      rw [cj _ _ _ _ _ (by omega)] at this
      exact this
theorem ly_52 : ∀ (n i N : Nat) (m : jZ), i + n = 5 → n < N → ∃ m2, f_Mo_lays_52 N m (nI i) = f_Mo_lays_93 FU m2 0 ∧ (∀ q, q < 5 ∨ 6 < q → m2 q = m q) ∧ (∀ j, i ≤ j → j < 5 → m2 5 j = (m 5 (5 + j)) ∧ m2 6 j = (m 6 (5 + j))) ∧ (∀ q j, j < i ∨ 5 ≤ j → m2 q j = m q j) := by
  have ib : (5 : Int32).toInt = 5 := rfl
  intro n
  induction n with
  | zero =>
    intro i N m hn hN
    obtain ⟨M, rfl⟩ : ∃ M, N = M + 1 := ⟨N - 1, by omega⟩
    have ti : (nI i).toInt = i := nI_toInt (by omega)
    rw [f_Mo_lays_52, if_pos (by rw [i_le]; omega)]
    exact ⟨m, rfl, fun _ _ => rfl, fun j a b => by omega, fun _ _ _ => rfl⟩
  | succ n ih =>
    intro i N m hn hN
    obtain ⟨M, rfl⟩ : ∃ M, N = M + 1 := ⟨N - 1, by omega⟩
    have ti : (nI i).toInt = i := nI_toInt (by omega)
    have tb : (5 + nI i).toInt = ((5 + i : Nat) : Int) := by rw [i_add (by omega) (by omega), ib, ti]; omega
    rw [f_Mo_lays_52, if_neg (by rw [i_le]; omega), ix_ok (show 0 ≤ (5 + nI i).toInt by omega) (by omega), ix_ok (show 0 ≤ (nI i).toInt by omega) (by omega), Option.bind_some, Option.bind_some, Option.bind_some, Option.bind_some, i_tn (5 + nI i), i_tn (nI i), tb, ti, Int.toNat_natCast, Int.toNat_natCast, nI_1]
    obtain ⟨m2, e1, e2, e3, e4⟩ := ih (i + 1) M (up2 (up2 m 5 i (m 5 (5 + i))) 6 i (m 6 (5 + i))) (by omega) (by omega)
    have cj : ∀ (z : jZ) (k : Nat) (v : Int32) (q j : Nat), j ≠ i → up2 z k i v q j = z q j := fun z k v q j hj => by
      by_cases e : q = k
      · rw [e, up2_j hj]
      · rw [up2_k e]
    refine ⟨m2, e1, fun q hq => by rw [e2 q hq, up2_k (by omega), up2_k (by omega)], fun j a b => ?_, fun q j hj => by rw [e4 q j (by omega), cj _ _ _ _ _ (by omega), cj _ _ _ _ _ (by omega)]⟩
    by_cases c : j = i
    · rw [c, e4 5 i (by omega), e4 6 i (by omega)]
      refine ⟨?_, ?_⟩
      · rw [up2_k (by decide), up2_s]
      · rw [up2_s]
    · have := e3 j (by omega) b
      rw [cj _ _ _ _ _ (by omega), cj _ _ _ _ _ (by omega), cj _ _ _ _ _ (by omega), cj _ _ _ _ _ (by omega)] at this
      exact this
