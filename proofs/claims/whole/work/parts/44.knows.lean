def pNote (P Y O : Nat → Int32) (i : Nat) : Prop := ((0 ≤ (P i).toInt ∧ (P i).toInt ≤ 11) ∧ (0 ≤ (Y i).toInt ∧ (Y i).toInt ≤ 8) ∧ (0 ≤ (O i).toInt ∧ (O i).toInt ≤ 9)) ∨ (P i = -1 ∧ 0 ≤ (O i).toInt ∧ (O i).toInt < i)
theorem iNote.p {no : jZ} {P Y O : Nat → Int32} {i : Nat} (h : iNote no P Y O i) : pNote P Y O i := by
  rcases h with ⟨-, -, -, -, h6, h7, h8⟩ | ⟨h2, -, -, -, h6, h7⟩
  · exact Or.inl ⟨h6, h7, h8⟩
  · exact Or.inr ⟨h2, h6, h7⟩
theorem kw_22 (v1 : Int32) : ∀ (n i N : Nat) (mo : jZ), i + n = 108 → n < N → f_Mo_knows_22 N mo v1 (nI i) = f_Mo_knows_46 FU (fillR mo 44 i 108 (-1)) v1 0 := by
  have e108 : (108 : Int32).toInt = 108 := rfl
  intro n
  induction n with
  | zero =>
    intro i N no hi hN
    obtain ⟨N, rfl⟩ : ∃ k, N = k + 1 := ⟨N - 1, by omega⟩
    have ti : (nI i).toInt = i := nI_toInt (by omega)
    have : i = 108 := by omega
    subst this
    rw [f_Mo_knows_22, if_pos (by rw [i_le, ti, e108]; omega), fillR_end]
  | succ n ih =>
    intro i N no hi hN
    obtain ⟨N, rfl⟩ : ∃ k, N = k + 1 := ⟨N - 1, by omega⟩
    have ti : (nI i).toInt = i := nI_toInt (by omega)
    rw [f_Mo_knows_22, if_neg (by rw [i_le, ti, e108]; omega), ix_ok (by omega) (by omega)]
    simp only [Option.bind_some, i_tn, ti, Int.toNat_natCast, nI_1]
    rw [ih (i + 1) N _ (by omega) (by omega), fillR_step no 44 i 108 (-1) (by omega)]
theorem kw_46 (v1 : Int32) (h150 : v1.toInt ≤ 150) : ∀ (n i N : Nat) (mo : jZ), (i : Int) + n = v1.toInt → n < N → f_Mo_knows_46 N mo v1 (nI i) = f_Mo_knows_68 FU (fillR mo 43 i (i + n) 0) v1 (v1 - 1) := by
  intro n
  induction n with
  | zero =>
    intro i N no hi hN
    obtain ⟨N, rfl⟩ : ∃ k, N = k + 1 := ⟨N - 1, by omega⟩
    have ti : (nI i).toInt = i := nI_toInt (by omega)
    rw [f_Mo_knows_46, if_pos (by rw [i_le, ti]; omega), Nat.add_zero, fillR_end]
  | succ n ih =>
    intro i N no hi hN
    obtain ⟨N, rfl⟩ : ∃ k, N = k + 1 := ⟨N - 1, by omega⟩
    have ti : (nI i).toInt = i := nI_toInt (by omega)
    rw [f_Mo_knows_46, if_neg (by rw [i_le, ti]; omega), ix_ok (by omega) (by omega)]
    simp only [Option.bind_some, i_tn, ti, Int.toNat_natCast, nI_1]
    rw [ih (i + 1) N _ (by omega) (by omega), show i + 1 + n = i + (n + 1) by omega, fillR_step no 43 i (i + (n + 1)) 0 (by omega)]
theorem kw_68 (v1 : Int32) (P Y O : Nat → Int32) (m : Nat) (hm : m ≤ 150) : ∀ (n N : Nat) (mo : jZ) (st : Nat → Int32), n ≤ m → n < N → (∀ i, i < m → pNote P Y O i) → mo 40 = P → mo 42 = O → (∀ i, i < m → mo 43 i = st i) →
    ∃ mo2, f_Mo_knows_68 N mo v1 (nI n - 1) = f_Mo_knows_111 FU mo2 v1 0 ∧ sameBut 43 mo mo2 ∧ ∀ i, i < m → mo2 43 i = skRun P O n st i := by
  have e0 : (0 : Int32).toInt = 0 := rfl
  have em : (-1 : Int32).toInt = -1 := rfl
  have e1 : (1 : Int32).toInt = 1 := rfl
  intro n
  induction n with
  | zero =>
    intro N mo st hn hN hE hP hO hst
    obtain ⟨N, rfl⟩ : ∃ k, N = k + 1 := ⟨N - 1, by omega⟩
    refine ⟨mo, ?_, fun _ _ => rfl, hst⟩
    rw [f_Mo_knows_68, if_pos (by decide)]
  | succ n ih =>
    intro N mo st hn hN hE hP hO hst
    obtain ⟨N, rfl⟩ : ∃ k, N = k + 1 := ⟨N - 1, by omega⟩
    have hp : nI (n + 1) - 1 = nI n := nI_pred n
    have ti : (nI n).toInt = n := nI_toInt (by omega)
    have hback : nI n + (-1) = nI n - 1 := by apply i_ext; rw [i_add (by omega) (by omega), i_sub (by omega) (by omega)]; omega
    rw [hp]
    have A : f_Mo_knows_68 (N + 1) mo v1 (nI n) = (if st n = 0 then (if P n = -1 then (ix (O n) 150).bind fun _ => f_Mo_knows_68 N (up2 mo 43 (O n).toInt.toNat 1) v1 (nI n - 1) else f_Mo_knows_68 N mo v1 (nI n - 1)) else f_Mo_knows_68 N mo v1 (nI n - 1)) := by
      rw [f_Mo_knows_68, if_neg (by rw [i_lt, ti]; omega), ix_ok (by omega) (by omega)]
      simp only [Option.bind_some, i_tn, ti, Int.toNat_natCast, hback, hP, hO, hst n (by omega)]
    rw [A, skRun]
    unfold skStep
    by_cases c : st n = 0
    · rw [if_pos c]
      by_cases d : P n = -1
      · rw [if_pos d, if_pos ⟨c, d⟩]
        have hb : 0 ≤ (O n).toInt ∧ (O n).toInt < n := by
          rcases hE n (by omega) with ⟨h6, -⟩ | ⟨-, h⟩
          · have := congrArg Int32.toInt d; rw [em] at this; omega
          · exact h
        rw [ix_ok (by omega) (by omega), Option.bind_some]
        obtain ⟨mo2, g1, g2, g3⟩ := ih N (up2 mo 43 (O n).toInt.toNat 1) (fun j => if j = (O n).toInt.toNat then 1 else st j) (by omega) (by omega) hE (by rw [up2_k (by decide)]; exact hP) (by rw [up2_k (by decide)]; exact hO) (fun i hi => by
          by_cases e : i = (O n).toInt.toNat
          · rw [e, up2_s, if_pos rfl]
          · rw [up2_j e, if_neg e]; exact hst i hi)
        exact ⟨mo2, g1, fun k' hk => (up2_k hk).symm.trans (g2 k' hk), g3⟩
      · rw [if_neg d, if_neg (fun e => d e.2)]
        exact ih N mo st (by omega) (by omega) hE hP hO hst
    · rw [if_neg c, if_neg (fun e => c e.1)]
      exact ih N mo st (by omega) (by omega) hE hP hO hst
theorem kw_111 (P Y O st : Nat → Int32) (v1 : Int32) : ∀ (n i N : Nat) (mo : jZ), (i : Int) + n = v1.toInt → v1.toInt ≤ 150 → n < N → (∀ j, j < i + n → pNote P Y O j) → mo 40 = P → mo 41 = Y → mo 42 = O → (∀ j, j < i + n → mo 43 j = st j) → (∀ j, j < 108 → mo 44 j = tbRun P Y O st i j) →
    ∃ mo2, f_Mo_knows_111 N mo v1 (nI i) = some mo2 ∧ sameBut 44 mo mo2 ∧ ∀ j, j < 108 → mo2 44 j = tbRun P Y O st (i + n) j := by
  have e9 : (9 : Int32).toInt = 9 := rfl
  have em : (-1 : Int32).toInt = -1 := rfl
  intro n
  induction n with
  | zero =>
    intro i N no hi hv hN hE hP hY hO hst ht
    obtain ⟨N, rfl⟩ : ∃ k, N = k + 1 := ⟨N - 1, by omega⟩
    have ti : (nI i).toInt = i := nI_toInt (by omega)
    exact ⟨no, by rw [f_Mo_knows_111, if_pos (by rw [i_le, ti]; omega)], fun _ _ => rfl, ht⟩
  | succ n ih =>
    intro i N no hi hv hN hE hP hY hO hst ht
    obtain ⟨N, rfl⟩ : ∃ k, N = k + 1 := ⟨N - 1, by omega⟩
    have ti : (nI i).toInt = i := nI_toInt (by omega)
    have A : f_Mo_knows_111 (N + 1) no v1 (nI i) = f_Mo_knows_111 N (if st i = 0 ∧ ¬ P i = -1 then up2 no 44 ((P i).toInt * 9 + (Y i).toInt).toNat (O i) else no) v1 (nI (i + 1)) := by
      rw [f_Mo_knows_111, if_neg (by rw [i_le, ti]; omega), ix_ok (by omega) (by omega)]
      simp only [Option.bind_some, i_tn, ti, Int.toNat_natCast, hP, hY, hO, hst i (by omega), nI_1]
      by_cases c : st i = 0
      · rw [if_pos c]
        by_cases d : P i = -1
        · rw [if_pos d, if_neg (fun e => e.2 d)]
        · rw [if_neg d, if_pos ⟨c, d⟩]
          have hb : (0 ≤ (P i).toInt ∧ (P i).toInt ≤ 11) ∧ (0 ≤ (Y i).toInt ∧ (Y i).toInt ≤ 8) := by
            rcases hE i (by omega) with ⟨h6, h7, -⟩ | ⟨h, -⟩
            · exact ⟨h6, h7⟩
            · exact absurd h d
          have m1 : (9 * P i).toInt = 9 * (P i).toInt := i_mul (by rw [e9]; omega) (by rw [e9]; omega)
          have m2 : (9 * P i + Y i).toInt = (P i).toInt * 9 + (Y i).toInt := by rw [i_add (by omega) (by omega), m1]; omega
          rw [ix_ok (by omega) (by omega), Option.bind_some, m2]
      · rw [if_neg c, if_neg (fun e => c e.1)]
    rw [A]
    have key : ∀ no', sameBut 44 no no' → (∀ j, j < 108 → no' 44 j = tbRun P Y O st (i + 1) j) → ∃ no2, f_Mo_knows_111 N no' v1 (nI (i + 1)) = some no2 ∧ sameBut 44 no no2 ∧ ∀ j, j < 108 → no2 44 j = tbRun P Y O st (i + (n + 1)) j := by
      intro no' hs ht'
      obtain ⟨no2, g1, g2, g3⟩ := ih (i + 1) N no' (by omega) hv (by omega) (fun j hj => hE j (by omega)) (by rw [← hs 40 (by decide)]; exact hP) (by rw [← hs 41 (by decide)]; exact hY) (by rw [← hs 42 (by decide)]; exact hO) (fun j hj => by rw [← hs 43 (by decide)]; exact hst j (by omega)) ht'
      exact ⟨no2, g1, fun k hk => (hs k hk).trans (g2 k hk), fun j hj => by rw [g3 j hj]; congr 1; omega⟩
    by_cases c : st i = 0 ∧ ¬ P i = -1
    · rw [if_pos c]
      refine key _ (fun k hk => (up2_k hk).symm) (fun j hj => ?_)
      rw [tbRun]; unfold tbStep; rw [if_pos c]
      by_cases e : j = ((P i).toInt * 9 + (Y i).toInt).toNat
      · rw [e, up2_s, if_pos rfl]
      · rw [up2_j e, if_neg e]; exact ht j hj
    · rw [if_neg c]
      refine key no (fun _ _ => rfl) (fun j hj => ?_)
      rw [tbRun]; unfold tbStep; rw [if_neg c]; exact ht j hj
/-- knows() of the reference -/
theorem knows_ok (mo : jZ) (h0 : 0 ≤ (mo 38 0).toInt) (h1 : (mo 38 0).toInt ≤ 150) (h2 : -1 ≤ (mo 39 0).toInt) (h3 : (mo 39 0).toInt ≤ (mo 38 0).toInt) (hE : ∀ i : Nat, (i : Int) < (mo 38 0).toInt → pNote (mo 40) (mo 41) (mo 42) i) :
    ∃ mo2, f_Mo_knows mo = some mo2 ∧ (∀ k, k ≠ 43 → k ≠ 44 → mo2 k = mo k) ∧ ∀ j, j < 108 → mo2 44 j = knownTab (mo 40) (mo 41) (mo 42) (kn (mo 38 0) (mo 39 0)) j := by
  have em : (-1 : Int32).toInt = -1 := rfl
  obtain ⟨q, hq, hq2, hq3, hq4⟩ : ∃ q : Int32, f_Mo_knows mo = f_Mo_knows_22 FU mo q 0 ∧ q.toInt = (kn (mo 38 0) (mo 39 0) : Int) ∧ 0 ≤ q.toInt ∧ q.toInt ≤ (mo 38 0).toInt := by
    unfold f_Mo_knows kn
    by_cases c : mo 39 0 = -1
    · rw [if_pos c, if_pos c]; exact ⟨_, rfl, by omega, by omega, by omega⟩
    · rw [if_neg c, if_neg c]
      have : (mo 39 0).toInt ≠ -1 := fun e => c (i_ext (by rw [e, em]))
      exact ⟨_, rfl, by omega, by omega, by omega⟩
  generalize hn : kn (mo 38 0) (mo 39 0) = n at hq2 ⊢
  have hqn : q = nI n := i_ext (by rw [hq2, nI_toInt (by omega)])
  have tn : (nI n).toInt = n := nI_toInt (by omega)
  have hz : (0 : Int32) = nI 0 := rfl
  rw [hq, hqn, hz, kw_22 (nI n) 108 0 FU mo rfl (by decide), hz, kw_46 (nI n) (by omega) n 0 FU _ (by rw [tn]; omega) (by unfold FU; omega)]
  have r2 : ∀ k, k ≠ 43 → k ≠ 44 → fillR (fillR mo 44 0 108 (-1)) 43 0 (0 + n) 0 k = mo k := fun k a b => by
    funext i; unfold fillR; rw [if_neg (fun e => a e.1), if_neg (fun e => b e.1)]
  obtain ⟨m1, g1, g2, g3⟩ := kw_68 (nI n) (mo 40) (mo 41) (mo 42) n (by omega) n FU (fillR (fillR mo 44 0 108 (-1)) 43 0 (0 + n) 0) (fun _ => 0) (Nat.le_refl n) (by unfold FU; omega) (fun i hi => hE i (by omega)) (r2 40 (by decide) (by decide)) (r2 42 (by decide) (by decide)) (fun i hi => by unfold fillR; rw [if_pos (by omega)])
  rw [g1]
  obtain ⟨m2, k1, k2, k3⟩ := kw_111 (mo 40) (mo 41) (mo 42) (skRun (mo 40) (mo 42) n (fun _ => 0)) (nI n) n 0 FU m1 (by rw [tn]; omega) (by omega) (by unfold FU; omega) (fun j hj => hE j (by omega)) (by rw [← g2 40 (by decide)]; exact r2 40 (by decide) (by decide)) (by rw [← g2 41 (by decide)]; exact r2 41 (by decide) (by decide)) (by rw [← g2 42 (by decide)]; exact r2 42 (by decide) (by decide)) (fun j hj => g3 j (by omega)) (fun j hj => by
    rw [← g2 44 (by decide)]
    unfold fillR
    rw [if_neg (by omega), if_pos (by omega)]
    rfl)
  refine ⟨m2, k1, fun k a b => ?_, fun j hj => ?_⟩
  · rw [← k2 k b, ← g2 k a]; exact r2 k a b
  · rw [k3 j hj, Nat.zero_add]; rfl
