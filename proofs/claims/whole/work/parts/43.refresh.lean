theorem rf_18 (v1 : Int32) : ∀ (n i N : Nat) (no : jZ), i + n = 108 → n < N → f_Notes_refresh_18 N no v1 (nI i) = f_Notes_refresh_39 FU (fillR no 7 i 108 (-1)) v1 0 := by
  have e108 : (108 : Int32).toInt = 108 := rfl
  intro n
  induction n with
  | zero =>
    intro i N no hi hN
    obtain ⟨N, rfl⟩ : ∃ k, N = k + 1 := ⟨N - 1, by omega⟩
    have ti : (nI i).toInt = i := nI_toInt (by omega)
    have : i = 108 := by omega
    subst this
    rw [f_Notes_refresh_18, if_pos (by rw [i_le, ti, e108]; omega), fillR_end]
  | succ n ih =>
    intro i N no hi hN
    obtain ⟨N, rfl⟩ : ∃ k, N = k + 1 := ⟨N - 1, by omega⟩
    have ti : (nI i).toInt = i := nI_toInt (by omega)
    rw [f_Notes_refresh_18, if_neg (by rw [i_le, ti, e108]; omega), ix_ok (by omega) (by omega)]
    simp only [Option.bind_some, i_tn, ti, Int.toNat_natCast, nI_1]
    rw [ih (i + 1) N _ (by omega) (by omega), fillR_step no 7 i 108 (-1) (by omega)]
/-- one step of the loop that lays the counts -/
theorem rf_39s (P Y O st : Nat → Int32) (i N : Nat) (no : jZ) (v1 : Int32) (hv : (i : Int) < v1.toInt) (hi : i < 150) (hE : iNote no P Y O i) (hst : no 6 i = st i) :
    f_Notes_refresh_39 (N + 1) no v1 (nI i) = f_Notes_refresh_39 N (if st i = 0 ∧ ¬ P i = -1 then up2 no 7 ((P i).toInt * 9 + (Y i).toInt).toNat (O i) else no) v1 (nI (i + 1)) := by
  have e0 : (0 : Int32).toInt = 0 := rfl
  have e9 : (9 : Int32).toInt = 9 := rfl
  have e11 : (11 : Int32).toInt = 11 := rfl
  have e8 : (8 : Int32).toInt = 8 := rfl
  have em : (-1 : Int32).toInt = -1 := rfl
  have ti : (nI i).toInt = i := nI_toInt (by omega)
  have z79 : ∀ (k : jZ → Int32 → Int32 → Option jZ), f_Notes_refresh_79 k no v1 (nI i) 0 = k no v1 (nI (i + 1)) := by
    intro k; unfold f_Notes_refresh_79; rw [if_pos rfl, nI_1]
  rw [f_Notes_refresh_39, if_neg (by rw [i_le, ti]; omega), ix_ok (by omega) (by omega)]
  simp only [Option.bind_some, i_tn, ti, Int.toNat_natCast, within_eq, e0, e11, e8, z79]
  rcases hE with ⟨h2, h3, h4, h5, h6, h7, h8⟩ | ⟨h2, h3, h4, h5, h6, h7⟩
  · rw [h2, h3, if_pos (show 0 ≤ (P i).toInt ∧ (P i).toInt ≤ 11 from h6), if_neg (by decide), if_pos (show 0 ≤ (Y i).toInt ∧ (Y i).toInt ≤ 8 from h7), if_neg (by decide)]
    unfold f_Notes_refresh_79
    have m1 : (P i * 9).toInt = (P i).toInt * 9 := i_mul (by rw [e9]; omega) (by rw [e9]; omega)
    have m2 : (P i * 9 + Y i).toInt = (P i).toInt * 9 + (Y i).toInt := by rw [i_add (by omega) (by omega), m1]
    rw [if_neg (by decide), ix_ok (by omega) (by omega)]
    simp only [Option.bind_some, i_tn, ti, Int.toNat_natCast, h2, h3, h4, hst, nI_1]
    by_cases c : st i = 0
    · rw [if_pos c, ix_ok (by omega) (by omega), Option.bind_some, m2, if_pos ⟨c, fun e => by have := congrArg Int32.toInt e; rw [em] at this; omega⟩]
    · rw [if_neg c, if_neg (fun e => c e.1)]
  · rw [h3, show (if (0 : Int) ≤ (-1 : Int32).toInt ∧ (-1 : Int32).toInt ≤ 11 then (1 : Int32) else 0) = 0 from by decide, if_pos rfl, if_neg (fun e => e.2 h2)]
theorem rf_39 (P Y O st : Nat → Int32) (v1 : Int32) : ∀ (n i N : Nat) (no : jZ), (i : Int) + n = v1.toInt → v1.toInt ≤ 150 → n < N → (∀ j, j < i + n → iNote no P Y O j) → (∀ j, j < 150 → no 6 j = st j) → (∀ j, j < 108 → no 7 j = tbRun P Y O st i j) →
    ∃ no2, f_Notes_refresh_39 N no v1 (nI i) = some no2 ∧ sameBut 7 no no2 ∧ ∀ j, j < 108 → no2 7 j = tbRun P Y O st (i + n) j := by
  intro n
  induction n with
  | zero =>
    intro i N no hi hv hN hE hst ht
    obtain ⟨N, rfl⟩ : ∃ k, N = k + 1 := ⟨N - 1, by omega⟩
    have ti : (nI i).toInt = i := nI_toInt (by omega)
    exact ⟨no, by rw [f_Notes_refresh_39, if_pos (by rw [i_le, ti]; omega)], fun _ _ => rfl, ht⟩
  | succ n ih =>
    intro i N no hi hv hN hE hst ht
    obtain ⟨N, rfl⟩ : ∃ k, N = k + 1 := ⟨N - 1, by omega⟩
    rw [rf_39s P Y O st i N no v1 (by omega) (by omega) (hE i (by omega)) (hst i (by omega))]
    have key : ∀ no', sameBut 7 no no' → (∀ j, j < 108 → no' 7 j = tbRun P Y O st (i + 1) j) → ∃ no2, f_Notes_refresh_39 N no' v1 (nI (i + 1)) = some no2 ∧ sameBut 7 no no2 ∧ ∀ j, j < 108 → no2 7 j = tbRun P Y O st (i + (n + 1)) j := by
      intro no' hs ht'
      obtain ⟨no2, g1, g2, g3⟩ := ih (i + 1) N no' (by omega) hv (by omega) (fun j hj => by
        have := hE j (by omega)
        unfold iNote at this ⊢
        rw [← hs 2 (by decide), ← hs 3 (by decide), ← hs 4 (by decide), ← hs 5 (by decide)]
        exact this) (fun j hj => by rw [← hs 6 (by decide)]; exact hst j hj) ht'
      exact ⟨no2, g1, fun k hk => (hs k hk).trans (g2 k hk), fun j hj => by rw [g3 j hj]; congr 1; omega⟩
    have hEi := hE i (by omega)
    by_cases c : st i = 0 ∧ ¬ P i = -1
    · rw [if_pos c]
      refine key _ (fun k hk => (up2_k hk).symm) (fun j hj => ?_)
      rw [tbRun]; unfold tbStep; rw [if_pos c]
      by_cases e : j = ((P i).toInt * 9 + (Y i).toInt).toNat
      · rw [e, up2_s, if_pos rfl]
      · rw [up2_j e, if_neg e]; exact ht j hj
    · rw [if_neg c]
      refine key no (fun _ _ => rfl) (fun j hj => ?_)
      rw [tbRun]; unfold tbStep; rw [if_neg c]; exact ht j hj
/-- by how many it is known -/
def kn (many limit : Int32) : Nat := if limit = -1 then many.toInt.toNat else limit.toInt.toNat
def sameTo (a b : jZ) : Prop := ∀ k, k < 6 → a k = b k
/-- refresh: the table is what is known -/
theorem refresh_ok (no : jZ) (P Y O : Nat → Int32) (h0 : 0 ≤ (no 0 0).toInt) (h1 : (no 0 0).toInt ≤ 150) (h2 : -1 ≤ (no 1 0).toInt) (h3 : (no 1 0).toInt ≤ (no 0 0).toInt) (hE : ∀ i : Nat, (i : Int) < (no 0 0).toInt → iNote no P Y O i) :
    ∃ no2, f_Notes_refresh no = some no2 ∧ sameTo no no2 ∧ ∀ j, j < 108 → no2 7 j = knownTab P Y O (kn (no 0 0) (no 1 0)) j := by
  have em : (-1 : Int32).toInt = -1 := rfl
  have e150 : (150 : Int32).toInt = 150 := rfl
  obtain ⟨q, hq, hq2, hq3, hq4⟩ : ∃ q : Int32, f_Notes_byHowMany no = some q ∧ q.toInt = (kn (no 0 0) (no 1 0) : Int) ∧ 0 ≤ q.toInt ∧ q.toInt ≤ (no 0 0).toInt := by
    unfold f_Notes_byHowMany kn
    by_cases c : no 1 0 = -1
    · rw [if_pos c, if_pos c]; exact ⟨_, rfl, by omega, by omega, by omega⟩
    · rw [if_neg c, if_neg c]
      have : (no 1 0).toInt ≠ -1 := fun e => c (i_ext (by rw [e, em]))
      exact ⟨_, rfl, by omega, by omega, by omega⟩
  generalize hn : kn (no 0 0) (no 1 0) = n at hq2 ⊢
  have hcl : (if (150 : Int32) < q then 150 else q) = q := if_neg (by rw [i_lt, e150]; omega)
  have hqn : q = nI n := i_ext (by rw [hq2, nI_toInt (by omega)])
  unfold f_Notes_refresh
  rw [hq, Option.bind_some, hcl]
  unfold f_Notes_findStruck
  have hz : (0 : Int32) = nI 0 := rfl
  rw [hz, fs_2 q 150 0 FU no rfl (by decide), hcl, hqn]
  obtain ⟨n1, g1, g2, g3⟩ := fs_32 (nI n) P Y O n FU (fillR no 6 0 150 0) (fun _ => 0) (by omega) (by unfold FU; omega) (fun i hi => by
    have := hE i (by omega)
    unfold iNote at this ⊢
    simp only [fillR, if_neg (show ¬ ((2 : Nat) = 6 ∧ 0 ≤ i ∧ i < 150) by omega), if_neg (show ¬ ((3 : Nat) = 6 ∧ 0 ≤ i ∧ i < 150) by omega), if_neg (show ¬ ((4 : Nat) = 6 ∧ 0 ≤ i ∧ i < 150) by omega), if_neg (show ¬ ((5 : Nat) = 6 ∧ 0 ≤ i ∧ i < 150) by omega)]
    exact this) (fun i hi => by unfold fillR; rw [if_pos (by omega)])
  rw [g1, Option.bind_some, rf_18 (nI n) 108 0 FU n1 rfl (by decide)]
  have r1 : ∀ k i, k ≠ 6 → n1 k i = no k i := fun k i hk => by
    rw [← g2 k hk]; unfold fillR; rw [if_neg (fun e => hk e.1)]
  have r2 : ∀ k i, k ≠ 7 → fillR n1 7 0 108 (-1) k i = n1 k i := fun k i hk => by unfold fillR; rw [if_neg (fun e => hk e.1)]
  obtain ⟨n2, k1, k2, k3⟩ := rf_39 P Y O (skRun P O n (fun _ => 0)) (nI n) n 0 FU (fillR n1 7 0 108 (-1)) (by rw [nI_toInt (by omega)]; omega) (by rw [nI_toInt (by omega)]; omega) (by unfold FU; omega) (fun j hj => by
    have := hE j (by omega)
    unfold iNote at this ⊢
    rw [r2 2 j (by decide), r2 3 j (by decide), r2 4 j (by decide), r2 5 j (by decide), r1 2 j (by decide), r1 3 j (by decide), r1 4 j (by decide), r1 5 j (by decide)]
    exact this) (fun j hj => by rw [r2 6 j (by decide)]; exact g3 j hj) (fun j hj => by unfold fillR; rw [if_pos (by omega)]; rfl)
  refine ⟨n2, k1, fun k hk => ?_, fun j hj => ?_⟩
  · rw [← k2 k (by omega)]
    funext i
    rw [r2 k i (by omega), r1 k i (by omega)]
  · rw [k3 j hj, Nat.zero_add]; rfl
