theorem skRun_congr {P O P2 O2 : Nat → Int32} : ∀ (n : Nat) (st : Nat → Int32), (∀ i, i < n → P i = P2 i ∧ O i = O2 i) → skRun P O n st = skRun P2 O2 n st
  | 0, st, _ => rfl
  | n + 1, st, h => by
    rw [skRun, skRun]
    have e : skStep P O st n = skStep P2 O2 st n := by
      unfold skStep; rw [(h n (by omega)).1, (h n (by omega)).2]
    rw [e]
    exact skRun_congr n _ (fun i hi => h i (by omega))
theorem tbRun_congr {P Y O st P2 Y2 O2 st2 : Nat → Int32} : ∀ (n : Nat), (∀ i, i < n → P i = P2 i ∧ Y i = Y2 i ∧ O i = O2 i ∧ st i = st2 i) → tbRun P Y O st n = tbRun P2 Y2 O2 st2 n
  | 0, _ => rfl
  | n + 1, h => by
    rw [tbRun, tbRun, tbRun_congr n (fun i hi => h i (by omega))]
    unfold tbStep
    obtain ⟨h1, h2, h3, h4⟩ := h n (by omega)
    rw [h1, h2, h3, h4]
theorem knownTab_congr {P Y O P2 Y2 O2 : Nat → Int32} {n : Nat} (h : ∀ i, i < n → P i = P2 i ∧ Y i = Y2 i ∧ O i = O2 i) : knownTab P Y O n = knownTab P2 Y2 O2 n := by
  unfold knownTab
  rw [skRun_congr n (fun _ => 0) (fun i hi => ⟨(h i hi).1, (h i hi).2.2⟩)]
  exact tbRun_congr n (fun i hi => ⟨(h i hi).1, (h i hi).2.1, (h i hi).2.2, rfl⟩)
theorem skRun_out {P Y O : Nat → Int32} : ∀ (n : Nat) (st : Nat → Int32) (j : Nat), (∀ i, i < n → pNote P Y O i) → n ≤ j → skRun P O n st j = st j
  | 0, st, j, _, _ => rfl
  | n + 1, st, j, h, hj => by
    rw [skRun, skRun_out n _ j (fun i hi => h i (by omega)) (by omega)]
    unfold skStep
    have em : (-1 : Int32).toInt = -1 := rfl
    by_cases c : st n = 0 ∧ P n = -1
    · rw [if_pos c]
      rcases h n (by omega) with ⟨h6, -⟩ | ⟨-, h6, h7⟩
      · have := congrArg Int32.toInt c.2; rw [em] at this; omega
      · rw [if_neg (by omega)]
    · rw [if_neg c]
/-- one more count -/
theorem knownTab_count {P Y O P2 Y2 O2 : Nat → Int32} {n : Nat} (h : ∀ i, i < n → P i = P2 i ∧ Y i = Y2 i ∧ O i = O2 i) (hp : ∀ i, i < n → pNote P Y O i) (hc : ¬ P2 n = -1) :
    knownTab P2 Y2 O2 (n + 1) = fun j => if j = ((P2 n).toInt * 9 + (Y2 n).toInt).toNat then O2 n else knownTab P Y O n j := by
  unfold knownTab
  rw [skRun, show skStep P2 O2 (fun _ => 0) n = (fun _ => 0) from by unfold skStep; rw [if_neg (fun e => hc e.2)]]
  rw [← skRun_congr n (fun _ => 0) (fun i hi => ⟨(h i hi).1, (h i hi).2.2⟩)]
  rw [tbRun]
  unfold tbStep
  rw [if_pos ⟨skRun_out n _ n hp (Nat.le_refl n), hc⟩, ← tbRun_congr n (fun i hi => ⟨(h i hi).1, (h i hi).2.1, (h i hi).2.2, rfl⟩)]
def iNotes (no mo : jZ) : Prop := no 0 0 = mo 38 0 ∧ (0 ≤ (mo 38 0).toInt ∧ (mo 38 0).toInt ≤ 150) ∧ no 1 0 = mo 39 0 ∧ (-1 ≤ (mo 39 0).toInt ∧ (mo 39 0).toInt ≤ (mo 38 0).toInt) ∧ (∀ i : Nat, (i : Int) < (mo 38 0).toInt → iNote no (mo 40) (mo 41) (mo 42) i) ∧ ∀ j, j < 108 → no 7 j = knownTab (mo 40) (mo 41) (mo 42) (kn (mo 38 0) (mo 39 0)) j
theorem iNotes.to {no m m2 : jZ} (h : iNotes no m) (r : mRel m m2) : iNotes no m2 := by
  unfold iNotes; rw [r 38 (by unfold mKeep; omega), r 39 (by unfold mKeep; omega), r 40 (by unfold mKeep; omega), r 41 (by unfold mKeep; omega), r 42 (by unfold mKeep; omega)]; exact h
/-- knows() beside the class's table: the reference's counts are the table -/
theorem knows_i {no mo : jZ} (h : iNotes no mo) : ∃ m2, f_Mo_knows mo = some m2 ∧ mRel mo m2 ∧ (∀ k, k ≠ 43 → k ≠ 44 → m2 k = mo k) ∧ ∀ j, j < 108 → m2 44 j = no 7 j := by
  obtain ⟨h1, h2, h3, h4, h5, h6⟩ := h
  obtain ⟨m2, g1, g2, g3⟩ := knows_ok mo h2.1 h2.2 h4.1 h4.2 (fun i hi => (h5 i hi).p)
  exact ⟨m2, g1, fun k hk => g2 k (fun e => by subst e; unfold mKeep at hk; omega) (fun e => by subst e; unfold mKeep at hk; omega), g2, fun j hj => (g3 j hj).trans (h6 j hj).symm⟩
theorem countOf_eq {no m2 : jZ} (ht : ∀ j, j < 108 → m2 44 j = no 7 j) (x1 x2 : Int32) (h1 : 0 ≤ x1.toInt) (h2 : x1.toInt < 12) : f_Mo_countOf m2 x1 x2 = f_Notes_at no x1 x2 := by
  have e0 : (0 : Int32).toInt = 0 := rfl
  have e9 : (9 : Int32).toInt = 9 := rfl
  rw [at_eq]
  unfold f_Mo_countOf
  simp only [i_lt, e0, e9]
  by_cases a : x2.toInt < 0
  · rw [if_pos a, if_neg (by omega)]
  · by_cases b : x2.toInt < 9
    · have m1 : (9 * x1).toInt = 9 * x1.toInt := i_mul (by rw [e9]; omega) (by rw [e9]; omega)
      have m2' : (9 * x1 + x2).toInt = x1.toInt * 9 + x2.toInt := by rw [i_add (by omega) (by omega), m1]; omega
      rw [if_neg a, if_pos b, if_pos (by omega), ix_ok (by omega) (by omega), Option.bind_some, i_tn, m2', ht _ (by omega)]
    · rw [if_neg a, if_neg b, if_neg (by omega)]
/-- count -/
theorem op_count {ro no mo : jZ} (hp : iPlaces ro mo) (hn : iNotes no mo) (x1 x2 : Int32) : ∃ r m2, f_WP_count ro no x1 x2 = some r ∧ f_Mo_count mo x1 x2 = some (m2, r) ∧ mRel mo m2 := by
  obtain ⟨m2, g1, g2, g3, g4⟩ := knows_i (hn.to (m0 mo 0 0))
  unfold f_WP_count f_Mo_count
  rw [g1, Option.bind_some, has_is (hp.to ((m0 mo 0 0).tr g2)), isPlace_eq, Option.bind_some, Option.bind_some]
  by_cases c : 0 ≤ x1.toInt ∧ x1.toInt < (m2 4 0).toInt
  · rw [if_pos c, if_neg (by decide), if_neg (by decide)]
    have := (hp.to ((m0 mo 0 0).tr g2)).2.2.1
    rw [countOf_eq g4 x1 x2 c.1 (by omega), at_eq, Option.bind_some, Option.bind_some]
    exact ⟨_, m2, rfl, rfl, (m0 mo 0 0).tr g2⟩
  · rw [if_neg c, if_pos rfl, if_pos rfl]
    exact ⟨_, m2, rfl, rfl, (m0 mo 0 0).tr g2⟩
