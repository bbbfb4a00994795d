/-! ===== what ties the class's components to the reference's ===== -/
/-- rows of the reference that later calls read -/
def mKeep (k : Nat) : Prop := (1 ≤ k ∧ k ≤ 19) ∨ k = 34 ∨ k = 35 ∨ (38 ≤ k ∧ k ≤ 42)
def mRel (m m2 : jZ) : Prop := ∀ k, mKeep k → m2 k = m k
theorem mRel.rf (m : jZ) : mRel m m := fun _ _ => rfl
theorem mRel.tr {a b c : jZ} (h : mRel a b) (h2 : mRel b c) : mRel a c := fun k hk => (h2 k hk).trans (h k hk)
theorem mRel.up {m m2 : jZ} (h : mRel m m2) {k j : Nat} {v : Int32} (hk : ¬ mKeep k) : mRel m (up2 m2 k j v) := fun k' hk' => by
  rw [up2_k (fun e => hk (by rw [← e]; exact hk'))]
  exact h k' hk'
def iTape (ta mo : jZ) : Prop := ta 1 0 = mo 2 0 ∧ 0 ≤ (mo 2 0).toInt ∧ (mo 2 0).toInt ≤ 600 ∧ ∀ i : Nat, (i : Int) < (mo 2 0).toInt → ta 0 i = Int8.toInt32 (Int32.toInt8 (mo 1 i)) ∧ 0 ≤ (mo 1 i).toInt ∧ (mo 1 i).toInt ≤ 255
def iFault (re mo : jZ) : Prop := re 1 0 = mo 34 0 ∧ re 2 0 = mo 35 0
/-- how many of ten faces of a kind are c -/
def cnt (f : Nat → Int32) (b : Nat) (c : Int) : Nat → Nat
  | 0 => 0
  | n + 1 => cnt f b c n + (if (f (b + n)).toInt = c then 1 else 0)
/-- the sum of n entries from b on -/
def sm (f : Nat → Int32) (b : Nat) : Nat → Int
  | 0 => 0
  | n + 1 => sm f b n + (f (b + n)).toInt
def iKinds (ki mo : jZ) : Prop := ki 0 0 = mo 3 0 ∧ 0 ≤ (mo 3 0).toInt ∧ (mo 3 0).toInt ≤ 5 ∧ (ki 1 0).toInt = sm (mo 6) 0 (mo 3 0).toInt.toNat ∧
  ∀ k : Nat, (k : Int) < (mo 3 0).toInt → ki 2 k = mo 5 k ∧ ki 3 k = mo 6 k ∧ 1 ≤ (mo 6 k).toInt ∧ (mo 6 k).toInt ≤ 99 ∧ (∀ f : Nat, f < 10 → ki 5 (10 * k + f) = mo 7 (10 * k + f) ∧ 0 ≤ (mo 7 (10 * k + f)).toInt ∧ (mo 7 (10 * k + f)).toInt ≤ 9) ∧ (ki 4 k).toInt = sm (mo 7) (10 * k) 10 ∧ ∀ c : Nat, c < 10 → (ki 6 (10 * k + c)).toInt = cnt (mo 7) (10 * k) c 10
def iPlaces (ro mo : jZ) : Prop := ro 7 0 = mo 4 0 ∧ 0 ≤ (mo 4 0).toInt ∧ (mo 4 0).toInt ≤ 12 ∧ ro 5 0 = mo 18 0 ∧ (0 ≤ (mo 18 0).toInt ∧ (mo 18 0).toInt ≤ 9) ∧ ro 6 0 = mo 19 0 ∧ (0 ≤ (mo 19 0).toInt ∧ (mo 19 0).toInt ≤ 9) ∧
  ∀ p : Nat, (p : Int) < (mo 4 0).toInt → ro 8 p = mo 8 p ∧ (ro 9 p = mo 9 p ∧ 0 ≤ (mo 9 p).toInt ∧ (mo 9 p).toInt ≤ 9) ∧ (ro 10 p = mo 10 p ∧ (mo 10 p = 0 ∨ mo 10 p = 1)) ∧ (ro 11 p = mo 11 p ∧ 0 ≤ (mo 11 p).toInt ∧ (mo 11 p).toInt ≤ 8) ∧ (ro 12 p = mo 12 p ∧ -1 ≤ (mo 12 p).toInt ∧ (mo 12 p).toInt ≤ 8) ∧ (ro 13 p = mo 13 p ∧ 0 ≤ (mo 13 p).toInt ∧ (mo 13 p).toInt ≤ 9) ∧ (ro 14 p = mo 14 p ∧ 0 ≤ (mo 14 p).toInt ∧ (mo 14 p).toInt ≤ 99)
theorem iTape.to {ta m m2 : jZ} (h : iTape ta m) (r : mRel m m2) : iTape ta m2 := by
  unfold iTape; rw [r 1 (by unfold mKeep; omega), r 2 (by unfold mKeep; omega)]; exact h
theorem iFault.to {re m m2 : jZ} (h : iFault re m) (r : mRel m m2) : iFault re m2 := by
  unfold iFault; rw [r 34 (by unfold mKeep; omega), r 35 (by unfold mKeep; omega)]; exact h
theorem iKinds.to {ki m m2 : jZ} (h : iKinds ki m) (r : mRel m m2) : iKinds ki m2 := by
  unfold iKinds; rw [r 3 (by unfold mKeep; omega), r 5 (by unfold mKeep; omega), r 6 (by unfold mKeep; omega), r 7 (by unfold mKeep; omega)]; exact h
theorem iPlaces.to {ro m m2 : jZ} (h : iPlaces ro m) (r : mRel m m2) : iPlaces ro m2 := by
  unfold iPlaces; rw [r 4 (by unfold mKeep; omega), r 18 (by unfold mKeep; omega), r 19 (by unfold mKeep; omega), r 8 (by unfold mKeep; omega), r 9 (by unfold mKeep; omega), r 10 (by unfold mKeep; omega), r 11 (by unfold mKeep; omega), r 12 (by unfold mKeep; omega), r 13 (by unfold mKeep; omega), r 14 (by unfold mKeep; omega)]; exact h
theorem m0 (m : jZ) (j : Nat) (v : Int32) : mRel m (up2 m 0 j v) := (mRel.rf m).up (by unfold mKeep; omega)
/-- fault -/
theorem op_fault {re mo : jZ} (h : iFault re mo) (x1 : Int32) : ∃ r, f_WP_fault re x1 = some r ∧ f_Mo_fault mo x1 = some (up2 mo 0 0 0, r) := by
  unfold f_WP_fault f_Mo_fault
  rw [h.1, h.2]
  by_cases c0 : x1 = 0
  · exact ⟨_, by rw [if_pos c0], by rw [if_pos c0]⟩
  · by_cases c1 : x1 = 1
    · exact ⟨_, by rw [if_neg c0, if_pos c1], by rw [if_neg c0, if_pos c1]⟩
    · exact ⟨_, by rw [if_neg c0, if_neg c1], by rw [if_neg c0, if_neg c1]⟩
theorem has_eq (ro : jZ) (x1 : Int32) : f_Road_has ro x1 = some (if 0 ≤ x1.toInt ∧ x1.toInt < (ro 7 0).toInt ∧ x1.toInt < 12 then 1 else 0) := by
  have e0 : (0 : Int32).toInt = 0 := rfl
  have e12 : (12 : Int32).toInt = 12 := rfl
  unfold f_Road_has
  simp only [i_lt, i_le, e0, e12]
  by_cases a1 : x1.toInt < 0
  · rw [if_pos a1, if_neg (by omega)]
  · by_cases a2 : (ro 7 0).toInt ≤ x1.toInt
    · rw [if_neg a1, if_pos a2, if_neg (by omega)]
    · by_cases a3 : 12 ≤ x1.toInt
      · rw [if_neg a1, if_neg a2, if_pos a3, if_neg (by omega)]
      · rw [if_neg a1, if_neg a2, if_neg a3, if_pos (by omega)]
theorem isPlace_eq (mo : jZ) (x1 : Int32) : f_Mo_isPlace mo x1 = some (if 0 ≤ x1.toInt ∧ x1.toInt < (mo 4 0).toInt then 1 else 0) := by
  have e0 : (0 : Int32).toInt = 0 := rfl
  unfold f_Mo_isPlace
  simp only [i_lt, i_le, e0]
  by_cases a1 : x1.toInt < 0
  · rw [if_pos a1, if_neg (by omega)]
  · by_cases a2 : (mo 4 0).toInt ≤ x1.toInt
    · rw [if_neg a1, if_pos a2, if_neg (by omega)]
    · rw [if_neg a1, if_neg a2, if_pos (by omega)]
theorem has_is {ro mo : jZ} (h : iPlaces ro mo) (x1 : Int32) : f_Road_has ro x1 = f_Mo_isPlace mo x1 := by
  rw [has_eq, isPlace_eq, h.1]
  have := h.2.2.1
  congr 1
  by_cases c : 0 ≤ x1.toInt ∧ x1.toInt < (mo 4 0).toInt
  · rw [if_pos c, if_pos (by omega)]
  · rw [if_neg c, if_neg (by omega)]
/-- named -/
theorem find_kinds {ki mo : jZ} (h : iKinds ki mo) (x2 : Int32) (m2 : jZ) (r : mRel mo m2) : ∀ (n i : Nat) (N1 N2 : Nat), (i : Int) + n = (mo 3 0).toInt → n < N1 → n < N2 → ∃ q, f_WP_findKinds_names_2 ki (ki 0 0) x2 N1 (nI i) = some q ∧ f_Mo_foundMo_kindName_3 m2 0 (mo 3 0) x2 N2 (nI i) = some q := by
  have e0 : (0 : Int32).toInt = 0 := rfl
  have e5 : (5 : Int32).toInt = 5 := rfl
  obtain ⟨h1, h2, h3, h4, h5⟩ := h
  have r5 : m2 5 = mo 5 := r 5 (by unfold mKeep; omega)
  intro n
  induction n with
  | zero =>
    intro i N1 N2 hi hN1 hN2
    obtain ⟨N1, rfl⟩ : ∃ k, N1 = k + 1 := ⟨N1 - 1, by omega⟩
    obtain ⟨N2, rfl⟩ : ∃ k, N2 = k + 1 := ⟨N2 - 1, by omega⟩
    have ti : (nI i).toInt = i := nI_toInt (by omega)
    refine ⟨-1, ?_, ?_⟩
    · rw [f_WP_findKinds_names_2, if_pos (by rw [i_le, h1, ti]; omega)]
    · rw [f_Mo_foundMo_kindName_3, if_pos (by rw [i_le, ti]; omega)]
  | succ n ih =>
    intro i N1 N2 hi hN1 hN2
    obtain ⟨N1, rfl⟩ : ∃ k, N1 = k + 1 := ⟨N1 - 1, by omega⟩
    obtain ⟨N2, rfl⟩ : ∃ k, N2 = k + 1 := ⟨N2 - 1, by omega⟩
    have ti : (nI i).toInt = i := nI_toInt (by omega)
    have tz : (0 + nI i).toInt = i := by rw [i_add (by omega) (by omega), ti, e0]; omega
    have A : f_WP_findKinds_names_2 ki (ki 0 0) x2 (N1 + 1) (nI i) = if mo 5 i = x2 then some (nI i) else f_WP_findKinds_names_2 ki (ki 0 0) x2 N1 (nI (i + 1)) := by
      rw [f_WP_findKinds_names_2, if_neg (by rw [i_le, h1, ti]; omega), if_neg (by rw [i_le, e5, ti]; omega), ix_ok (by omega) (by omega)]
      simp only [Option.bind_some, i_tn, ti, Int.toNat_natCast, (h5 i (by omega)).1, nI_1]
    have B : f_Mo_foundMo_kindName_3 m2 0 (mo 3 0) x2 (N2 + 1) (nI i) = if mo 5 i = x2 then some (nI i) else f_Mo_foundMo_kindName_3 m2 0 (mo 3 0) x2 N2 (nI (i + 1)) := by
      rw [f_Mo_foundMo_kindName_3, if_neg (by rw [i_le, ti]; omega), ix_ok (by omega) (by omega)]
      simp only [Option.bind_some, i_tn, tz, Int.toNat_natCast, r5, nI_1]
    rw [A, B]
    by_cases c : mo 5 i = x2
    · exact ⟨_, by rw [if_pos c], by rw [if_pos c]⟩
    · obtain ⟨q, q1, q2⟩ := ih (i + 1) N1 N2 (by omega) (by omega) (by omega)
      exact ⟨q, by rw [if_neg c]; exact q1, by rw [if_neg c]; exact q2⟩
