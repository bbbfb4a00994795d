/-- all but the notes' rows is kept -/
def mRelA (m m2 : jZ) : Prop := ∀ k, (1 ≤ k ∧ k ≤ 19) ∨ k = 34 ∨ k = 35 → m2 k = m k
theorem mRel.A {m m2 : jZ} (h : mRel m m2) : mRelA m m2 := fun k hk => h k (by unfold mKeep; omega)
theorem mRelA.up {m m2 : jZ} (h : mRelA m m2) {k j : Nat} {v : Int32} (hk : ¬ ((1 ≤ k ∧ k ≤ 19) ∨ k = 34 ∨ k = 35)) : mRelA m (up2 m2 k j v) := fun k' hk' => by
  rw [up2_k (fun e => hk (by rw [← e]; exact hk'))]
  exact h k' hk'
theorem iTape.toA {ta m m2 : jZ} (h : iTape ta m) (r : mRelA m m2) : iTape ta m2 := by
  unfold iTape; rw [r 1 (by omega), r 2 (by omega)]; exact h
theorem iFault.toA {re m m2 : jZ} (h : iFault re m) (r : mRelA m m2) : iFault re m2 := by
  unfold iFault; rw [r 34 (by omega), r 35 (by omega)]; exact h
theorem iKinds.toA {ki m m2 : jZ} (h : iKinds ki m) (r : mRelA m m2) : iKinds ki m2 := by
  unfold iKinds; rw [r 3 (by omega), r 5 (by omega), r 6 (by omega), r 7 (by omega)]; exact h
theorem iPlaces.toA {ro m m2 : jZ} (h : iPlaces ro m) (r : mRelA m m2) : iPlaces ro m2 := by
  unfold iPlaces; rw [r 4 (by omega), r 18 (by omega), r 19 (by omega), r 8 (by omega), r 9 (by omega), r 10 (by omega), r 11 (by omega), r 12 (by omega), r 13 (by omega), r 14 (by omega)]; exact h
/-- known -/
theorem op_known {no mo : jZ} (hn : iNotes no mo) (x1 : Int32) : ∃ no2 m2 r, f_WP_known no x1 = some (no2, r) ∧ f_Mo_known mo x1 = some (m2, r) ∧ iNotes no2 m2 ∧ mRelA mo m2 := by
  have em : (-1 : Int32).toInt = -1 := rfl
  obtain ⟨h1, h2, h3, h4, h5, h6⟩ := id hn
  unfold f_WP_known f_Mo_known
  rw [within_eq, Option.bind_some, h1, em]
  by_cases c : -1 ≤ x1.toInt ∧ x1.toInt ≤ (mo 38 0).toInt
  · rw [if_pos c, if_neg (by decide), if_neg (by rw [i_lt, em]; omega), if_pos (by rw [i_le]; omega)]
    unfold f_Notes_limitTo
    obtain ⟨n2, g1, g2, g3⟩ := refresh_ok (up2 no 1 0 x1) (mo 40) (mo 41) (mo 42) (by rw [up2_k (by decide), h1]; omega) (by rw [up2_k (by decide), h1]; omega) (by rw [up2_s]; omega) (by rw [up2_s, up2_k (by decide), h1]; omega) (fun i hi => by
      rw [up2_k (by decide), h1] at hi
      have := h5 i hi
      unfold iNote at this ⊢
      rw [up2_k (by decide), up2_k (by decide), up2_k (by decide), up2_k (by decide)]
      exact this)
    rw [g1, Option.bind_some, Option.bind_some]
    refine ⟨n2, _, 1, rfl, rfl, ?_, ((m0 mo 0 0).A).up (by omega)⟩
    have a0 : n2 0 = no 0 := by rw [← g2 0 (by decide), up2_k (by decide)]
    have a1 : n2 1 0 = x1 := by rw [← g2 1 (by decide), up2_s]
    have s38 : (up2 (up2 mo 0 0 0) 39 0 x1) 38 = mo 38 := by rw [up2_k (by decide), up2_k (by decide)]
    have s39 : (up2 (up2 mo 0 0 0) 39 0 x1) 39 0 = x1 := up2_s
    have s40 : (up2 (up2 mo 0 0 0) 39 0 x1) 40 = mo 40 := by rw [up2_k (by decide), up2_k (by decide)]
    have s41 : (up2 (up2 mo 0 0 0) 39 0 x1) 41 = mo 41 := by rw [up2_k (by decide), up2_k (by decide)]
    have s42 : (up2 (up2 mo 0 0 0) 39 0 x1) 42 = mo 42 := by rw [up2_k (by decide), up2_k (by decide)]
    unfold iNotes
    rw [s38, s39, s40, s41, s42, a0, a1]
    refine ⟨h1, h2, rfl, by omega, fun i hi => ?_, fun j hj => ?_⟩
    · have := h5 i hi
      unfold iNote at this ⊢
      rw [← g2 2 (by decide), ← g2 3 (by decide), ← g2 4 (by decide), ← g2 5 (by decide), up2_k (by decide), up2_k (by decide), up2_k (by decide), up2_k (by decide)]
      exact this
    · rw [g3 j hj, up2_s, up2_k (by decide), h1]
  · rw [if_neg c, if_pos rfl]
    refine ⟨no, up2 mo 0 0 0, 0, rfl, ?_, hn.to (m0 mo 0 0), (m0 mo 0 0).A⟩
    by_cases d : x1 < (-1)
    · rw [if_pos d]
    · rw [if_neg d, if_neg]
      rw [i_lt, em] at d
      rw [i_le]
      omega
/-- the class's add, where there is room: the entry stands, and the table is what is known -/
theorem add_full {no mo : jZ} (hn : iNotes no mo) (h : (mo 38 0).toInt = 150) (a b c d : Int32) : f_Notes_add no a b c d = some (no, -1) := by
  have e0 : (0 : Int32).toInt = 0 := rfl
  have e150 : (150 : Int32).toInt = 150 := rfl
  unfold f_Notes_add
  rw [if_neg (by rw [i_lt, hn.1]; omega), if_neg (by rw [i_lt, hn.1]; omega)]
/-- the rows behind a new entry -/
def noNew (no : jZ) (n : Nat) (a b c d m : Int32) : jZ := up2 (up2 (up2 (up2 (up2 no 2 n a) 3 n b) 4 n c) 5 n d) 0 0 m
theorem add_room {no mo : jZ} (hn : iNotes no mo) (h : (mo 38 0).toInt < 150) (a b c d : Int32) : f_Notes_add no a b c d = (if mo 39 0 = -1 then (f_Notes_putLatest (noNew no (mo 38 0).toInt.toNat a b c d (mo 38 0 + 1)) a b c d).bind fun q => some (q, mo 38 0) else some (noNew no (mo 38 0).toInt.toNat a b c d (mo 38 0 + 1), mo 38 0)) := by
  have e0 : (0 : Int32).toInt = 0 := rfl
  have e150 : (150 : Int32).toInt = 150 := rfl
  obtain ⟨h1, h2, h3, -⟩ := hn
  unfold f_Notes_add
  rw [h1, h3, if_neg (by rw [i_lt]; omega), if_pos (by rw [i_lt]; omega), ix_ok (by omega) (by omega)]
  simp only [Option.bind_some, i_tn]
  rfl
