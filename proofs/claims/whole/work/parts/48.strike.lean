/-- strike -/
theorem op_strike {no mo : jZ} (hn : iNotes no mo) (x1 : Int32) : ∃ no2 m2 r, f_WP_strike no x1 = some (no2, r) ∧ f_Mo_strike mo x1 = some (m2, r) ∧ iNotes no2 m2 ∧ mRelA mo m2 := by
  have e0 : (0 : Int32).toInt = 0 := rfl
  have e1 : (1 : Int32).toInt = 1 := rfl
  have e8 : (8 : Int32).toInt = 8 := rfl
  have e11 : (11 : Int32).toInt = 11 := rfl
  have em : (-1 : Int32).toInt = -1 := rfl
  have e150 : (150 : Int32).toInt = 150 := rfl
  obtain ⟨h1, h2, h3, h4, h5, h6⟩ := id hn
  have s0 : (mo 38 0 - 1).toInt = (mo 38 0).toInt - 1 := by rw [i_sub (by omega) (by omega), e1]
  have W1 : f_WP_strike no x1 = (if 0 ≤ x1.toInt ∧ x1.toInt < (mo 38 0).toInt then f_Notes_add no (-1) (-1) (-1) x1 else some (no, -1)) := by
    unfold f_WP_strike
    rw [within_eq, Option.bind_some, h1, s0, e0]
    by_cases c1 : 0 ≤ x1.toInt ∧ x1.toInt < (mo 38 0).toInt
    · rw [if_pos c1, if_pos (show 0 ≤ x1.toInt ∧ x1.toInt ≤ (mo 38 0).toInt - 1 by omega), if_neg (by decide)]
      cases f_Notes_add no (-1) (-1) (-1) x1 <;> rfl
    · rw [if_neg c1, if_neg (show ¬ (0 ≤ x1.toInt ∧ x1.toInt ≤ (mo 38 0).toInt - 1) by omega), if_pos rfl]
  have W2 : f_Mo_strike mo x1 = (if (0 ≤ x1.toInt ∧ x1.toInt < (mo 38 0).toInt) ∧ (mo 38 0).toInt < 150 then some (up2 (up2 (up2 (up2 mo 0 0 0) 40 (mo 38 0).toInt.toNat (-1)) 42 (mo 38 0).toInt.toNat x1) 38 0 (mo 38 0 + 1), mo 38 0) else some (up2 mo 0 0 0, -1)) := by
    unfold f_Mo_strike
    simp only [i_lt, i_le, e0]
    by_cases a1 : x1.toInt < 0
    · rw [if_pos a1, if_neg (by omega)]
    · by_cases a2 : (mo 38 0).toInt ≤ x1.toInt
      · rw [if_neg a1, if_pos a2, if_neg (by omega)]
      · by_cases a5 : mo 38 0 = 150
        · have : (mo 38 0).toInt = 150 := by rw [a5]; exact e150
          rw [if_neg a1, if_neg a2, if_pos a5, if_neg (by omega)]
        · have : (mo 38 0).toInt ≠ 150 := fun e => a5 (i_ext (by rw [e, e150]))
          rw [if_neg a1, if_neg a2, if_neg a5, if_pos (by omega), ix_ok (by omega) (by omega)]
          simp only [Option.bind_some, i_tn]
          have : mo 38 0 + 1 - 1 = mo 38 0 := by
            apply i_ext
            have s : (mo 38 0 + 1).toInt = (mo 38 0).toInt + 1 := by rw [i_add (by omega) (by omega), e1]
            rw [i_sub (by omega) (by omega), s, e1]; omega
          rw [this]
  by_cases c : 0 ≤ x1.toInt ∧ x1.toInt < (mo 38 0).toInt
  · by_cases f : (mo 38 0).toInt < 150
    · rw [W1, W2, if_pos c, if_pos ⟨c, f⟩, add_room hn f]
      have s1 : (mo 38 0 + 1).toInt = (mo 38 0).toInt + 1 := by rw [i_add (by omega) (by omega), e1]
      generalize hN : (mo 38 0).toInt.toNat = n
      have hNi : (mo 38 0).toInt = n := by omega
      let m2 : jZ := up2 (up2 (up2 (up2 mo 0 0 0) 40 n (-1)) 42 n x1) 38 0 (mo 38 0 + 1)
      have q38 : m2 38 0 = mo 38 0 + 1 := up2_s
      have q39 : m2 39 = mo 39 := by show up2 (up2 (up2 (up2 mo 0 0 0) 40 n (-1)) 42 n x1) 38 0 (mo 38 0 + 1) 39 = mo 39; rw [up2_k (by decide), up2_k (by decide), up2_k (by decide), up2_k (by decide)]
      have q41 : m2 41 = mo 41 := by show up2 (up2 (up2 (up2 mo 0 0 0) 40 n (-1)) 42 n x1) 38 0 (mo 38 0 + 1) 41 = mo 41; rw [up2_k (by decide), up2_k (by decide), up2_k (by decide), up2_k (by decide)]
      have q40 : ∀ i, m2 40 i = if i = n then -1 else mo 40 i := fun i => by
        show up2 (up2 (up2 (up2 mo 0 0 0) 40 n (-1)) 42 n x1) 38 0 (mo 38 0 + 1) 40 i = _
        rw [up2_k (by decide), up2_k (by decide), up2_if, up2_k (by decide)]
      have q42 : ∀ i, m2 42 i = if i = n then x1 else mo 42 i := fun i => by
        show up2 (up2 (up2 (up2 mo 0 0 0) 40 n (-1)) 42 n x1) 38 0 (mo 38 0 + 1) 42 i = _
        rw [up2_k (by decide), up2_if, up2_k (by decide), up2_k (by decide)]
      have old : ∀ i, i < n → m2 40 i = mo 40 i ∧ m2 41 i = mo 41 i ∧ m2 42 i = mo 42 i := fun i hi => by
        rw [q40, q41, q42]; exact ⟨if_neg (by omega), rfl, if_neg (by omega)⟩
      have n40 : m2 40 n = -1 := by rw [q40, if_pos rfl]
      have n42 : m2 42 n = x1 := by rw [q42, if_pos rfl]
      have ent : ∀ i, i < n + 1 → iNote (noNew no n (-1) (-1) (-1) x1 (mo 38 0 + 1)) (m2 40) (m2 41) (m2 42) i := iNote_new (fun i hi => h5 i (by omega)) old (Or.inr ⟨n40, rfl, rfl, n42.symm, by rw [n42]; omega, by rw [n42]; omega⟩)
      have rel : mRelA mo m2 := (((((m0 mo 0 0).A).up (by omega)).up (by omega)).up (by omega))
      by_cases l : mo 39 0 = -1
      · rw [if_pos l]
        obtain ⟨n2, g1, g2, g3⟩ := refresh_ok (noNew no n (-1) (-1) (-1) x1 (mo 38 0 + 1)) (m2 40) (m2 41) (m2 42) (by rw [noNew_0, s1]; omega) (by rw [noNew_0, s1]; omega) (by rw [noNew_1, h3]; omega) (by rw [noNew_1, noNew_0, h3, s1]; omega) (fun i hi => ent i (by rw [noNew_0, s1] at hi; omega))
        have PL : f_Notes_putLatest (noNew no n (-1) (-1) (-1) x1 (mo 38 0 + 1)) (-1) (-1) (-1) x1 = some n2 := by
          unfold f_Notes_putLatest
          rw [within_eq, Option.bind_some, e0, e11, if_pos (show (if (0 : Int) ≤ (-1 : Int32).toInt ∧ (-1 : Int32).toInt ≤ 11 then (1 : Int32) else 0) = 0 by decide)]
          unfold f_Notes_putLatest_25
          rw [if_neg (fun e => by have := congrArg Int32.toInt e; rw [em] at this; omega), g1, Option.bind_some]
        rw [PL, Option.bind_some]
        refine ⟨n2, m2, _, rfl, rfl, ?_, rel⟩
        unfold iNotes
        rw [q38, q39, ← g2 0 (by decide), ← g2 1 (by decide), noNew_0, noNew_1, s1]
        refine ⟨rfl, by omega, h3, by omega, fun i hi => ?_, fun j hj => ?_⟩
        · have := ent i (by omega)
          unfold iNote at this ⊢
          rw [← g2 2 (by decide), ← g2 3 (by decide), ← g2 4 (by decide), ← g2 5 (by decide)]
          exact this
        · rw [g3 j hj, noNew_0, noNew_1, h3]
      · rw [if_neg l]
        refine ⟨_, m2, _, rfl, rfl, ?_, rel⟩
        unfold iNotes
        rw [q38, q39, noNew_0, noNew_1, noNew_7, s1]
        refine ⟨rfl, by omega, h3, by omega, fun i hi => ent i (by omega), fun j hj => ?_⟩
        have hk : kn (mo 38 0 + 1) (mo 39 0) = kn (mo 38 0) (mo 39 0) := by unfold kn; rw [if_neg l, if_neg l]
        have hle : kn (mo 38 0) (mo 39 0) ≤ n := by unfold kn; rw [if_neg l]; omega
        rw [hk, h6 j hj, knownTab_congr (fun i hi => ⟨(old i (by omega)).1.symm, (old i (by omega)).2.1.symm, (old i (by omega)).2.2.symm⟩)]
    · rw [W1, W2, if_pos c, if_neg (fun e => f e.2), add_full hn (by omega)]
      exact ⟨_, _, _, rfl, rfl, hn.to (m0 mo 0 0), (m0 mo 0 0).A⟩
  · rw [W1, W2, if_neg c, if_neg (fun e => c e.1)]
    exact ⟨_, _, _, rfl, rfl, hn.to (m0 mo 0 0), (m0 mo 0 0).A⟩
