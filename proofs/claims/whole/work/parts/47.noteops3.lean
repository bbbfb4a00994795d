theorem noNew_0 (no : jZ) (n : Nat) (a b c d m : Int32) : noNew no n a b c d m 0 0 = m := by unfold noNew; rw [up2_s]
theorem noNew_1 (no : jZ) (n : Nat) (a b c d m : Int32) : noNew no n a b c d m 1 = no 1 := by unfold noNew; rw [up2_k (by decide), up2_k (by decide), up2_k (by decide), up2_k (by decide), up2_k (by decide)]
theorem noNew_7 (no : jZ) (n : Nat) (a b c d m : Int32) : noNew no n a b c d m 7 = no 7 := by unfold noNew; rw [up2_k (by decide), up2_k (by decide), up2_k (by decide), up2_k (by decide), up2_k (by decide)]
theorem noNew_2 (no : jZ) (n i : Nat) (a b c d m : Int32) : noNew no n a b c d m 2 i = if i = n then a else no 2 i := by
  unfold noNew; rw [up2_k (by decide), up2_k (by decide), up2_k (by decide), up2_k (by decide)]
  by_cases e : i = n
  · rw [e, up2_s, if_pos rfl]
  · rw [up2_j e, if_neg e]
theorem noNew_3 (no : jZ) (n i : Nat) (a b c d m : Int32) : noNew no n a b c d m 3 i = if i = n then b else no 3 i := by
  unfold noNew; rw [up2_k (by decide), up2_k (by decide), up2_k (by decide)]
  by_cases e : i = n
  · rw [e, up2_s, if_pos rfl]
  · rw [up2_j e, if_neg e, up2_k (by decide)]
theorem noNew_4 (no : jZ) (n i : Nat) (a b c d m : Int32) : noNew no n a b c d m 4 i = if i = n then c else no 4 i := by
  unfold noNew; rw [up2_k (by decide), up2_k (by decide)]
  by_cases e : i = n
  · rw [e, up2_s, if_pos rfl]
  · rw [up2_j e, if_neg e, up2_k (by decide), up2_k (by decide)]
theorem noNew_5 (no : jZ) (n i : Nat) (a b c d m : Int32) : noNew no n a b c d m 5 i = if i = n then d else no 5 i := by
  unfold noNew; rw [up2_k (by decide)]
  by_cases e : i = n
  · rw [e, up2_s, if_pos rfl]
  · rw [up2_j e, if_neg e, up2_k (by decide), up2_k (by decide), up2_k (by decide)]
/-- entries old and new -/
theorem iNote_new {no : jZ} {P Y O P2 Y2 O2 : Nat → Int32} {n : Nat} {a b c d m : Int32} (h : ∀ i, i < n → iNote no P Y O i) (hs : ∀ i, i < n → P2 i = P i ∧ Y2 i = Y i ∧ O2 i = O i)
    (hl : (a = P2 n ∧ b = Y2 n ∧ c = O2 n ∧ d = -1 ∧ (0 ≤ (P2 n).toInt ∧ (P2 n).toInt ≤ 11) ∧ (0 ≤ (Y2 n).toInt ∧ (Y2 n).toInt ≤ 8) ∧ (0 ≤ (O2 n).toInt ∧ (O2 n).toInt ≤ 9)) ∨ (P2 n = -1 ∧ a = -1 ∧ b = -1 ∧ d = O2 n ∧ 0 ≤ (O2 n).toInt ∧ (O2 n).toInt < n)) :
    ∀ i, i < n + 1 → iNote (noNew no n a b c d m) P2 Y2 O2 i := by
  intro i hi
  unfold iNote
  rw [noNew_2, noNew_3, noNew_4, noNew_5]
  by_cases e : i = n
  · subst e
    simp only [if_pos]
    exact hl
  · simp only [if_neg e]
    obtain ⟨h1, h2, h3⟩ := hs i (by omega)
    rw [h1, h2, h3]
    exact h i (by omega)
theorem up2_if {z : jZ} {k n : Nat} {v : Int32} (i : Nat) : up2 z k n v k i = if i = n then v else z k i := by
  by_cases e : i = n
  · rw [e, up2_s, if_pos rfl]
  · rw [up2_j e, if_neg e]
/-- note -/
theorem op_note {ro no mo : jZ} (hp : iPlaces ro mo) (hn : iNotes no mo) (x1 x2 x3 : Int32) : ∃ no2 m2 r, f_WP_note ro no x1 x2 x3 = some (no2, r) ∧ f_Mo_note mo x1 x2 x3 = some (m2, r) ∧ iNotes no2 m2 ∧ mRelA mo m2 := by
  have e0 : (0 : Int32).toInt = 0 := rfl
  have e1 : (1 : Int32).toInt = 1 := rfl
  have e8 : (8 : Int32).toInt = 8 := rfl
  have e9 : (9 : Int32).toInt = 9 := rfl
  have e11 : (11 : Int32).toInt = 11 := rfl
  have em : (-1 : Int32).toInt = -1 := rfl
  have e150 : (150 : Int32).toInt = 150 := rfl
  obtain ⟨h1, h2, h3, h4, h5, h6⟩ := id hn
  have P12 := hp.2.2.1
  have fail : f_WP_note ro no x1 x2 x3 = some (no, -1) → f_Mo_note mo x1 x2 x3 = some (up2 mo 0 0 0, -1) → ∃ no2 m2 r, f_WP_note ro no x1 x2 x3 = some (no2, r) ∧ f_Mo_note mo x1 x2 x3 = some (m2, r) ∧ iNotes no2 m2 ∧ mRelA mo m2 := fun a b => ⟨_, _, _, a, b, hn.to (m0 mo 0 0), (m0 mo 0 0).A⟩
  have W1 : f_WP_note ro no x1 x2 x3 = (if (0 ≤ x1.toInt ∧ x1.toInt < (mo 4 0).toInt) ∧ (0 ≤ x2.toInt ∧ x2.toInt ≤ 8) ∧ (0 ≤ x3.toInt ∧ x3.toInt ≤ 9) then f_Notes_add no x1 x2 x3 (-1) else some (no, -1)) := by
    unfold f_WP_note
    rw [has_is hp, isPlace_eq, within_eq, within_eq]
    simp only [Option.bind_some, e0, e8, e9]
    by_cases c1 : 0 ≤ x1.toInt ∧ x1.toInt < (mo 4 0).toInt
    · rw [if_pos c1, if_neg (by decide)]
      by_cases c2 : 0 ≤ x2.toInt ∧ x2.toInt ≤ 8
      · rw [if_pos c2, if_neg (by decide)]
        by_cases c3 : 0 ≤ x3.toInt ∧ x3.toInt ≤ 9
        · rw [if_pos c3, if_neg (by decide), if_pos ⟨c1, c2, c3⟩]
          cases f_Notes_add no x1 x2 x3 (-1) <;> rfl
        · rw [if_neg c3, if_pos rfl, if_neg (fun e => c3 e.2.2)]
      · rw [if_neg c2, if_pos rfl, if_neg (fun e => c2 e.2.1)]
    · rw [if_neg c1, if_pos rfl, if_neg (fun e => c1 e.1)]
  have W2 : f_Mo_note mo x1 x2 x3 = (if ((0 ≤ x1.toInt ∧ x1.toInt < (mo 4 0).toInt) ∧ (0 ≤ x2.toInt ∧ x2.toInt ≤ 8) ∧ (0 ≤ x3.toInt ∧ x3.toInt ≤ 9)) ∧ (mo 38 0).toInt < 150 then some (up2 (up2 (up2 (up2 (up2 mo 0 0 0) 40 (mo 38 0).toInt.toNat x1) 41 (mo 38 0).toInt.toNat x2) 42 (mo 38 0).toInt.toNat x3) 38 0 (mo 38 0 + 1), mo 38 0) else some (up2 mo 0 0 0, -1)) := by
    unfold f_Mo_note
    rw [isPlace_eq, show (up2 mo 0 0 0) 4 = mo 4 from up2_k (by decide)]
    simp only [Option.bind_some, i_lt, i_le, e0, e9]
    by_cases c1 : 0 ≤ x1.toInt ∧ x1.toInt < (mo 4 0).toInt
    · rw [if_pos c1, if_neg (by decide)]
      by_cases a1 : x2.toInt < 0
      · rw [if_pos a1, if_neg (by omega)]
      · by_cases a2 : 9 ≤ x2.toInt
        · rw [if_neg a1, if_pos a2, if_neg (by omega)]
        · by_cases a3 : x3.toInt < 0
          · rw [if_neg a1, if_neg a2, if_pos a3, if_neg (by omega)]
          · by_cases a4 : 9 < x3.toInt
            · rw [if_neg a1, if_neg a2, if_neg a3, if_pos a4, if_neg (by omega)]
            · by_cases a5 : mo 38 0 = 150
              · have : (mo 38 0).toInt = 150 := by rw [a5]; exact e150
                rw [if_neg a1, if_neg a2, if_neg a3, if_neg a4, if_pos a5, if_neg (by omega)]
              · have : (mo 38 0).toInt ≠ 150 := fun e => a5 (i_ext (by rw [e, e150]))
                rw [if_neg a1, if_neg a2, if_neg a3, if_neg a4, if_neg a5, if_pos (by omega), ix_ok (by omega) (by omega)]
                simp only [Option.bind_some, i_tn]
                have : mo 38 0 + 1 - 1 = mo 38 0 := by
                  apply i_ext
                  have s : (mo 38 0 + 1).toInt = (mo 38 0).toInt + 1 := by rw [i_add (by omega) (by omega), e1]
                  rw [i_sub (by omega) (by omega), s, e1]; omega
                rw [this]
    · rw [if_neg c1, if_pos rfl, if_neg (fun e => c1 e.1.1)]
  by_cases c : ((0 ≤ x1.toInt ∧ x1.toInt < (mo 4 0).toInt) ∧ (0 ≤ x2.toInt ∧ x2.toInt ≤ 8) ∧ (0 ≤ x3.toInt ∧ x3.toInt ≤ 9))
  · by_cases f : (mo 38 0).toInt < 150
    · rw [W1, W2, if_pos c, if_pos ⟨c, f⟩, add_room hn f]
      have s1 : (mo 38 0 + 1).toInt = (mo 38 0).toInt + 1 := by rw [i_add (by omega) (by omega), e1]
      generalize hN : (mo 38 0).toInt.toNat = n
      have hNi : (mo 38 0).toInt = n := by omega
      let m2 : jZ := up2 (up2 (up2 (up2 (up2 mo 0 0 0) 40 n x1) 41 n x2) 42 n x3) 38 0 (mo 38 0 + 1)
      have q38 : m2 38 0 = mo 38 0 + 1 := up2_s
      have q39 : m2 39 = mo 39 := by show up2 (up2 (up2 (up2 (up2 mo 0 0 0) 40 n x1) 41 n x2) 42 n x3) 38 0 (mo 38 0 + 1) 39 = mo 39; rw [up2_k (by decide), up2_k (by decide), up2_k (by decide), up2_k (by decide), up2_k (by decide)]
      have q40 : ∀ i, m2 40 i = if i = n then x1 else mo 40 i := fun i => by
        show up2 (up2 (up2 (up2 (up2 mo 0 0 0) 40 n x1) 41 n x2) 42 n x3) 38 0 (mo 38 0 + 1) 40 i = _
        rw [up2_k (by decide), up2_k (by decide), up2_k (by decide), up2_if, up2_k (by decide)]
      have q41 : ∀ i, m2 41 i = if i = n then x2 else mo 41 i := fun i => by
        show up2 (up2 (up2 (up2 (up2 mo 0 0 0) 40 n x1) 41 n x2) 42 n x3) 38 0 (mo 38 0 + 1) 41 i = _
        rw [up2_k (by decide), up2_k (by decide), up2_if, up2_k (by decide), up2_k (by decide)]
      have q42 : ∀ i, m2 42 i = if i = n then x3 else mo 42 i := fun i => by
        show up2 (up2 (up2 (up2 (up2 mo 0 0 0) 40 n x1) 41 n x2) 42 n x3) 38 0 (mo 38 0 + 1) 42 i = _
        rw [up2_k (by decide), up2_if, up2_k (by decide), up2_k (by decide), up2_k (by decide)]
      have old : ∀ i, i < n → m2 40 i = mo 40 i ∧ m2 41 i = mo 41 i ∧ m2 42 i = mo 42 i := fun i hi => by
        rw [q40, q41, q42]; exact ⟨if_neg (by omega), if_neg (by omega), if_neg (by omega)⟩
      have n40 : m2 40 n = x1 := by rw [q40, if_pos rfl]
      have n41 : m2 41 n = x2 := by rw [q41, if_pos rfl]
      have n42 : m2 42 n = x3 := by rw [q42, if_pos rfl]
      have ent : ∀ i, i < n + 1 → iNote (noNew no n x1 x2 x3 (-1) (mo 38 0 + 1)) (m2 40) (m2 41) (m2 42) i := iNote_new (fun i hi => h5 i (by omega)) old (Or.inl ⟨n40.symm, n41.symm, n42.symm, rfl, by rw [n40]; omega, by rw [n41]; omega, by rw [n42]; omega⟩)
      have rel : mRelA mo m2 := ((((((m0 mo 0 0).A).up (by omega)).up (by omega)).up (by omega)).up (by omega))
      by_cases l : mo 39 0 = -1
      · rw [if_pos l]
        have PL : f_Notes_putLatest (noNew no n x1 x2 x3 (-1) (mo 38 0 + 1)) x1 x2 x3 (-1) = some (up2 (noNew no n x1 x2 x3 (-1) (mo 38 0 + 1)) 7 (x1.toInt * 9 + x2.toInt).toNat x3) := by
          unfold f_Notes_putLatest
          rw [within_eq, within_eq]
          simp only [Option.bind_some, e0, e8, e11]
          rw [if_pos (show 0 ≤ x1.toInt ∧ x1.toInt ≤ 11 by omega), if_neg (by decide), if_pos (show 0 ≤ x2.toInt ∧ x2.toInt ≤ 8 by omega), if_neg (by decide)]
          unfold f_Notes_putLatest_25
          have m1 : (x1 * 9).toInt = x1.toInt * 9 := i_mul (by rw [e9]; omega) (by rw [e9]; omega)
          have m2' : (x1 * 9 + x2).toInt = x1.toInt * 9 + x2.toInt := by rw [i_add (by omega) (by omega), m1]
          rw [if_pos rfl, if_neg (by decide), ix_ok (by omega) (by omega), Option.bind_some, i_tn, m2']
        rw [PL, Option.bind_some]
        refine ⟨_, m2, _, rfl, rfl, ?_, rel⟩
        unfold iNotes
        rw [q38, q39, up2_k (by decide), up2_k (by decide), noNew_0, noNew_1, s1]
        refine ⟨rfl, by omega, h3, by omega, fun i hi => ?_, fun j hj => ?_⟩
        · have := ent i (by omega)
          unfold iNote at this ⊢
          rw [up2_k (by decide), up2_k (by decide), up2_k (by decide), up2_k (by decide)]
          exact this
        · have hk : kn (mo 38 0 + 1) (mo 39 0) = n + 1 := by unfold kn; rw [if_pos l, s1]; omega
          have hk0 : kn (mo 38 0) (mo 39 0) = n := by unfold kn; rw [if_pos l]; omega
          rw [hk, knownTab_count (P := mo 40) (Y := mo 41) (O := mo 42) (fun i hi => ⟨(old i hi).1.symm, (old i hi).2.1.symm, (old i hi).2.2.symm⟩) (fun i hi => (h5 i (by omega)).p) (by rw [n40]; intro e; have := congrArg Int32.toInt e; rw [em] at this; omega)]
          rw [n40, n41, n42, up2_if, noNew_7]
          have := h6 j hj
          rw [hk0] at this
          rw [this]
      · rw [if_neg l]
        refine ⟨_, m2, _, rfl, rfl, ?_, rel⟩
        unfold iNotes
        rw [q38, q39, noNew_0, noNew_1, noNew_7, s1]
        refine ⟨rfl, by omega, h3, by omega, fun i hi => ent i (by omega), fun j hj => ?_⟩
        have hk : kn (mo 38 0 + 1) (mo 39 0) = kn (mo 38 0) (mo 39 0) := by unfold kn; rw [if_neg l, if_neg l]
        have hle : kn (mo 38 0) (mo 39 0) ≤ n := by unfold kn; rw [if_neg l]; omega
        rw [hk, h6 j hj, knownTab_congr (fun i hi => ⟨(old i (by omega)).1.symm, (old i (by omega)).2.1.symm, (old i (by omega)).2.2.symm⟩)]
    · refine fail ?_ ?_
      · rw [W1, if_pos c, add_full hn (by omega)]
      · rw [W2, if_neg (fun e => f e.2)]
  · refine fail ?_ ?_
    · rw [W1, if_neg c]
    · rw [W2, if_neg (fun e => c e.1)]
