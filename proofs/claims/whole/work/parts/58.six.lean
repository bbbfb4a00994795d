theorem sumOf_win5 (m2 : jZ) (x1 x2 : Int32) : ∀ (N : Nat) (v i : Int32), f_Mo_sumOf_5 m2 x1 x2 N v i = f_Mo_window_6 m2 x1 x2 3 N v i
  | 0, v, i => rfl
  | N + 1, v, i => by
    rw [f_Mo_sumOf_5, f_Mo_window_6]
    by_cases c : 3 ≤ i
    · rw [if_pos c, if_pos c]
    · rw [if_neg c, if_neg c]
      cases f_Mo_countOf m2 x1 (x2 + i) with
      | none => rfl
      | some q =>
        rw [Option.bind_some, Option.bind_some]
        by_cases d : q = -1
        · rw [if_pos d, if_pos d]
        · rw [if_neg d, if_neg d]; exact sumOf_win5 m2 x1 x2 N (v + q) (i + 1)
theorem sumOf_win (m2 : jZ) (x1 x2 : Int32) : f_Mo_sumOf m2 x1 x2 = f_Mo_window m2 x1 x2 3 := sumOf_win5 m2 x1 x2 FU 0 0
/-- the sum of three years of a place, as the class has it -/
theorem three_ok {no mo m2 : jZ} (hn : iNotes no mo) (ht : ∀ j, j < 108 → m2 44 j = no 7 j) (x1 x2 : Int32) (h1 : 0 ≤ x1.toInt) (h2 : x1.toInt < 12) : ∃ q : Int32, f_Notes_sumOf no x1 x2 3 = some q ∧ f_Mo_sumOf m2 x1 x2 = some q ∧ (q = -1 ∨ (0 ≤ q.toInt ∧ q.toInt ≤ 27)) := by
  obtain ⟨q, q1, q2, q3⟩ := window_ok hn ht x1 x2 3 h1 h2 (by decide) (by decide)
  refine ⟨q, q1, by rw [sumOf_win]; exact q2, ?_⟩
  rcases q3 with c | c
  · exact Or.inl c
  · have e3 : (3 : Int32).toInt = 3 := rfl
    rw [e3] at c
    exact Or.inr ⟨c.1, by omega⟩
theorem six_ok {no mo m2 : jZ} (hn : iNotes no mo) (ht : ∀ j, j < 108 → m2 44 j = no 7 j) (x1 x2 : Int32) (h1 : 0 ≤ x1.toInt) (h2 : x1.toInt < 12) : ∃ b a : Int32, f_Notes_sumOf no x1 (x2 - 3) 3 = some b ∧ f_Notes_sumOf no x1 x2 3 = some a ∧ f_Mo_sumOf m2 x1 (x2 - 3) = some b ∧ f_Mo_sumOf m2 x1 x2 = some a ∧ f_Mo_isSix m2 x1 x2 = some (if b = -1 ∨ a = -1 then 0 else 1) ∧ (b = -1 ∨ (0 ≤ b.toInt ∧ b.toInt ≤ 27)) ∧ (a = -1 ∨ (0 ≤ a.toInt ∧ a.toInt ≤ 27)) := by
  obtain ⟨b, b1, b2, b3⟩ := three_ok (m2 := m2) hn ht x1 (x2 - 3) h1 h2
  obtain ⟨a, a1, a2, a3⟩ := three_ok (m2 := m2) hn ht x1 x2 h1 h2
  refine ⟨b, a, b1, a1, b2, a2, ?_, b3, a3⟩
  unfold f_Mo_isSix
  rw [b2, Option.bind_some]
  by_cases c : b = -1
  · rw [if_pos c, if_pos (Or.inl c)]
  · rw [if_neg c, a2, Option.bind_some]
    by_cases d : a = -1
    · rw [if_pos d, if_pos (Or.inr d)]
    · rw [if_neg d, if_neg (fun e => e.elim c d)]
