def isSg (v : Int32) : Prop := v = 59 ∨ v = 40 ∨ v = 41 ∨ v = 43 ∨ v = 45 ∨ v = 42 ∨ v = 47 ∨ v = 60 ∨ v = 61 ∨ v = 62 ∨ v = 256 ∨ v = 257 ∨ v = 258
theorem here_cg (m m2 : jZ) (h1 : m2 1 = m 1) (h27 : m2 27 = m 27) (h28 : m2 28 = m 28) : f_Mo_here m2 = f_Mo_here m := by
  unfold f_Mo_here; rw [h1, h27, h28]
theorem sgn_plain (mo : jZ) (C s N : Int32) (hN : f_Mo_here mo = some N) (h60 : C = 60 → ¬ N = 61 ∧ ¬ N = 62) (h62 : C = 62 → ¬ N = 61) (hb : C.toInt ≤ 255) : f_Mo_sign_76 C mo s = some (up2 (up2 mo 30 0 s) 31 0 C) := by
  have i256 : (256 : Int32).toInt = 256 := rfl
  have hh : f_Mo_here (up2 (up2 mo 30 0 s) 31 0 C) = some N := by rw [here_cg mo _ (by rw [up2_k (by decide), up2_k (by decide)]) (by rw [up2_k (by decide), up2_k (by decide)]) (by rw [up2_k (by decide), up2_k (by decide)])]; exact hN
  have E : f_Mo_sign_128 C (up2 (up2 mo 30 0 s) 31 0 C) = some (up2 (up2 mo 30 0 s) 31 0 C) := by
    unfold f_Mo_sign_128
    rw [hh, Option.bind_some, up2_s, if_pos (show C < 256 by rw [i_lt]; omega)]
    by_cases d : C = 62
    · rw [if_pos d, if_neg (h62 d)]
    · rw [if_neg d]
  unfold f_Mo_sign_76
  rw [hh, Option.bind_some, Option.bind_some, E]
  by_cases c : C = 60
  · rw [if_pos c, if_neg (h60 c).1, if_pos c, if_neg (h60 c).2]
  · rw [if_neg c, if_neg c]
theorem sgc_plain (ta : jZ) (c n : Int32) (h60 : c = 60 → ¬ n = 61 ∧ ¬ n = 62) (h62 : c = 62 → ¬ n = 61) : f_Tape_stepSign_41 c ta n = some (up2 (up2 ta 5 0 c) 4 0 3) := by
  have r5 : (up2 (up2 ta 5 0 c) 4 0 3) 5 0 = c := by rw [up2_k (by decide), up2_s]
  have E : f_Tape_stepSign_96 c (up2 (up2 ta 5 0 c) 4 0 3) n = some (up2 (up2 ta 5 0 c) 4 0 3) := by
    unfold f_Tape_stepSign_96
    rw [r5, if_pos rfl]
    by_cases d : c = 62
    · rw [if_pos d, if_neg (h62 d)]
    · rw [if_neg d]
  have E2 : f_Tape_stepSign_74 c (up2 (up2 ta 5 0 c) 4 0 3) n = some (up2 (up2 ta 5 0 c) 4 0 3) := by
    unfold f_Tape_stepSign_74
    by_cases d : c = 60
    · rw [if_pos d, if_neg (h60 d).2, E]
    · rw [if_neg d, E]
  unfold f_Tape_stepSign_41
  by_cases d : c = 60
  · rw [if_pos d, if_neg (h60 d).1, E2]
  · rw [if_neg d, E2]
theorem sgn_ref (mo : jZ) (C : Int32) (hb : C.toInt ≤ 255) : f_Mo_sign mo C = f_Mo_sign_76 C (up2 mo 28 0 (mo 28 0 + 1)) (if C = 59 ∨ C = 40 ∨ C = 41 ∨ C = 43 ∨ C = 45 ∨ C = 42 ∨ C = 47 ∨ C = 60 ∨ C = 61 ∨ C = 62 then 3 else 5) := by
  unfold f_Mo_sign
  by_cases h1 : C = 59
  · rw [if_pos h1, if_pos (Or.inl h1)]
  rw [if_neg h1]
  by_cases h2 : C = 40
  · rw [if_pos h2, if_pos (Or.inr (Or.inl h2))]
  rw [if_neg h2]
  by_cases h3 : C = 41
  · rw [if_pos h3, if_pos (Or.inr (Or.inr (Or.inl h3)))]
  rw [if_neg h3]
  by_cases h4 : C = 43
  · rw [if_pos h4, if_pos (Or.inr (Or.inr (Or.inr (Or.inl h4))))]
  rw [if_neg h4]
  by_cases h5 : C = 45
  · rw [if_pos h5, if_pos (Or.inr (Or.inr (Or.inr (Or.inr (Or.inl h5)))))]
  rw [if_neg h5]
  by_cases h6 : C = 42
  · rw [if_pos h6, if_pos (Or.inr (Or.inr (Or.inr (Or.inr (Or.inr (Or.inl h6))))))]
  rw [if_neg h6]
  by_cases h7 : C = 47
  · rw [if_pos h7, if_pos (Or.inr (Or.inr (Or.inr (Or.inr (Or.inr (Or.inr (Or.inl h7)))))))]
  rw [if_neg h7]
  by_cases h8 : C = 60
  · rw [if_pos h8, if_pos (Or.inr (Or.inr (Or.inr (Or.inr (Or.inr (Or.inr (Or.inr (Or.inl h8))))))))]
  rw [if_neg h8]
  by_cases h9 : C = 61
  · rw [if_pos h9, if_pos (Or.inr (Or.inr (Or.inr (Or.inr (Or.inr (Or.inr (Or.inr (Or.inr (Or.inl h9)))))))))]
  rw [if_neg h9]
  by_cases h10 : C = 62
  · rw [if_pos h10, if_pos (Or.inr (Or.inr (Or.inr (Or.inr (Or.inr (Or.inr (Or.inr (Or.inr (Or.inr h10)))))))))]
  rw [if_neg h10, if_neg (by rintro (h | h | h | h | h | h | h | h | h | h) <;> contradiction)]
/-- a sign, or a byte that is none -/
theorem sgn_ok {ta mo : jZ} (h : tPos ta mo) (hat : (mo 28 0).toInt < (mo 27 0).toInt) (c C : Int32) (hc : ta 0 (mo 28 0).toInt.toNat = c) (hC : mo 1 (mo 28 0).toInt.toNat = C) :
    ∃ ta2 mo2, f_Tape_stepSign ta c = some ta2 ∧ f_Mo_sign mo C = some mo2 ∧ tPos ta2 mo2 ∧ (mo 28 0).toInt < (mo2 28 0).toInt ∧ ta2 4 0 = 3 ∧ ((mo2 30 0 = 3 ∧ ta2 5 0 = mo2 31 0 ∧ isSg (ta2 5 0)) ∨ (mo2 30 0 = 5 ∧ ¬ isSg (ta2 5 0) ∧ (ta2 5 0).toInt ≤ 127)) ∧ (∀ q, q ≠ 3 → q ≠ 4 → q ≠ 5 → ta2 q = ta q) ∧ (∀ q, q ≠ 28 → q ≠ 30 → q ≠ 31 → mo2 q = mo q) := by
  have i0 : (0 : Int32).toInt = 0 := rfl
  have i1 : (1 : Int32).toInt = 1 := rfl
  obtain ⟨h1, h2, ⟨h3, h4, h5⟩, h6⟩ := id h
  obtain ⟨c1, c2, c3⟩ := h6 (mo 28 0).toInt.toNat (by omega)
  rw [hc, hC] at c1
  rw [hC] at c2 c3
  have t1 : (mo 28 0 + 1).toInt = (mo 28 0).toInt + 1 := by rw [i_add (by omega) (by omega), i1]
  -- the byte behind
  obtain ⟨n, N, A, B, nN⟩ : ∃ n N : Int32, f_Tape_stepSign ta c = f_Tape_stepSign_41 c (up2 ta 3 0 (mo 28 0 + 1)) n ∧ f_Mo_here (up2 mo 28 0 (mo 28 0 + 1)) = some N ∧ (((n = 61 ↔ N = 61) ∧ (n = 62 ↔ N = 62)) ∧ (N = 61 ∨ N = 62 → (mo 28 0).toInt + 1 < (mo 27 0).toInt)) := by
    have hp : tPos (up2 ta 3 0 (mo 28 0 + 1)) (up2 mo 28 0 (mo 28 0 + 1)) := h.mv _ _ (mo 28 0 + 1) up2_s up2_s (up2_k (by decide)) (up2_k (by decide)) (up2_k (by decide)) (up2_k (by decide)) (by omega) (by omega)
    have hh := here_eq hp
    rw [up2_s, up2_k (by decide), up2_k (by decide), t1] at hh
    unfold f_Tape_stepSign
    rw [h1, h2, if_neg (by rw [i_lt]; omega), hh]
    by_cases d : (mo 28 0).toInt + 1 < (mo 27 0).toInt
    · obtain ⟨d1, d2, d3⟩ := h6 ((mo 28 0).toInt + 1).toNat (by omega)
      rw [if_neg (show ¬ mo 27 0 ≤ mo 28 0 + 1 by rw [i_le]; omega), ix_ok (by omega) (by omega), Option.bind_some, i_tn, t1, if_pos d, d1]
      refine ⟨_, _, rfl, rfl, ⟨?_, ?_⟩, fun _ => d⟩
      · rcases sb_toInt _ d2 d3 with ⟨a, b⟩ | ⟨a, b⟩
        · rw [b]
        · have i61 : (61 : Int32).toInt = 61 := rfl
          simp only [i_eq]; omega
      · rcases sb_toInt _ d2 d3 with ⟨a, b⟩ | ⟨a, b⟩
        · rw [b]
        · have i62 : (62 : Int32).toInt = 62 := rfl
          simp only [i_eq]; omega
    · rw [if_pos (show mo 27 0 ≤ mo 28 0 + 1 by rw [i_le]; omega), if_neg d]
      refine ⟨0, -1, rfl, rfl, ⟨by decide, by decide⟩, fun e => ?_⟩
      rcases e with e | e <;> exact absurd e (by decide)
  obtain ⟨⟨n61, n62⟩, nlt⟩ := nN
  rw [A, sgn_ref mo C (by omega)]
  generalize hm1 : up2 mo 28 0 (mo 28 0 + 1) = m1 at B
  generalize ht1 : up2 ta 3 0 (mo 28 0 + 1) = ta1
  have m1k : ∀ q, q ≠ 28 → m1 q = mo q := fun q hq => by rw [← hm1, up2_k hq]
  have m128 : m1 28 0 = mo 28 0 + 1 := by rw [← hm1, up2_s]
  have t1k : ∀ q, q ≠ 3 → ta1 q = ta q := fun q hq => by rw [← ht1, up2_k hq]
  have t13 : ta1 3 0 = mo 28 0 + 1 := by rw [← ht1, up2_s]
  -- two bytes
  have two : ∀ v : Int32, isSg v → (mo 28 0).toInt + 1 < (mo 27 0).toInt → ∃ ta2 mo2, (some (up2 (up2 (up2 (up2 ta1 5 0 c) 4 0 3) 5 0 v) 3 0 ((ta1 3 0) + 1)) : Option jZ) = some ta2 ∧ (some (up2 (up2 (up2 (up2 m1 30 0 3) 31 0 C) 31 0 v) 28 0 ((m1 28 0) + 1)) : Option jZ) = some mo2 ∧ tPos ta2 mo2 ∧ (mo 28 0).toInt < (mo2 28 0).toInt ∧ ta2 4 0 = 3 ∧ ((mo2 30 0 = 3 ∧ ta2 5 0 = mo2 31 0 ∧ isSg (ta2 5 0)) ∨ (mo2 30 0 = 5 ∧ ¬ isSg (ta2 5 0) ∧ (ta2 5 0).toInt ≤ 127)) ∧ (∀ q, q ≠ 3 → q ≠ 4 → q ≠ 5 → ta2 q = ta q) ∧ (∀ q, q ≠ 28 → q ≠ 30 → q ≠ 31 → mo2 q = mo q) := fun v hv hlt => by
    have t2 : (mo 28 0 + 1 + 1).toInt = (mo 28 0).toInt + 2 := by rw [i_add (by omega) (by omega), i1, t1]; omega
    refine ⟨_, _, rfl, rfl, ?_, ?_, ?_, Or.inl ⟨?_, ?_, ?_⟩, ?_, ?_⟩
    · exact h.mv _ _ (mo 28 0 + 1 + 1) (by rw [up2_s, t13]) (by rw [up2_s, m128]) (by rw [up2_k (by decide), up2_k (by decide), up2_k (by decide), up2_k (by decide)]; exact t1k 0 (by decide)) (by rw [up2_k (by decide), up2_k (by decide), up2_k (by decide), up2_k (by decide)]; exact t1k 2 (by decide)) (by rw [up2_k (by decide), up2_k (by decide), up2_k (by decide), up2_k (by decide)]; exact m1k 1 (by decide)) (by rw [up2_k (by decide), up2_k (by decide), up2_k (by decide), up2_k (by decide)]; exact m1k 27 (by decide)) (by omega) (by omega)
    · rw [up2_s, m128, t2]; omega
    · rw [up2_k (by decide), up2_k (by decide), up2_s]
    · rw [up2_k (by decide), up2_k (by decide), up2_k (by decide), up2_s]
    · rw [up2_k (by decide), up2_s, up2_k (by decide), up2_s]
    · rw [up2_k (by decide), up2_s]; exact hv
    · intro q a b d; rw [up2_k a, up2_k d, up2_k b, up2_k d]; exact t1k q a
    · intro q a b d; rw [up2_k a, up2_k d, up2_k d, up2_k b]; exact m1k q a
  -- one byte
  have one : (C = 60 → ¬ N = 61 ∧ ¬ N = 62) → (C = 62 → ¬ N = 61) → ∃ ta2 mo2, f_Tape_stepSign_41 c ta1 n = some ta2 ∧ f_Mo_sign_76 C m1 (if C = 59 ∨ C = 40 ∨ C = 41 ∨ C = 43 ∨ C = 45 ∨ C = 42 ∨ C = 47 ∨ C = 60 ∨ C = 61 ∨ C = 62 then 3 else 5) = some mo2 ∧ tPos ta2 mo2 ∧ (mo 28 0).toInt < (mo2 28 0).toInt ∧ ta2 4 0 = 3 ∧ ((mo2 30 0 = 3 ∧ ta2 5 0 = mo2 31 0 ∧ isSg (ta2 5 0)) ∨ (mo2 30 0 = 5 ∧ ¬ isSg (ta2 5 0) ∧ (ta2 5 0).toInt ≤ 127)) ∧ (∀ q, q ≠ 3 → q ≠ 4 → q ≠ 5 → ta2 q = ta q) ∧ (∀ q, q ≠ 28 → q ≠ 30 → q ≠ 31 → mo2 q = mo q) := fun g60 g62 => by
    have cC : ∀ v : Int32, 0 ≤ v.toInt → v.toInt ≤ 127 → (c = v ↔ C = v) := fun v v0 v1 => by
      rcases sb_toInt _ c2 c3 with ⟨a, b⟩ | ⟨a, b⟩
      · rw [c1, b]
      · rw [c1]; simp only [i_eq]; omega
    rw [sgc_plain ta1 c n (fun e => ⟨fun z => (g60 ((cC 60 (by decide) (by decide)).mp e)).1 (n61.mp z), fun z => (g60 ((cC 60 (by decide) (by decide)).mp e)).2 (n62.mp z)⟩) (fun e z => g62 ((cC 62 (by decide) (by decide)).mp e) (n61.mp z)), sgn_plain m1 C _ N B g60 g62 (by omega)]
    refine ⟨_, _, rfl, rfl, ?_, ?_, up2_s, ?_, ?_, ?_⟩
    · exact h.mv _ _ (mo 28 0 + 1) (by rw [up2_k (by decide), up2_k (by decide), t13]) (by rw [up2_k (by decide), up2_k (by decide), m128]) (by rw [up2_k (by decide), up2_k (by decide)]; exact t1k 0 (by decide)) (by rw [up2_k (by decide), up2_k (by decide)]; exact t1k 2 (by decide)) (by rw [up2_k (by decide), up2_k (by decide)]; exact m1k 1 (by decide)) (by rw [up2_k (by decide), up2_k (by decide)]; exact m1k 27 (by decide)) (by omega) (by omega)
    · rw [up2_k (by decide), up2_k (by decide), m128, t1]; omega
    · rw [up2_k (by decide), up2_s, up2_s, show up2 (up2 ta1 5 0 c) 4 0 3 5 0 = c by rw [up2_k (by decide), up2_s]]
      by_cases d : C = 59 ∨ C = 40 ∨ C = 41 ∨ C = 43 ∨ C = 45 ∨ C = 42 ∨ C = 47 ∨ C = 60 ∨ C = 61 ∨ C = 62
      · rw [if_pos d]
        have hCs : isSg C := by
          unfold isSg
          rcases d with d | d | d | d | d | d | d | d | d | d <;> simp [d]
        have cc : c = C := (cC C c2 (by
          rcases d with d | d | d | d | d | d | d | d | d | d <;> rw [d] <;> decide)).mpr rfl
        exact Or.inl ⟨rfl, cc, by rw [cc]; exact hCs⟩
      · rw [if_neg d]
        have hi : c.toInt ≤ 127 := by
          rcases sb_toInt _ c2 c3 with ⟨a, b⟩ | ⟨a, b⟩
          · rw [c1, b]; exact a
          · rw [c1]; omega
        refine Or.inr ⟨rfl, fun e => d ?_, hi⟩
        unfold isSg at e
        rcases e with e | e | e | e | e | e | e | e | e | e | e | e | e
        · exact Or.inl ((cC _ (by decide) (by decide)).mp e)
        · exact Or.inr (Or.inl ((cC _ (by decide) (by decide)).mp e))
        · exact Or.inr (Or.inr (Or.inl ((cC _ (by decide) (by decide)).mp e)))
        · exact Or.inr (Or.inr (Or.inr (Or.inl ((cC _ (by decide) (by decide)).mp e))))
        · exact Or.inr (Or.inr (Or.inr (Or.inr (Or.inl ((cC _ (by decide) (by decide)).mp e)))))
        · exact Or.inr (Or.inr (Or.inr (Or.inr (Or.inr (Or.inl ((cC _ (by decide) (by decide)).mp e))))))
        · exact Or.inr (Or.inr (Or.inr (Or.inr (Or.inr (Or.inr (Or.inl ((cC _ (by decide) (by decide)).mp e)))))))
        · exact Or.inr (Or.inr (Or.inr (Or.inr (Or.inr (Or.inr (Or.inr (Or.inl ((cC _ (by decide) (by decide)).mp e))))))))
        · exact Or.inr (Or.inr (Or.inr (Or.inr (Or.inr (Or.inr (Or.inr (Or.inr (Or.inl ((cC _ (by decide) (by decide)).mp e)))))))))
        · exact Or.inr (Or.inr (Or.inr (Or.inr (Or.inr (Or.inr (Or.inr (Or.inr (Or.inr ((cC _ (by decide) (by decide)).mp e)))))))))
        · rw [e] at hi; exact absurd hi (by decide)
        · rw [e] at hi; exact absurd hi (by decide)
        · rw [e] at hi; exact absurd hi (by decide)
    · intro q a b d; rw [up2_k b, up2_k d]; exact t1k q a
    · intro q a b d; rw [up2_k d, up2_k b]; exact m1k q a
  have hhR : ∀ v w : Int32, f_Mo_here (up2 (up2 m1 30 0 v) 31 0 w) = some N := fun v w => by rw [here_cg m1 _ (by rw [up2_k (by decide), up2_k (by decide)]) (by rw [up2_k (by decide), up2_k (by decide)]) (by rw [up2_k (by decide), up2_k (by decide)])]; exact B
  have hhR2 : ∀ v w x : Int32, f_Mo_here (up2 (up2 (up2 m1 30 0 v) 31 0 w) 31 0 x) = some N := fun v w x => by rw [here_cg (up2 (up2 m1 30 0 v) 31 0 w) _ (up2_k (by decide)) (up2_k (by decide)) (up2_k (by decide))]; exact hhR v w
  by_cases d60 : C = 60
  · have c60 : c = 60 := by
      rw [d60] at c2 c3 c1
      rcases sb_toInt _ c2 c3 with ⟨a, b⟩ | ⟨a, b⟩
      · rw [c1, b]
      · exact absurd a (by decide)
    by_cases d61 : N = 61
    · have g := two 256 (by unfold isSg; simp) (nlt (Or.inl d61))
      rw [c60, d60] at g ⊢
      have e1 : f_Tape_stepSign_41 60 ta1 n = some (up2 (up2 (up2 (up2 ta1 5 0 60) 4 0 3) 5 0 256) 3 0 ((ta1 3 0) + 1)) := by
        unfold f_Tape_stepSign_41
        rw [if_pos rfl, if_pos (n61.mpr d61), if_neg (by decide)]
      have e2 : f_Mo_sign_76 60 m1 3 = some (up2 (up2 (up2 (up2 m1 30 0 3) 31 0 60) 31 0 256) 28 0 ((m1 28 0) + 1)) := by
        unfold f_Mo_sign_76 f_Mo_sign_128
        rw [if_pos rfl, hhR, Option.bind_some, if_pos d61, if_pos rfl, hhR2, Option.bind_some, d61, if_neg (by decide), if_neg (by decide), up2_s, if_neg (by decide), up2_k (by decide), up2_k (by decide), up2_k (by decide)]
      rw [e1, if_pos (by decide), e2]
      exact g
    · by_cases d62 : N = 62
      · have g := two 257 (by unfold isSg; simp) (nlt (Or.inr d62))
        rw [c60, d60] at g ⊢
        have e1 : f_Tape_stepSign_41 60 ta1 n = some (up2 (up2 (up2 (up2 ta1 5 0 60) 4 0 3) 5 0 257) 3 0 ((ta1 3 0) + 1)) := by
          unfold f_Tape_stepSign_41 f_Tape_stepSign_74
          rw [if_pos rfl, if_neg (fun e => d61 (n61.mp e)), if_pos rfl, if_pos (n62.mpr d62), if_neg (by decide), up2_k (by decide), up2_k (by decide)]
        have e2 : f_Mo_sign_76 60 m1 3 = some (up2 (up2 (up2 (up2 m1 30 0 3) 31 0 60) 31 0 257) 28 0 ((m1 28 0) + 1)) := by
          unfold f_Mo_sign_76 f_Mo_sign_128
          rw [if_pos rfl, hhR, Option.bind_some, if_neg d61, if_pos rfl, Option.bind_some, if_pos d62, if_neg (by decide), up2_s, if_neg (by decide), up2_k (by decide), up2_k (by decide), up2_k (by decide)]
        rw [e1, if_pos (by decide), e2]
        exact g
      · exact one (fun _ => ⟨d61, d62⟩) (fun e => by rw [d60] at e; exact absurd e (by decide))
  · by_cases d62 : C = 62 ∧ N = 61
    · have c62 : c = 62 := by
        rw [d62.1] at c2 c3 c1
        rcases sb_toInt _ c2 c3 with ⟨a, b⟩ | ⟨a, b⟩
        · rw [c1, b]
        · exact absurd a (by decide)
      have g := two 258 (by unfold isSg; simp) (nlt (Or.inl d62.2))
      rw [c62, d62.1] at g ⊢
      have e1 : f_Tape_stepSign_41 62 ta1 n = some (up2 (up2 (up2 (up2 ta1 5 0 62) 4 0 3) 5 0 258) 3 0 ((ta1 3 0) + 1)) := by
        unfold f_Tape_stepSign_41 f_Tape_stepSign_74 f_Tape_stepSign_96
        rw [if_neg (by decide), if_neg (by decide), if_pos rfl, if_pos (n61.mpr d62.2), if_neg (by decide), up2_k (by decide), up2_k (by decide)]
      have e2 : f_Mo_sign_76 62 m1 3 = some (up2 (up2 (up2 (up2 m1 30 0 3) 31 0 62) 31 0 258) 28 0 ((m1 28 0) + 1)) := by
        unfold f_Mo_sign_76 f_Mo_sign_128
        rw [if_neg (by decide), if_neg (by decide), if_pos rfl, hhR, Option.bind_some, if_pos d62.2, up2_k (by decide), up2_k (by decide)]
      rw [e1, if_pos (by decide), e2]
      exact g
    · exact one (fun e => absurd e d60) (fun e z => d62 ⟨e, z⟩)
