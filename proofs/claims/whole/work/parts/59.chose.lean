theorem sums_eq {no : jZ} {b a : Int32} (fa : jZ) (p x2 : Int32) (hb : f_Notes_sumOf no p (x2 - 3) 3 = some b) (ha : f_Notes_sumOf no p x2 3 = some a) : f_Falls_seekSums fa no p x2 = some (up2 (up2 fa 3 0 b) 4 0 a, if b = -1 ∨ a = -1 then 0 else 1) := by
  unfold f_Falls_seekSums
  rw [hb, ha, Option.bind_some, Option.bind_some]
  by_cases c : b = -1
  · rw [if_pos c, if_pos (Or.inl c)]
  · by_cases d : a = -1
    · rw [if_neg c, if_pos d, if_pos (Or.inr d)]
    · rw [if_neg c, if_neg d, if_neg (fun e => e.elim c d)]
theorem ch_loop {ro no mo m2 : jZ} (hp : iPlaces ro mo) (hn : iNotes no mo) (r3 : mRelA mo m2) (ht : ∀ j, j < 108 → m2 44 j = no 7 j) (x1 x2 : Int32) (fod my : jY) : ∀ (n i N1 N2 : Nat) (fa : jZ) (mc fc : Int32), (i : Int) + n = (mo 4 0).toInt → n < N1 → n < N2 → 0 ≤ mc.toInt → mc.toInt ≤ i → -27 * i ≤ fc.toInt → fc.toInt ≤ 27 * i →
    ∃ (fa2 : jZ) (M F : Int32), f_Falls_seekChosen_8 ro no x1 N1 fa fod mc fc (nI i) = ((f_Odds_reduce fod (Int32.toInt64 F) (Int32.toInt64 M)).bind fun q => some (fa2, q)) ∧ f_Mo_chose_41 x1 x2 N2 m2 my fc mc (nI i) = ((f_Mo_terms my (Int32.toInt64 F) (Int32.toInt64 M)).bind fun q8 => (if x2 = 0 then some (m2, q8, (Int64.toInt32 (q8 45 0))) else some (m2, q8, (Int64.toInt32 (q8 46 0))))) ∧ 0 ≤ M.toInt ∧ -400 ≤ F.toInt ∧ F.toInt ≤ 400 := by
  have e12 : (12 : Int32).toInt = 12 := rfl
  have e1 : (1 : Int32).toInt = 1 := rfl
  have em : (-1 : Int32).toInt = -1 := rfl
  have P0 := hp.2.1
  have P12 := hp.2.2.1
  have q4 : m2 4 = mo 4 := r3 4 (by omega)
  have q10 : m2 10 = mo 10 := r3 10 (by omega)
  have q11 : m2 11 = mo 11 := r3 11 (by omega)
  intro n
  induction n with
  | zero =>
    intro i N1 N2 fa mc fc hi hN1 hN2 h0 hb1 hb2 hb3
    obtain ⟨N1, rfl⟩ : ∃ k, N1 = k + 1 := ⟨N1 - 1, by omega⟩
    obtain ⟨N2, rfl⟩ : ∃ k, N2 = k + 1 := ⟨N2 - 1, by omega⟩
    have ti : (nI i).toInt = i := nI_toInt (by omega)
    refine ⟨fa, mc, fc, ?_, ?_, h0, by omega, by omega⟩
    · rw [f_Falls_seekChosen_8]
      by_cases c : 12 ≤ nI i
      · rw [if_pos c]
      · rw [if_neg c, has_is hp, isPlace_eq, if_neg (by rw [ti]; omega), Option.bind_some, if_pos rfl]
    · rw [f_Mo_chose_41, q4, if_pos (by rw [i_le, ti]; omega)]
  | succ n ih =>
    intro i N1 N2 fa mc fc hi hN1 hN2 h0 hb1 hb2 hb3
    obtain ⟨N1, rfl⟩ : ∃ k, N1 = k + 1 := ⟨N1 - 1, by omega⟩
    obtain ⟨N2, rfl⟩ : ∃ k, N2 = k + 1 := ⟨N2 - 1, by omega⟩
    have ti : (nI i).toInt = i := nI_toInt (by omega)
    obtain ⟨-, -, ⟨g3, -⟩, ⟨g4, -⟩, -⟩ := hp.2.2.2.2.2.2.2 i (by omega)
    obtain ⟨b, a, b1, a1, b2, a2, s6, br, ar⟩ := six_ok (m2 := m2) hn ht (nI i) x1 (by omega) (by omega)
    have A : f_Falls_seekChosen_8 ro no x1 (N1 + 1) fa fod mc fc (nI i) = (if mo 10 i = 0 ∧ mo 11 i = x1 then (if b = -1 ∨ a = -1 then f_Falls_seekChosen_8 ro no x1 N1 (up2 (up2 fa 3 0 b) 4 0 a) fod mc fc (nI (i + 1)) else f_Falls_seekChosen_8 ro no x1 N1 (up2 (up2 fa 3 0 b) 4 0 a) fod (mc + 1) (fc + (b - a)) (nI (i + 1))) else f_Falls_seekChosen_8 ro no x1 N1 fa fod mc fc (nI (i + 1))) := by
      have z50 : ∀ k, f_Falls_seekChosen_50 ro no x1 k fa fod mc fc (nI i) 0 = k fa fod mc fc (nI (i + 1)) := fun k => by unfold f_Falls_seekChosen_50; rw [if_pos rfl, nI_1]
      rw [f_Falls_seekChosen_8, if_neg (by rw [i_le, ti]; omega), has_is hp, isPlace_eq, if_pos (by rw [ti]; omega), Option.bind_some, if_neg (by decide), ix_ok (by omega) (by omega)]
      simp only [Option.bind_some, i_tn, ti, Int.toNat_natCast, g3, g4, z50]
      by_cases c : mo 10 i = 0
      · rw [if_pos c]
        by_cases d : mo 11 i = x1
        · rw [if_pos d, if_pos (show mo 10 i = 0 ∧ mo 11 i = x1 from ⟨c, d⟩)]
          unfold f_Falls_seekChosen_50
          rw [if_neg (by decide), sums_eq fa (nI i) x1 b1 a1, Option.bind_some, nI_1]
          by_cases e : b = -1 ∨ a = -1
          · simp only [if_pos e, if_true]
          · simp only [if_neg e, up2_s]
            rw [if_neg (by decide), up2_k (by decide), up2_s]
        · rw [if_neg d, if_neg (fun e => d e.2)]
      · rw [if_neg c, if_neg (fun e => c e.1)]
    have B : f_Mo_chose_41 x1 x2 (N2 + 1) m2 my fc mc (nI i) = (if mo 10 i = 0 ∧ mo 11 i = x1 then (if b = -1 ∨ a = -1 then f_Mo_chose_41 x1 x2 N2 m2 my fc mc (nI (i + 1)) else f_Mo_chose_41 x1 x2 N2 m2 my (fc + (b - a)) (mc + 1) (nI (i + 1))) else f_Mo_chose_41 x1 x2 N2 m2 my fc mc (nI (i + 1))) := by
      rw [f_Mo_chose_41, q4, if_neg (by rw [i_le, ti]; omega), ix_ok (by omega) (by omega)]
      simp only [Option.bind_some, i_tn, ti, Int.toNat_natCast, q10, q11, s6, b2, a2, nI_1]
      by_cases c : mo 10 i = 0
      · rw [if_pos c]
        by_cases d : mo 11 i = x1
        · rw [if_pos d, if_pos (show mo 10 i = 0 ∧ mo 11 i = x1 from ⟨c, d⟩)]
          by_cases e : b = -1 ∨ a = -1
          · simp only [if_pos e, if_true]
          · simp only [if_neg e]
            rw [if_neg (by decide)]
        · rw [if_neg d, if_neg (fun e => d e.2)]
      · rw [if_neg c, if_neg (fun e => c e.1)]
    rw [A, B]
    by_cases c : mo 10 i = 0 ∧ mo 11 i = x1
    · rw [if_pos c, if_pos c]
      by_cases e : b = -1 ∨ a = -1
      · rw [if_pos e, if_pos e]
        exact ih (i + 1) N1 N2 _ mc fc (by omega) (by omega) (by omega) h0 (by omega) (by omega) (by omega)
      · rw [if_neg e, if_neg e]
        have hbr : 0 ≤ b.toInt ∧ b.toInt ≤ 27 := br.resolve_left (fun q => e (Or.inl q))
        have har : 0 ≤ a.toInt ∧ a.toInt ≤ 27 := ar.resolve_left (fun q => e (Or.inr q))
        have s1 : (b - a).toInt = b.toInt - a.toInt := i_sub (by omega) (by omega)
        have s2 : (fc + (b - a)).toInt = fc.toInt + (b.toInt - a.toInt) := by rw [i_add (by omega) (by omega), s1]
        have s3 : (mc + 1).toInt = mc.toInt + 1 := by rw [i_add (by omega) (by omega), e1]
        exact ih (i + 1) N1 N2 _ (mc + 1) (fc + (b - a)) (by omega) (by omega) (by omega) (by omega) (by omega) (by omega) (by omega)
    · rw [if_neg c, if_neg c]
      exact ih (i + 1) N1 N2 fa mc fc (by omega) (by omega) (by omega) h0 (by omega) (by omega) (by omega)
