theorem noBox_eq {ro mo : jZ} (hp : iPlaces ro mo) (x1 y : Int32) (p : Nat) (e : x1.toInt = p) (h : (p : Int) < (mo 4 0).toInt) : f_Road_hasNoBoxBy ro x1 y = some (if mo 11 p = 0 ∨ y.toInt < (mo 11 p).toInt then 1 else 0) := by
  have P12 := hp.2.2.1
  obtain ⟨-, -, -, ⟨g4, -⟩, -⟩ := hp.2.2.2.2.2.2.2 p h
  unfold f_Road_hasNoBoxBy
  rw [has_is hp, isPlace_eq, if_pos (by omega), Option.bind_some, if_neg (by decide), ix_ok (by omega) (by omega)]
  simp only [Option.bind_some, i_tn, e, Int.toNat_natCast, g4, i_le]
  by_cases c : mo 11 p = 0
  · rw [if_pos c, if_pos (Or.inl c)]
  · rw [if_neg c]
    by_cases d : (mo 11 p).toInt ≤ y.toInt
    · rw [if_pos d, if_neg (by rintro (a | a); exact c a; omega)]
    · rw [if_neg d, if_pos (Or.inr (by omega))]
theorem without_eq (m2 : jZ) (x1 y : Int32) (p : Nat) (e : x1.toInt = p) (h : p < 24) : f_Mo_isWithout m2 x1 y = some (if m2 11 p = 0 ∨ (y + 2).toInt < (m2 11 p).toInt then 1 else 0) := by
  unfold f_Mo_isWithout
  rw [ix_ok (by omega) (by omega)]
  simp only [Option.bind_some, i_tn, e, Int.toNat_natCast, i_le]
  by_cases c : m2 11 p = 0
  · rw [if_pos c, if_pos (Or.inl c)]
  · rw [if_neg c]
    by_cases d : (m2 11 p).toInt ≤ (y + 2).toInt
    · rw [if_pos d, if_neg (by rintro (a | a); exact c a; omega)]
    · rw [if_neg d, if_pos (Or.inr (by omega))]
theorem lt_loop {ro no mo mB : jZ} (hp : iPlaces ro mo) (hn : iNotes no mo) (r3 : mRelA mo mB) (ht : ∀ j, j < 108 → mB 44 j = no 7 j) (x1 x2 : Int32) (fod : jY) : ∀ (n i N1 N2 : Nat) (fa m2 : jZ) (fw fo : Int32), (i : Int) + n = (mo 4 0).toInt → n < N1 → n < N2 → (∀ q, q < 52 → m2 q = mB q) → m2 52 0 = fw → m2 54 0 = fo → m2 53 0 = fa 11 0 → m2 55 0 = fa 12 0 → 0 ≤ (fa 11 0).toInt → (fa 11 0).toInt ≤ i → 0 ≤ (fa 12 0).toInt → (fa 12 0).toInt ≤ i → -27 * i ≤ fw.toInt → fw.toInt ≤ 27 * i → -27 * i ≤ fo.toInt → fo.toInt ≤ 27 * i →
    ∃ (fa2 m3 : jZ) (F G : Int32), f_Falls_seekDealt_19 ro no x1 x2 N1 fa fod fw fo (nI i) = f_Falls_seekDealt_165 ro no x1 x2 fa2 fod F G ∧ f_Mo_lots_22 x1 x2 N2 m2 (nI i) = some m3 ∧ (∀ q, q < 52 → m3 q = mB q) ∧ m3 52 0 = F ∧ m3 54 0 = G ∧ m3 53 0 = fa2 11 0 ∧ m3 55 0 = fa2 12 0 ∧ 0 ≤ (fa2 11 0).toInt ∧ (fa2 11 0).toInt ≤ 12 ∧ 0 ≤ (fa2 12 0).toInt ∧ (fa2 12 0).toInt ≤ 12 ∧ -324 ≤ F.toInt ∧ F.toInt ≤ 324 ∧ -324 ≤ G.toInt ∧ G.toInt ≤ 324 := by
  have e1 : (1 : Int32).toInt = 1 := rfl
  have P0 := hp.2.1
  have P12 := hp.2.2.1
  intro n
  induction n with
  | zero =>
    intro i N1 N2 fa m2 fw fo hi hN1 hN2 hB h52 h54 h53 h55 b1 b2 b3 b4 b5 b6 b7 b8
    obtain ⟨N1, rfl⟩ : ∃ k, N1 = k + 1 := ⟨N1 - 1, by omega⟩
    obtain ⟨N2, rfl⟩ : ∃ k, N2 = k + 1 := ⟨N2 - 1, by omega⟩
    have ti : (nI i).toInt = i := nI_toInt (by omega)
    have q4 : m2 4 = mo 4 := (hB 4 (by decide)).trans (r3 4 (by omega))
    refine ⟨fa, m2, fw, fo, ?_, ?_, hB, h52, h54, h53, h55, b1, by omega, b3, by omega, by omega, by omega, by omega, by omega⟩
    · rw [f_Falls_seekDealt_19]
      by_cases c : 12 ≤ nI i
      · rw [if_pos c]
      · rw [if_neg c, has_is hp, isPlace_eq, if_neg (by rw [ti]; omega), Option.bind_some, if_pos rfl]
    · rw [f_Mo_lots_22, q4, if_pos (by rw [i_le, ti]; omega)]
  | succ n ih =>
    intro i N1 N2 fa m2 fw fo hi hN1 hN2 hB h52 h54 h53 h55 b1 b2 b3 b4 b5 b6 b7 b8
    obtain ⟨N1, rfl⟩ : ∃ k, N1 = k + 1 := ⟨N1 - 1, by omega⟩
    obtain ⟨N2, rfl⟩ : ∃ k, N2 = k + 1 := ⟨N2 - 1, by omega⟩
    have ti : (nI i).toInt = i := nI_toInt (by omega)
    have q4 : m2 4 = mo 4 := (hB 4 (by decide)).trans (r3 4 (by omega))
    have q9 : m2 9 = mo 9 := (hB 9 (by decide)).trans (r3 9 (by omega))
    have q10 : m2 10 = mo 10 := (hB 10 (by decide)).trans (r3 10 (by omega))
    have q11 : m2 11 = mo 11 := (hB 11 (by decide)).trans (r3 11 (by omega))
    have ht2 : ∀ j, j < 108 → m2 44 j = no 7 j := fun j hj => by rw [hB 44 (by decide)]; exact ht j hj
    obtain ⟨-, ⟨g2, -⟩, ⟨g3, -⟩, ⟨g4, -⟩, -⟩ := hp.2.2.2.2.2.2.2 i (by omega)
    obtain ⟨b, a, s1, s2, s3, s4, s6, br, ar⟩ := six_ok (m2 := m2) hn ht2 (nI i) x2 (by omega) (by omega)
    have nb := noBox_eq hp (nI i) (x2 + 2) i ti (by omega)
    have wb := without_eq m2 (nI i) x2 i ti (by omega)
    rw [q11] at wb
    have A : f_Falls_seekDealt_19 ro no x1 x2 (N1 + 1) fa fod fw fo (nI i) = (if ¬ mo 10 i = 0 ∧ mo 9 i = x1 then (if b = -1 ∨ a = -1 then f_Falls_seekDealt_19 ro no x1 x2 N1 (up2 (up2 fa 3 0 b) 4 0 a) fod fw fo (nI (i + 1)) else if mo 11 i = x2 then f_Falls_seekDealt_19 ro no x1 x2 N1 (up2 (up2 (up2 fa 3 0 b) 4 0 a) 11 0 (fa 11 0 + 1)) fod (fw + (b - a)) fo (nI (i + 1)) else if mo 11 i = 0 ∨ (x2 + 2).toInt < (mo 11 i).toInt then f_Falls_seekDealt_19 ro no x1 x2 N1 (up2 (up2 (up2 fa 3 0 b) 4 0 a) 12 0 (fa 12 0 + 1)) fod fw (fo + (b - a)) (nI (i + 1)) else f_Falls_seekDealt_19 ro no x1 x2 N1 (up2 (up2 fa 3 0 b) 4 0 a) fod fw fo (nI (i + 1))) else f_Falls_seekDealt_19 ro no x1 x2 N1 fa fod fw fo (nI (i + 1))) := by
      have z61 : ∀ k, f_Falls_seekDealt_61 ro no x1 x2 k fa fod fw fo (nI i) 0 = k fa fod fw fo (nI (i + 1)) := fun k => by unfold f_Falls_seekDealt_61; rw [if_pos rfl, nI_1]
      rw [f_Falls_seekDealt_19, if_neg (by rw [i_le, ti]; have : (12 : Int32).toInt = 12 := rfl; omega), has_is hp, isPlace_eq, if_pos (by rw [ti]; omega), Option.bind_some, if_neg (by decide), ix_ok (by omega) (by omega)]
      simp only [Option.bind_some, i_tn, ti, Int.toNat_natCast, g2, g3, g4, z61]
      by_cases c : mo 10 i = 0
      · rw [if_pos c, if_neg (fun e => e.1 c)]
      · rw [if_neg c]
        by_cases d : mo 9 i = x1
        · rw [if_pos d, if_pos (show ¬ mo 10 i = 0 ∧ mo 9 i = x1 from ⟨c, d⟩)]
          unfold f_Falls_seekDealt_61
          rw [if_neg (by decide), sums_eq fa (nI i) x2 s1 s2, Option.bind_some, nI_1]
          by_cases e : b = -1 ∨ a = -1
          · simp only [if_pos e, if_true]
          · simp only [if_neg e]
            rw [if_neg (by decide), ix_ok (by omega) (by omega), nb]
            simp only [Option.bind_some, i_tn, ti, Int.toNat_natCast, g4, b10]
            have u11 : up2 (up2 fa 3 0 b) 4 0 a 11 = fa 11 := by rw [up2_k (by decide), up2_k (by decide)]
            have u12 : up2 (up2 fa 3 0 b) 4 0 a 12 = fa 12 := by rw [up2_k (by decide), up2_k (by decide)]
            have u3 : up2 (up2 fa 3 0 b) 4 0 a 3 0 = b := by rw [up2_k (by decide), up2_s]
            have u4 : up2 (up2 fa 3 0 b) 4 0 a 4 0 = a := up2_s
            rw [u11, u12, u3, u4]
            by_cases f : mo 11 i = x2
            · rw [if_pos f, if_pos f]
            · rw [if_neg f, if_neg f]
              by_cases g : mo 11 i = 0 ∨ (x2 + 2).toInt < (mo 11 i).toInt
              · rw [if_neg (fun e => e g), if_pos g]
              · rw [if_pos g, if_neg g]
        · rw [if_neg d, if_neg (fun e => d e.2)]
    have B : f_Mo_lots_22 x1 x2 (N2 + 1) m2 (nI i) = (if ¬ mo 10 i = 0 ∧ mo 9 i = x1 then (if b = -1 ∨ a = -1 then f_Mo_lots_22 x1 x2 N2 m2 (nI (i + 1)) else if mo 11 i = x2 then f_Mo_lots_22 x1 x2 N2 (up2 (up2 m2 52 0 (fw + (b - a))) 53 0 (fa 11 0 + 1)) (nI (i + 1)) else if mo 11 i = 0 ∨ (x2 + 2).toInt < (mo 11 i).toInt then f_Mo_lots_22 x1 x2 N2 (up2 (up2 m2 54 0 (fo + (b - a))) 55 0 (fa 12 0 + 1)) (nI (i + 1)) else f_Mo_lots_22 x1 x2 N2 m2 (nI (i + 1))) else f_Mo_lots_22 x1 x2 N2 m2 (nI (i + 1))) := by
      rw [f_Mo_lots_22, q4, if_neg (by rw [i_le, ti]; omega), ix_ok (by omega) (by omega)]
      simp only [Option.bind_some, i_tn, ti, Int.toNat_natCast, q9, q10, q11, s6, s3, s4, wb, nI_1, h52, h53, h54, h55, b10]
      by_cases c : mo 10 i = 0
      · rw [if_pos c, if_neg (fun e => e.1 c)]
      · rw [if_neg c]
        by_cases d : mo 9 i = x1
        · rw [if_pos d, if_pos (show ¬ mo 10 i = 0 ∧ mo 9 i = x1 from ⟨c, d⟩)]
          by_cases e : b = -1 ∨ a = -1
          · simp only [if_pos e, if_true]
          · simp only [if_neg e]
            rw [if_neg (by decide)]
            by_cases f : mo 11 i = x2
            · rw [if_pos f, if_pos f]
            · rw [if_neg f, if_neg f]
              by_cases g : mo 11 i = 0 ∨ (x2 + 2).toInt < (mo 11 i).toInt
              · rw [if_neg (fun e => e g), if_pos g]
              · rw [if_pos g, if_neg g]
        · rw [if_neg d, if_neg (fun e => d e.2)]
    rw [A, B]
    have u11 : up2 (up2 fa 3 0 b) 4 0 a 11 = fa 11 := by rw [up2_k (by decide), up2_k (by decide)]
    have u12 : up2 (up2 fa 3 0 b) 4 0 a 12 = fa 12 := by rw [up2_k (by decide), up2_k (by decide)]
    by_cases c : ¬ mo 10 i = 0 ∧ mo 9 i = x1
    · rw [if_pos c, if_pos c]
      by_cases e : b = -1 ∨ a = -1
      · rw [if_pos e, if_pos e]
        exact ih (i + 1) N1 N2 _ m2 fw fo (by omega) (by omega) (by omega) hB h52 h54 (by rw [u11]; exact h53) (by rw [u12]; exact h55) (by rw [u11]; omega) (by rw [u11]; omega) (by rw [u12]; omega) (by rw [u12]; omega) (by omega) (by omega) (by omega) (by omega)
      · rw [if_neg e, if_neg e]
        have hbr : 0 ≤ b.toInt ∧ b.toInt ≤ 27 := br.resolve_left (fun q => e (Or.inl q))
        have har : 0 ≤ a.toInt ∧ a.toInt ≤ 27 := ar.resolve_left (fun q => e (Or.inr q))
        have t1 : (b - a).toInt = b.toInt - a.toInt := i_sub (by omega) (by omega)
        have t2 : (fw + (b - a)).toInt = fw.toInt + (b.toInt - a.toInt) := by rw [i_add (by omega) (by omega), t1]
        have t3 : (fo + (b - a)).toInt = fo.toInt + (b.toInt - a.toInt) := by rw [i_add (by omega) (by omega), t1]
        have t4 : (fa 11 0 + 1).toInt = (fa 11 0).toInt + 1 := by rw [i_add (by omega) (by omega), e1]
        have t5 : (fa 12 0 + 1).toInt = (fa 12 0).toInt + 1 := by rw [i_add (by omega) (by omega), e1]
        by_cases f : mo 11 i = x2
        · rw [if_pos f, if_pos f]
          refine ih (i + 1) N1 N2 _ _ (fw + (b - a)) fo (by omega) (by omega) (by omega) (fun q hq => by rw [up2_k (by omega), up2_k (by omega)]; exact hB q hq) (by rw [up2_k (by decide), up2_s]) (by rw [up2_k (by decide), up2_k (by decide)]; exact h54) (by rw [up2_s, up2_s]) (by rw [up2_k (by decide), up2_k (by decide), up2_k (by decide), u12]; exact h55) ?_ ?_ ?_ ?_ (by omega) (by omega) (by omega) (by omega)
          · rw [up2_s]; omega
          · rw [up2_s]; omega
          · rw [up2_k (by decide), u12]; omega
          · rw [up2_k (by decide), u12]; omega
        · rw [if_neg f, if_neg f]
          by_cases g : mo 11 i = 0 ∨ (x2 + 2).toInt < (mo 11 i).toInt
          · rw [if_pos g, if_pos g]
            refine ih (i + 1) N1 N2 _ _ fw (fo + (b - a)) (by omega) (by omega) (by omega) (fun q hq => by rw [up2_k (by omega), up2_k (by omega)]; exact hB q hq) (by rw [up2_k (by decide), up2_k (by decide)]; exact h52) (by rw [up2_k (by decide), up2_s]) (by rw [up2_k (by decide), up2_k (by decide), up2_k (by decide), u11]; exact h53) (by rw [up2_s, up2_s]) ?_ ?_ ?_ ?_ (by omega) (by omega) (by omega) (by omega)
            · rw [up2_k (by decide), u11]; omega
            · rw [up2_k (by decide), u11]; omega
            · rw [up2_s]; omega
            · rw [up2_s]; omega
          · rw [if_neg g, if_neg g]
            exact ih (i + 1) N1 N2 _ m2 fw fo (by omega) (by omega) (by omega) hB h52 h54 (by rw [u11]; exact h53) (by rw [u12]; exact h55) (by rw [u11]; omega) (by rw [u11]; omega) (by rw [u12]; omega) (by rw [u12]; omega) (by omega) (by omega) (by omega) (by omega)
    · rw [if_neg c, if_neg c]
      exact ih (i + 1) N1 N2 fa m2 fw fo (by omega) (by omega) (by omega) hB h52 h54 h53 h55 b1 (by omega) b3 (by omega) (by omega) (by omega) (by omega) (by omega)
theorem prod_bd {a b A B : Int} (h1 : -A ≤ a) (h2 : a ≤ A) (h3 : 0 ≤ b) (h4 : b ≤ B) : -(A * B) ≤ a * b ∧ a * b ≤ A * B := by
  have hA : 0 ≤ A := by omega
  have x1 : a * b ≤ A * b := Int.mul_le_mul_of_nonneg_right h2 h3
  have x2 : A * b ≤ A * B := Int.mul_le_mul_of_nonneg_left h4 hA
  have x3 : (-A) * b ≤ a * b := Int.mul_le_mul_of_nonneg_right h1 h3
  rw [Int.neg_mul] at x3
  omega
/-- lot -/
theorem op_lot {ro no mo fa : jZ} {fod my : jY} (hp : iPlaces ro mo) (hn : iNotes no mo) (x1 x2 x3 : Int32) : ∃ fa2 fod2 m2 my2 r, f_WP_lot ro no fa fod x1 x2 x3 = some (fa2, fod2, r) ∧ f_Mo_lot mo my x1 x2 x3 = some (m2, my2, r) ∧ mRel mo m2 := by
  have e0 : (0 : Int32).toInt = 0 := rfl
  have e1 : (1 : Int32).toInt = 1 := rfl
  have e2 : (2 : Int32).toInt = 2 := rfl
  have e3 : (3 : Int32).toInt = 3 := rfl
  have e6 : (6 : Int32).toInt = 6 := rfl
  have e9 : (9 : Int32).toInt = 9 := rfl
  have P0 := hp.2.1
  have P12 := hp.2.2.1
  obtain ⟨m2, g1, g2, g3, g4⟩ := knows_i (hn.to (m0 mo 0 0))
  obtain ⟨fa2, m3, F, G, q1, q2, q3, q4, q5, q6, q7, c1, c2, c3, c4, c5, c6, c7, c8⟩ := lt_loop hp hn ((m0 mo 0 0).tr g2).A g4 x1 x2 fod (mo 4 0).toInt.toNat 0 FU FU (up2 (up2 fa 11 0 0) 12 0 0) (up2 (up2 (up2 (up2 m2 52 0 0) 53 0 0) 54 0 0) 55 0 0) 0 0 (by omega) (by unfold FU; omega) (by unfold FU; omega) (fun q hq => by rw [up2_k (by omega), up2_k (by omega), up2_k (by omega), up2_k (by omega)]) (by rw [up2_k (by decide), up2_k (by decide), up2_k (by decide), up2_s]) (by rw [up2_k (by decide), up2_s]) (by rw [up2_k (by decide), up2_k (by decide), up2_s, up2_k (by decide), up2_s]) (by rw [up2_s, up2_s]) (by rw [up2_k (by decide), up2_s]; decide) (by rw [up2_k (by decide), up2_s]; decide) (by rw [up2_s]; decide) (by rw [up2_s]; decide) (by decide) (by decide) (by decide) (by decide)
  have rel : mRel mo m3 := fun q hq => by
    rw [q3 q (by unfold mKeep at hq; omega)]; exact ((m0 mo 0 0).tr g2) q hq
  have hs : f_Falls_seekDealt fa fod ro no x1 x2 = f_Falls_seekDealt_165 ro no x1 x2 fa2 fod F G := q1
  have hl : f_Mo_lots m2 x1 x2 = some m3 := q2
  have pw := prod_bd (A := 324) (B := 12) c5 c6 c3 c4
  have po := prod_bd (A := 324) (B := 12) c7 c8 c1 c2
  have pm := prod_bd (A := 12) (B := 12) (by omega) c2 c3 c4
  have t1 : (F * fa2 12 0).toInt = F.toInt * (fa2 12 0).toInt := i_mul (by omega) (by omega)
  have t2 : (G * fa2 11 0).toInt = G.toInt * (fa2 11 0).toInt := i_mul (by omega) (by omega)
  have t3 : (F * fa2 12 0 - G * fa2 11 0).toInt = F.toInt * (fa2 12 0).toInt - G.toInt * (fa2 11 0).toInt := by rw [i_sub (by omega) (by omega), t1, t2]
  have t4 : (fa2 11 0 * fa2 12 0).toInt = (fa2 11 0).toInt * (fa2 12 0).toInt := i_mul (by omega) (by omega)
  have pm0 : 0 ≤ (fa2 11 0).toInt * (fa2 12 0).toInt := Int.mul_nonneg c1 c3
  have L1 : Int32.toInt64 F * Int32.toInt64 (fa2 12 0) - Int32.toInt64 G * Int32.toInt64 (fa2 11 0) = Int32.toInt64 (F * fa2 12 0 - G * fa2 11 0) := by
    have m1 : (Int32.toInt64 F * Int32.toInt64 (fa2 12 0)).toInt = F.toInt * (fa2 12 0).toInt := by rw [l_mul (by rw [i2l, i2l]; omega) (by rw [i2l, i2l]; omega), i2l, i2l]
    have m2 : (Int32.toInt64 G * Int32.toInt64 (fa2 11 0)).toInt = G.toInt * (fa2 11 0).toInt := by rw [l_mul (by rw [i2l, i2l]; omega) (by rw [i2l, i2l]; omega), i2l, i2l]
    apply l_ext; rw [l_sub (by omega) (by omega), m1, m2, i2l, t3]
  have L2 : Int32.toInt64 (fa2 11 0) * Int32.toInt64 (fa2 12 0) = Int32.toInt64 (fa2 11 0 * fa2 12 0) := by
    apply l_ext; rw [l_mul (by rw [i2l, i2l]; omega) (by rw [i2l, i2l]; omega), i2l, i2l, i2l, t4]
  obtain ⟨X, Y, k1, k2, -⟩ := terms_ok fod my (Int32.toInt64 (F * fa2 12 0 - G * fa2 11 0)) (Int32.toInt64 (fa2 11 0 * fa2 12 0)) (by rw [i2l]; omega) (by rw [i2l]; omega) (by rw [i2l]; omega)
  have hs2 : f_Falls_seekDealt fa fod ro no x1 x2 = some (fa2, up2 (up2 fod 2 0 X) 3 0 Y) := by
    rw [hs]; unfold f_Falls_seekDealt_165; rw [k1]; rfl
  have v2 : up2 (up2 fod 2 0 X) 3 0 Y 2 0 = X := by rw [up2_k (by decide), up2_s]
  have v45 : up2 (up2 my 45 0 X) 46 0 Y 45 0 = X := by rw [up2_k (by decide), up2_s]
  have W1 : f_WP_lot ro no fa fod x1 x2 x3 = (if (0 ≤ x1.toInt ∧ x1.toInt ≤ 9) ∧ (3 ≤ x2.toInt ∧ x2.toInt ≤ 6) then (if x3 = 0 then some (fa2, up2 (up2 fod 2 0 X) 3 0 Y, Int64.toInt32 X) else if x3 = 1 then some (fa2, up2 (up2 fod 2 0 X) 3 0 Y, Int64.toInt32 Y) else if x3 = 2 then some (fa2, up2 (up2 fod 2 0 X) 3 0 Y, fa2 11 0) else if x3 = 3 then some (fa2, up2 (up2 fod 2 0 X) 3 0 Y, fa2 12 0) else some (fa2, up2 (up2 fod 2 0 X) 3 0 Y, -2147483648)) else some (fa, fod, -2147483648)) := by
    unfold f_WP_lot
    rw [within_eq, within_eq, hs2]
    simp only [Option.bind_some, b10, e0, e3, e6, e9, v2, up2_s]
    by_cases d1 : 0 ≤ x1.toInt ∧ x1.toInt ≤ 9
    · rw [if_neg (fun e => e d1)]
      by_cases d2 : 3 ≤ x2.toInt ∧ x2.toInt ≤ 6
      · rw [if_neg (fun e => e d2), if_pos (show (0 ≤ x1.toInt ∧ x1.toInt ≤ 9) ∧ (3 ≤ x2.toInt ∧ x2.toInt ≤ 6) from ⟨d1, d2⟩)]
      · rw [if_pos d2, if_neg (fun e => d2 e.2)]
    · rw [if_pos d1, if_neg (fun e => d1 e.1)]
  have k2' : f_Mo_terms my (Int32.toInt64 (m3 52 0) * Int32.toInt64 (m3 55 0) - Int32.toInt64 (m3 54 0) * Int32.toInt64 (m3 53 0)) (Int32.toInt64 (m3 53 0) * Int32.toInt64 (m3 55 0)) = some (up2 (up2 my 45 0 X) 46 0 Y) := by
    rw [q4, q5, q6, q7, L1, L2]; exact k2
  have W2 : f_Mo_lot mo my x1 x2 x3 = (if (0 ≤ x1.toInt ∧ x1.toInt ≤ 9) ∧ (3 ≤ x2.toInt ∧ x2.toInt ≤ 6) then (if x3 = 0 then some (m3, up2 (up2 my 45 0 X) 46 0 Y, Int64.toInt32 X) else if x3 = 1 then some (m3, up2 (up2 my 45 0 X) 46 0 Y, Int64.toInt32 Y) else if x3 = 2 then some (m3, my, fa2 11 0) else if x3 = 3 then some (m3, my, fa2 12 0) else some (up2 mo 0 0 0, my, -2147483648)) else some (up2 mo 0 0 0, my, -2147483648)) := by
    unfold f_Mo_lot
    rw [g1]
    simp only [Option.bind_some, hl, k2', v45, up2_s, i_lt, i_le, i_eq, e0, e1, e2, e3, e6, e9]
    simp only [q6, q7]
    repeat' split
    all_goals first | rfl | (exfalso; omega)
  rw [W1, W2]
  by_cases c : (0 ≤ x1.toInt ∧ x1.toInt ≤ 9) ∧ (3 ≤ x2.toInt ∧ x2.toInt ≤ 6)
  · rw [if_pos c, if_pos c]
    by_cases d0 : x3 = 0
    · rw [if_pos d0, if_pos d0]; exact ⟨_, _, _, _, _, rfl, rfl, rel⟩
    · rw [if_neg d0, if_neg d0]
      by_cases d1 : x3 = 1
      · rw [if_pos d1, if_pos d1]; exact ⟨_, _, _, _, _, rfl, rfl, rel⟩
      · rw [if_neg d1, if_neg d1]
        by_cases d2 : x3 = 2
        · rw [if_pos d2, if_pos d2]; exact ⟨_, _, _, _, _, rfl, rfl, rel⟩
        · rw [if_neg d2, if_neg d2]
          by_cases d3 : x3 = 3
          · rw [if_pos d3, if_pos d3]; exact ⟨_, _, _, _, _, rfl, rfl, rel⟩
          · rw [if_neg d3, if_neg d3]; exact ⟨_, _, _, _, _, rfl, rfl, m0 mo 0 0⟩
  · rw [if_neg c, if_neg c]
    exact ⟨_, _, _, _, _, rfl, rfl, m0 mo 0 0⟩
