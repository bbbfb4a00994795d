def faEnd (g : jZ) (b a v l wk r : Int32) : jZ := up2 (up2 (up2 (up2 (up2 (up2 (up2 (up2 g 10 0 r) 3 0 b) 4 0 a) 5 0 v) 6 0 (1000 * b - v)) 7 0 (v - l)) 8 0 wk) 9 0 ((((1000 * (b - a)) - (1000 * b - v)) - (v - l)) - wk)
theorem faEnd_r (g : jZ) (b a v l wk r : Int32) : faEnd g b a v l wk r 3 0 = b ∧ faEnd g b a v l wk r 4 0 = a ∧ faEnd g b a v l wk r 5 0 = v ∧ faEnd g b a v l wk r 6 0 = 1000 * b - v ∧ faEnd g b a v l wk r 7 0 = v - l ∧ faEnd g b a v l wk r 8 0 = wk ∧ faEnd g b a v l wk r 9 0 = (((1000 * (b - a)) - (1000 * b - v)) - (v - l)) - wk ∧ faEnd g b a v l wk r 10 0 = r := by
  unfold faEnd
  refine ⟨?_, ?_, ?_, ?_, ?_, ?_, ?_, ?_⟩ <;> simp [up2]
/-- fall -/
theorem op_fall {ro ki no mo fa : jZ} {fod my : jY} (hk : iKinds ki mo) (hp : iPlaces ro mo) (hn : iNotes no mo) (x1 x2 : Int32) : ∃ fa2 fod2 m2 my2 r, f_WP_fall ro ki no fa fod x1 x2 = some (fa2, fod2, r) ∧ f_Mo_fall mo my x1 x2 = some (m2, my2, r) ∧ mRel mo m2 := by
  have i0 : (0 : Int32).toInt = 0 := rfl
  have i1 : (1 : Int32).toInt = 1 := rfl
  have i2 : (2 : Int32).toInt = 2 := rfl
  have i3 : (3 : Int32).toInt = 3 := rfl
  have i4 : (4 : Int32).toInt = 4 := rfl
  have i5 : (5 : Int32).toInt = 5 := rfl
  have i6 : (6 : Int32).toInt = 6 := rfl
  have i7 : (7 : Int32).toInt = 7 := rfl
  have i8 : (8 : Int32).toInt = 8 := rfl
  have P0 := hp.2.1
  have P12 := hp.2.2.1
  by_cases c : 0 ≤ x1.toInt ∧ x1.toInt < (mo 4 0).toInt
  · generalize hP : x1.toInt.toNat = p
    obtain ⟨-, -, -, ⟨g11, r0, r8⟩, ⟨g12, -⟩, ⟨g13, -⟩, -⟩ := hp.2.2.2.2.2.2.2 p (by omega)
    obtain ⟨m2, k1, k2, k3, k4⟩ := knows_i (hn.to (m0 mo 0 0))
    have r3 : mRel mo m2 := (m0 mo 0 0).tr k2
    generalize hs : mo 11 p = s at g11 r0 r8
    have P1 : f_Falls_part fa fod ro ki no x1 = f_Falls_part_18 ro ki no x1 fa fod s := by
      unfold f_Falls_part
      rw [has_is hp, isPlace_eq, if_pos c, Option.bind_some, if_neg (by decide), ix_ok (by omega) (by omega), Option.bind_some, i_tn, hP, g11]
    have W1 : f_WP_fall ro ki no fa fod x1 x2 = (f_Falls_part_18 ro ki no x1 fa fod s).bind fun q4 => (if q4.2.2 = 0 then some (q4.1, q4.2.1, (-2147483648)) else (if x2 = 0 then some (q4.1, q4.2.1, (q4.1 3 0)) else (if x2 = 1 then some (q4.1, q4.2.1, (q4.1 4 0)) else (if x2 = 2 then some (q4.1, q4.2.1, (q4.1 6 0)) else (if x2 = 3 then some (q4.1, q4.2.1, (q4.1 7 0)) else (if x2 = 4 then some (q4.1, q4.2.1, (q4.1 8 0)) else (if x2 = 5 then some (q4.1, q4.2.1, (q4.1 9 0)) else (if x2 = 6 then some (q4.1, q4.2.1, (q4.1 10 0)) else (if x2 = 7 then some (q4.1, q4.2.1, ((q4.1 9 0) - (q4.1 10 0))) else (if x2 = 8 then some (q4.1, q4.2.1, (q4.1 5 0)) else some (q4.1, q4.2.1, (-2147483648)))))))))))) := by
      unfold f_WP_fall
      rw [has_is hp, isPlace_eq, if_pos c, Option.bind_some, if_neg (by decide), P1]
    rw [W1]
    have s11 : m2 11 p = s := by rw [r3 11 (by unfold mKeep; omega)]; exact hs
    have W2 : f_Mo_fall mo my x1 x2 = (if (0 ≤ x2.toInt ∧ x2.toInt ≤ 8) ∧ (3 ≤ s.toInt ∧ s.toInt ≤ 6) then (f_Mo_isSix m2 x1 s).bind fun q13 => (if q13 = 0 then some (m2, my, (-2147483648)) else (f_Mo_sumOf m2 x1 (s - 3)).bind fun q16 => (f_Mo_sumOf m2 x1 s).bind fun q18 => (f_Mo_rates m2 my x1 (s - 3) (s - 1)).bind fun q20 => (if (lg_cmp (q20 46 0) 0) = 0 then f_Mo_fall_133 x1 x2 m2 q20 s q16 q18 (1000 * q16) else (nzl (q20 46 0)).bind fun _ => f_Mo_fall_133 x1 x2 m2 q20 s q16 q18 (Int64.toInt32 ((3000 * (q20 45 0)) / (q20 46 0))))) else some (up2 mo 0 0 0, my, -2147483648)) := by
      unfold f_Mo_fall
      rw [isPlace_eq, show (up2 mo 0 0 0) 4 = mo 4 from up2_k (by decide), if_pos c, Option.bind_some, if_neg (by decide), k1, ix_ok (by omega) (by omega)]
      simp only [Option.bind_some, i_tn, hP, s11, hs, i_lt, i_le, i0, i3, i6, i8]
      repeat' split
      all_goals first | rfl | (exfalso; omega)
    rw [W2]
    by_cases c2 : 3 ≤ s.toInt ∧ s.toInt ≤ 6
    · obtain ⟨fa1, m3, l1, l2, l3, l4, l5, l6, l7, l8, l9⟩ := ld_loop hp hn r3.A k4 s (mo 4 0).toInt.toNat 0 FU FU (up2 (up2 fa 1 0 0) 2 0 0) (up2 (up2 m2 50 0 0) 51 0 0) (by omega) (by unfold FU; omega) (by unfold FU; omega) (fun q hq => by rw [up2_k (by omega), up2_k (by omega)]) (by rw [up2_k (by decide), up2_s, up2_k (by decide), up2_s]) (by rw [up2_s, up2_s]) (by rw [up2_k (by decide), up2_s]; decide) (by rw [up2_k (by decide), up2_s]; decide) (by rw [up2_s]; decide) (by rw [up2_s]; decide)
      have L1 : f_Falls_seekLand fa ro no s = some fa1 := l1
      have L2 : f_Mo_lands m2 s = some m3 := l2
      have r33 : mRel mo m3 := fun q hq => by
        rw [l3 q (by unfold mKeep at hq; omega)]; exact r3 q hq
      have t1 : (x1 + 1).toInt = x1.toInt + 1 := by rw [i_add (by omega) (by omega), i1]
      obtain ⟨fa2, r, v1, v2, v3⟩ := moved_ok hp hn (r33 4 (by unfold mKeep; omega)) (r33 11 (by unfold mKeep; omega)) (fun j hj => by rw [l3 44 (by decide)]; exact k4 j hj) (x1 + 1) s (by omega) l4 l5 l6 l9 l8
      obtain ⟨b, a, s1, s2, s3, s4, s6, br, ar⟩ := six_ok (m2 := m2) hn k4 x1 s (by omega) (by omega)
      generalize H : f_Falls_part_18 ro ki no x1 fa fod s = XX
      unfold f_Falls_part_18 at H
      rw [within_eq, i3, i6, if_pos c2, Option.bind_some, if_neg (by decide), L1, Option.bind_some, v1, Option.bind_some, sums_eq (up2 fa2 10 0 r) x1 s s1 s2, Option.bind_some] at H
      dsimp only at H
      by_cases e : b = -1 ∨ a = -1
      · rw [if_pos e, if_pos rfl] at H
        rw [← H, Option.bind_some, if_pos rfl, s6, if_pos e, Option.bind_some, if_pos rfl]
        by_cases d : (0 ≤ x2.toInt ∧ x2.toInt ≤ 8) ∧ (3 ≤ s.toInt ∧ s.toInt ≤ 6)
        · rw [if_pos d]; exact ⟨_, _, _, _, _, rfl, rfl, r3⟩
        · rw [if_neg d]; exact ⟨_, _, _, _, _, rfl, rfl, m0 mo 0 0⟩
      · rw [if_neg e, if_neg (by decide)] at H
        have hbr : 0 ≤ b.toInt ∧ b.toInt ≤ 27 := br.resolve_left (fun q => e (Or.inl q))
        have har : 0 ≤ a.toInt ∧ a.toInt ≤ 27 := ar.resolve_left (fun q => e (Or.inr q))
        have kb := k1000 hbr.1 hbr.2
        have t3 : (s - 3).toInt = s.toInt - 3 := by rw [i_sub (by omega) (by omega), i3]
        have t4 : (s - 1).toInt = s.toInt - 1 := by rw [i_sub (by omega) (by omega), i1]
        obtain ⟨od2, A, B, q1, q2, q3, q4, q5⟩ := rate_bd (m2 := m2) hk hn (r3 3 (by unfold mKeep; omega)) (r3 6 (by unfold mKeep; omega)) (r3 7 (by unfold mKeep; omega)) k4 p (s.toInt - 3).toNat 3 (by omega) (by omega) (by omega) (by omega) x1 (s - 3) (s - 1) (by omega) (by omega) (by omega) fod my
        obtain ⟨v, w1, w2, w3, w4⟩ := back_ok od2 my A B q2 q3 q5 (1000 * b) (by omega) (by omega)
        have u3 : (up2 (up2 (up2 fa2 10 0 r) 3 0 b) 4 0 a) 3 0 = b := by rw [up2_k (by decide), up2_s]
        have u4 : (up2 (up2 (up2 fa2 10 0 r) 3 0 b) 4 0 a) 4 0 = a := up2_s
        have f1 : (up2 (up2 (up2 (up2 (up2 fa2 10 0 r) 3 0 b) 4 0 a) 5 0 v) 6 0 (1000 * b - v)) 1 = fa1 1 := by
          rw [up2_k (by decide), up2_k (by decide), up2_k (by decide), up2_k (by decide), up2_k (by decide)]; exact v3 1 (by decide) (by decide)
        have f2 : (up2 (up2 (up2 (up2 (up2 fa2 10 0 r) 3 0 b) 4 0 a) 5 0 v) 6 0 (1000 * b - v)) 2 = fa1 2 := by
          rw [up2_k (by decide), up2_k (by decide), up2_k (by decide), up2_k (by decide), up2_k (by decide)]; exact v3 2 (by decide) (by decide)
        obtain ⟨l, y1, y2, y3, y4⟩ := left_ok (up2 (up2 (up2 (up2 (up2 fa2 10 0 r) 3 0 b) 4 0 a) 5 0 v) 6 0 (1000 * b - v)) m3 v (by rw [f1]; exact l4) (by rw [f2]; exact l5) (by rw [f1]; exact l6) (by rw [f2]; exact l9) (by rw [f2]; exact l8) w2 w3
        rw [q1, Option.bind_some, u3, w1, Option.bind_some, y1, Option.bind_some, ix_ok (by omega) (by omega), Option.bind_some, i_tn, hP, g12, g13, within_eq, Option.bind_some] at H
        simp only [Option.bind_some, b10] at H
        have H2 : XX = some (faEnd fa2 b a v l (if s.toInt ≤ (mo 12 p).toInt ∧ (mo 12 p).toInt ≤ (s + 2).toInt then ((v - (v - l)) * mo 13 p) / 10 else 0) r, od2, 1) := by
          rw [← H]
          unfold f_Falls_part_180 faEnd
          by_cases d : s.toInt ≤ (mo 12 p).toInt ∧ (mo 12 p).toInt ≤ (s + 2).toInt
          · rw [if_neg (fun e => e d), if_pos d]; simp [up2]
          · rw [if_pos d, if_neg d]; simp [up2]
        generalize hw : (if s.toInt ≤ (mo 12 p).toInt ∧ (mo 12 p).toInt ≤ (s + 2).toInt then ((v - (v - l)) * mo 13 p) / 10 else 0) = wk at H2
        obtain ⟨z3, z4, z5, z6, z7, z8, z9, z10⟩ := faEnd_r fa2 b a v l wk r
        rw [H2, Option.bind_some]
        dsimp only
        rw [z3, z4, z5, z6, z7, z8, z9, z10, if_neg (by decide)]
        have m12 : m3 12 = mo 12 := r33 12 (by unfold mKeep; omega)
        have m13 : m3 13 = mo 13 := r33 13 (by unfold mKeep; omega)
        have X : ∀ my', f_Mo_fall_133 x1 x2 m2 my' s b a v = f_Mo_fall_189 x1 x2 m3 my' s b a v (v - l) wk := fun my' => by
          unfold f_Mo_fall_133
          rw [L2, Option.bind_some, y2, Option.bind_some, ix_ok (by omega) (by omega)]
          simp only [Option.bind_some, i_tn, hP, m12, m13, i_lt]
          rw [← hw]
          by_cases d1 : (mo 12 p).toInt < s.toInt
          · rw [if_pos d1, if_neg (by omega)]
          · by_cases d2 : (s + 2).toInt < (mo 12 p).toInt
            · rw [if_neg d1, if_pos d2, if_neg (by omega)]
            · rw [if_neg d1, if_neg d2, if_pos (by omega)]
        have Y : (f_Mo_isSix m2 x1 s).bind (fun q13 => (if q13 = 0 then some (m2, my, (-2147483648)) else (f_Mo_sumOf m2 x1 (s - 3)).bind fun q16 => (f_Mo_sumOf m2 x1 s).bind fun q18 => (f_Mo_rates m2 my x1 (s - 3) (s - 1)).bind fun q20 => (if (lg_cmp (q20 46 0) 0) = 0 then f_Mo_fall_133 x1 x2 m2 q20 s q16 q18 (1000 * q16) else (nzl (q20 46 0)).bind fun _ => f_Mo_fall_133 x1 x2 m2 q20 s q16 q18 (Int64.toInt32 ((3000 * (q20 45 0)) / (q20 46 0)))))) = f_Mo_fall_189 x1 x2 m3 (up2 (up2 my 45 0 A) 46 0 B) s b a v (v - l) wk := by
          rw [s6, if_neg e, Option.bind_some, if_neg (by decide), s3, Option.bind_some, s4, Option.bind_some, q4, Option.bind_some, up2_s, show up2 (up2 my 45 0 A) 46 0 B 45 0 = A by rw [up2_k (by decide), up2_s]]
          by_cases d : lg_cmp B 0 = 0
          · rw [if_pos d] at w4
            rw [if_pos d, ← w4, X]
          · rw [if_neg d] at w4
            have d0 : B.toInt ≠ 0 := fun e => d ((lc_eq B 0).mpr (e.trans l0.symm))
            rw [if_neg d, nzl_ok d0, Option.bind_some, ← w4, X]
        rw [Y]
        by_cases d : (0 ≤ x2.toInt ∧ x2.toInt ≤ 8) ∧ (3 ≤ s.toInt ∧ s.toInt ≤ 6)
        · rw [if_pos d]
          unfold f_Mo_fall_189
          rw [v2, Option.bind_some]
          have hx : x2 = 0 ∨ x2 = 1 ∨ x2 = 2 ∨ x2 = 3 ∨ x2 = 4 ∨ x2 = 5 ∨ x2 = 6 ∨ x2 = 7 ∨ x2 = 8 := by
            simp only [i_eq, i0, i1, i2, i3, i4, i5, i6, i7, i8]; omega
          rcases hx with h | h | h | h | h | h | h | h | h <;> subst h <;> exact ⟨_, _, _, _, _, rfl, rfl, r33⟩
        · have d' : ¬ (0 ≤ x2.toInt ∧ x2.toInt ≤ 8) := fun e => d ⟨e, c2⟩
          rw [if_neg d, if_neg (by rw [i_eq]; omega), if_neg (by rw [i_eq]; omega), if_neg (by rw [i_eq]; omega), if_neg (by rw [i_eq]; omega), if_neg (by rw [i_eq]; omega), if_neg (by rw [i_eq]; omega), if_neg (by rw [i_eq]; omega), if_neg (by rw [i_eq]; omega), if_neg (by rw [i_eq]; omega)]
          exact ⟨_, _, _, _, _, rfl, rfl, m0 mo 0 0⟩
    · rw [if_neg (fun e => c2 e.2)]
      have H : f_Falls_part_18 ro ki no x1 fa fod s = some (fa, fod, 0) := by
        unfold f_Falls_part_18
        rw [within_eq, i3, i6, if_neg c2, Option.bind_some, if_pos rfl]
      rw [H, Option.bind_some, if_pos rfl]
      exact ⟨_, _, _, _, _, rfl, rfl, m0 mo 0 0⟩
  · refine ⟨fa, fod, up2 mo 0 0 0, my, -2147483648, ?_, ?_, m0 mo 0 0⟩
    · unfold f_WP_fall
      rw [has_is hp, isPlace_eq, if_neg c, Option.bind_some, if_pos rfl]
    · unfold f_Mo_fall
      rw [isPlace_eq, show (up2 mo 0 0 0) 4 = mo 4 from up2_k (by decide), if_neg c, Option.bind_some, if_pos rfl]
