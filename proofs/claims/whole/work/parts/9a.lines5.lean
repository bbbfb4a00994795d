def cPl (re ta ro : jZ) (P : Nat) : Option (jZ × jZ × jZ × Int32) := ((f_Reader_readNameRoad_names re ta ro (nI P)).bind fun q8 => (if q8.2.2.2 = 0 then some (q8.1, q8.2.1, q8.2.2.1, (0 : Int32)) else (f_Reader_readNumber q8.1 q8.2.1 0 9).bind fun q11 => (if q11.2.2 = (-1) then some (q11.1, q11.2.1, q8.2.2.1, 0) else (ix (nI P) 12).bind fun _ => some (q11.1, q11.2.1, (up2 (up2 q8.2.2.1 9 (Int32.toNatClampNeg (nI P)) q11.2.2) 7 0 ((nI P) + 1)), 1)))).bind fun q25 => (if q25.2.2.2 = 0 then some (q25.1, q25.2.1, q25.2.2.1, 0) else (f_Reader_readMore q25.1 q25.2.1 q25.2.2.1 ((q25.2.2.1 7 0) - 1)).bind fun q28 => some (q28.1, q28.2.1, q28.2.2.1, q28.2.2.2))
theorem oN9 (P : Nat) (m : jZ) (a : Int32) : oR m (up2 (up2 (up2 (up2 (up2 m 9 (12 + P) a) 10 (12 + P) 0) 11 (12 + P) 0) 12 (12 + P) (-1)) 13 (12 + P) 0) := (oN12 P m 9 (by omega) a).tr ((oN12 P _ 10 (by omega) 0).tr ((oN12 P _ 11 (by omega) 0).tr ((oN12 P _ 12 (by omega) (-1)).tr (oN12 P _ 13 (by omega) 0))))
theorem PLACEx {ta mo ro : jZ} (hT : T ta mo) (h0 : mo 32 0 = 0) {P : Nat} (hn : nP ro mo P) (hP : P < 12) (re : jZ) :
    (∃ re' ta' ro' mf, cPl re ta ro P = some (re', ta', ro', 0) ∧ f_Mo_placeLine mo (nI (12 + P)) = some mf ∧ ¬ mf 32 0 = 0 ∧ re' 1 0 = mf 32 0 ∧ re' 2 0 = mf 33 0 ∧ oR mo mf ∧ (∀ q, q < 3 → ta' q = ta q)) ∨
    (∃ ta2 ro2 mo2, cPl re ta ro P = some (re, ta2, ro2, 1) ∧ f_Mo_placeLine mo (nI (12 + P)) = some mo2 ∧ T ta2 mo2 ∧ mo2 32 0 = 0 ∧ nP ro2 mo2 (P + 1) ∧ (mo 29 0).toInt ≤ (mo2 29 0).toInt ∧ (∀ q, q < 3 → ta2 q = ta q) ∧ oR mo mo2 ∧ (∀ q, q < 8 ∨ 13 < q → q ≠ 21 → q < 28 ∨ 31 < q → mo2 q = mo q) ∧ (∀ q, q < 7 → ro2 q = ro q)) := by
  obtain ⟨n1, n2, n3, n4, n5, n6⟩ := id hn
  have t12 : (nI (12 + P)).toInt = ((12 + P : Nat) : Int) := nI_toInt (by omega)
  have tP : (nI P).toInt = P := nI_toInt (by omega)
  have i0 : (0 : Int32).toInt = 0 := rfl
  have i1 : (1 : Int32).toInt = 1 := rfl
  have i9 : (9 : Int32).toInt = 9 := rfl
  have sP : nI (P + 1) - 1 = nI P := i_ext (by rw [i_sub (by rw [nI_toInt (by omega), i1]; omega) (by rw [nI_toInt (by omega), i1]; omega), nI_toInt (by omega), i1, tP]; omega)
  unfold cPl f_Mo_placeLine
  rw [n2, ix_ok (show 0 ≤ (nI (12 + P)).toInt by omega) (by omega)]
  simp only [i_tn, t12, tP, Int.toNat_natCast]
  rcases nameP hT h0 P hP (fun k hk => (n4 k hk).1) re with ⟨x, hx, c1, c2⟩ | ⟨ta1, mo1, c1, c2, c3, c4, c5, c6⟩
  · left
    have nf : ¬ (flt mo x) 32 0 = 0 := by rw [flt_32]; exact hx
    have nf1 : ¬ (up2 (flt mo x) 8 (12 + P) 0) 32 0 = 0 := by rw [up2_k (by decide)]; exact nf
    rw [c1, c2]
    simp only [Option.bind_some, if_true]
    rw [num_f nf1]
    simp only [Option.bind_some, if_true]
    rw [FU1, pl_f _ (by rw [up2_k (by decide), up2_k (by decide), up2_k (by decide), up2_k (by decide), up2_k (by decide)]; exact nf1)]
    refine ⟨_, _, _, _, rfl, rfl, ?_, ?_, ?_, (flt_o mo x).tr ((oN12 P _ 8 (by omega) 0).tr ((oN9 P _ 0).tr (o21 _ _))), fun _ _ => rfl⟩
    · rw [up2_k (by decide), up2_k (by decide), up2_k (by decide), up2_k (by decide), up2_k (by decide), up2_k (by decide)]; exact nf1
    · rw [stp_1, up2_k (by decide), up2_k (by decide), up2_k (by decide), up2_k (by decide), up2_k (by decide), up2_k (by decide), up2_k (by decide), flt_32]
    · rw [stp_2, up2_k (by decide), up2_k (by decide), up2_k (by decide), up2_k (by decide), up2_k (by decide), up2_k (by decide), up2_k (by decide), flt_33, hT.2.1]
  · have hT1 : T ta1 (up2 mo1 8 (12 + P) (mo 31 0)) := T_cg c3 (up2_k (by decide)) (fun q a b => up2_k (by omega))
    have h01 : (up2 mo1 8 (12 + P) (mo 31 0)) 32 0 = 0 := by rw [up2_k (by decide), c6 32 (by omega)]; exact h0
    rw [c1, c2]
    simp only [Option.bind_some]
    rw [if_neg (show ¬ (1 : Int32) = 0 by decide)]
    rcases num_ok hT1 h01 0 9 (by decide) (by decide) with ⟨x, hx, d1, d2⟩ | ⟨ta2, mo2, w, d1, d2, d3, d4, d5, d6, d7, d8⟩
    · left
      have nf : ¬ (flt (up2 mo1 8 (12 + P) (mo 31 0)) x) 32 0 = 0 := by rw [flt_32]; exact hx
      rw [d1, d2]
      simp only [Option.bind_some, if_true]
      rw [FU1, pl_f _ (by rw [up2_k (by decide), up2_k (by decide), up2_k (by decide), up2_k (by decide), up2_k (by decide)]; exact nf)]
      refine ⟨_, _, _, _, rfl, rfl, ?_, ?_, ?_, (oQx c6).tr ((oN12 P _ 8 (by omega) _).tr ((flt_o _ x).tr ((oN9 P _ 0).tr (o21 _ _)))), c5⟩
      · rw [up2_k (by decide), up2_k (by decide), up2_k (by decide), up2_k (by decide), up2_k (by decide), up2_k (by decide)]; exact nf
      · rw [stp_1, up2_k (by decide), up2_k (by decide), up2_k (by decide), up2_k (by decide), up2_k (by decide), up2_k (by decide), flt_32]
      · rw [stp_2, up2_k (by decide), up2_k (by decide), up2_k (by decide), up2_k (by decide), up2_k (by decide), up2_k (by decide), flt_33, hT1.2.1]
    · rw [d1, d2, Option.bind_some, Option.bind_some]
      dsimp only
      rw [if_neg d4, ix_ok (by omega) (by omega), Option.bind_some, Option.bind_some]
      dsimp only
      rw [if_neg (show ¬ (1 : Int32) = 0 by decide), up2_s, nI_1, sP]
      generalize hm : up2 (up2 (up2 (up2 (up2 mo2 9 (12 + P) w) 10 (12 + P) 0) 11 (12 + P) 0) 12 (12 + P) (-1)) 13 (12 + P) 0 = m3
      generalize hr : up2 (up2 (up2 ro 8 P (mo 31 0)) 9 P w) 7 0 (nI (P + 1)) = r3
      have m3k : ∀ q, q < 9 ∨ 13 < q → m3 q = mo2 q := fun q hq => by rw [← hm, up2_k (by omega), up2_k (by omega), up2_k (by omega), up2_k (by omega), up2_k (by omega)]
      have m3j : ∀ q p, p ≠ 12 + P → m3 q p = mo2 q p := fun q p hp => by
        rw [← hm]
        have : ∀ (z : jZ) (k : Nat) (v : Int32), up2 z k (12 + P) v q p = z q p := fun z k v => by
          by_cases e : q = k
          · rw [e, up2_j hp]
          · rw [up2_k e]
        rw [this, this, this, this, this]
      have a9 : m3 9 (12 + P) = w := by rw [← hm, up2_k (by decide), up2_k (by decide), up2_k (by decide), up2_k (by decide), up2_s]
      have a10 : m3 10 (12 + P) = 0 := by rw [← hm, up2_k (by decide), up2_k (by decide), up2_k (by decide), up2_s]
      have a11 : m3 11 (12 + P) = 0 := by rw [← hm, up2_k (by decide), up2_k (by decide), up2_s]
      have a12 : m3 12 (12 + P) = -1 := by rw [← hm, up2_k (by decide), up2_s]
      have a13 : m3 13 (12 + P) = 0 := by rw [← hm, up2_s]
      obtain ⟨z10, z11, z12, z13⟩ := n5 P (Nat.le_refl _) hP
      have rq : ∀ q, q ≠ 7 → q ≠ 8 → q ≠ 9 → r3 q = ro q := fun q a b c => by rw [← hr, up2_k a, up2_k c, up2_k b]
      have r9 : r3 9 P = w := by rw [← hr, up2_k (by decide), up2_s]
      have r8 : r3 8 P = mo 31 0 := by rw [← hr, up2_k (by decide), up2_k (by decide), up2_s]
      have r9' : ∀ p, p ≠ P → r3 9 p = ro 9 p := fun p hp => by rw [← hr, up2_k (by decide), up2_j hp, up2_k (by decide)]
      have r8' : ∀ p, p ≠ P → r3 8 p = ro 8 p := fun p hp => by rw [← hr, up2_k (by decide), up2_k (by decide), up2_j hp]
      have hv : vP r3 m3 P := by
        unfold vP
        rw [r9, a9, a10, a11, a12, a13, rq 10 (by decide) (by decide) (by decide), rq 11 (by decide) (by decide) (by decide), rq 12 (by decide) (by decide) (by decide), rq 13 (by decide) (by decide) (by decide), z10, z11, z12, z13]
        exact ⟨⟨rfl, by omega, by omega⟩, ⟨rfl, Or.inl rfl⟩, ⟨rfl, by decide, by decide⟩, ⟨rfl, by decide, by decide⟩, ⟨rfl, by decide, by decide⟩⟩
      have hf : fc r3 P = 0 := by
        unfold fc
        rw [rq 10 (by decide) (by decide) (by decide), rq 11 (by decide) (by decide) (by decide), rq 12 (by decide) (by decide) (by decide), z10, z11, z12]; rfl
      have hT3 : T ta2 m3 := T_cg d5 (m3k 1 (by omega)) (fun q a b => m3k q (by omega))
      have h03 : m3 32 0 = 0 := by rw [m3k 32 (by omega), d8 32 (by omega)]; exact h01
      have OM : oR mo m3 := by
        rw [← hm]
        exact (oQx c6).tr ((oN12 P _ 8 (by omega) _).tr ((oQx d8).tr (oN9 P mo2 w)))
      rcases more_loop P hP re 3 0 FU FU ta2 r3 m3 rfl (by decide) (by decide) hT3 h03 (by rw [← hr, up2_s]) hv hf with ⟨re', ta', ro', mf, g1, g2, g3, g4, g5, g6, g7⟩ | ⟨ta4, ro4, mo4, g1, g2, g3, g4, g5, g6, g7, g8, g9, g10, g11⟩
      · left
        rw [show f_Reader_readMore re ta2 r3 (nI P) = some (re', ta', ro', 0) from g1, Option.bind_some, g2]
        exact ⟨re', ta', ro', mf, rfl, rfl, g3, g4, g5, OM.tr g6, fun q hq => by rw [g7 q hq, d7 q hq, c5 q hq]⟩
      · right
        rw [show f_Reader_readMore re ta2 r3 (nI P) = some (re, ta4, ro4, 1) from g1, Option.bind_some, g2]
        have m29 : (up2 mo1 8 (12 + P) (mo 31 0)) 29 0 = mo1 29 0 := by rw [up2_k (by decide)]
        rw [m29] at d6
        rw [m3k 29 (by omega)] at g6
        have k8 : ∀ p, mo4 8 p = (up2 mo1 8 (12 + P) (mo 31 0)) 8 p := fun p => by rw [g10 8 (by omega), m3k 8 (by omega), d8 8 (by omega)]
        have kq : ∀ q p, 9 ≤ q → q ≤ 13 → p ≠ 12 + P → mo4 q p = mo q p := fun q p a b c => by
          have e : m3 q p = mo q p := by rw [m3j q p c, d8 q (by omega), up2_k (by omega), c6 q (by omega)]
          by_cases f : q = 9
          · rw [f] at e ⊢; rw [g10 9 (by omega)]; exact e
          · rw [g11 q p (by omega) b c]; exact e
        have k21 : mo4 21 0 = nI P := by rw [g10 21 (by omega), m3k 21 (by omega), d8 21 (by omega), up2_k (by decide), c6 21 (by omega)]; exact n2
        refine ⟨ta4, ro4, _, rfl, rfl, T_cg g3 (up2_k (by decide)) (fun q a b => up2_k (by omega)), by rw [up2_k (by decide)]; exact g4, ⟨?_, ?_, by omega, fun p hp => ⟨?_, ?_⟩, fun p a b => ?_, fun p hp => ?_⟩, by rw [up2_k (by decide)]; omega, fun q hq => by rw [g7 q hq, d7 q hq, c5 q hq], ?_, fun q a b c => ?_, fun q hq => ?_⟩
        · rw [g8 7 (by omega), ← hr, up2_s]
        · rw [up2_s, k21, nI_1]
        · rw [up2_k (by decide), g8 8 (by omega), k8]
          by_cases e : p = P
          · rw [e, r8, up2_s]
          · rw [r8' p e, up2_j (by omega), c6 8 (by omega)]; exact (n4 p (by omega)).1
        · by_cases e : p = P
          · rw [e]; exact g5.cg (fun q _ _ => rfl) (fun q _ _ => by rw [up2_k (by omega)])
          · refine (n4 p (by omega)).2.cg (fun q a b => ?_) (fun q a b => by rw [up2_k (by omega), kq q _ a b (by omega)])
            by_cases f : q = 9
            · rw [f, g8 9 (by omega), r9' p e]
            · rw [g9 q p e, rq q (by omega) (by omega) f]
        · rw [g9 10 p (by omega), g9 11 p (by omega), g9 12 p (by omega), g9 13 p (by omega), rq 10 (by decide) (by decide) (by decide), rq 11 (by decide) (by decide) (by decide), rq 12 (by decide) (by decide) (by decide), rq 13 (by decide) (by decide) (by decide)]
          exact n5 p (by omega) b
        · rw [g8 14 (by omega), rq 14 (by decide) (by decide) (by decide)]; exact n6 p hp
        · refine OM.tr (oR.tr ⟨fun q hq => g10 q (by omega), fun k _ => ⟨by rw [g10 5 (by omega)], by rw [g10 6 (by omega)]⟩, fun j _ => by rw [g10 7 (by omega)], fun q x y p hp => ?_, fun i _ => ⟨by rw [g10 15 (by omega)], by rw [g10 16 (by omega)]⟩⟩ (o21 _ _))
          by_cases e : q < 10
          · rw [g10 q (by omega)]
          · exact g11 q p (by omega) y (by omega)
        · rw [up2_k b, g10 q (by omega), m3k q (by omega), d8 q c, up2_k (by omega), c6 q c]
        · rw [g8 q (by omega), rq q (by omega) (by omega) (by omega)]
/-! saves -/
theorem SAVESx {ta mo ro : jZ} (hT : T ta mo) (h0 : mo 32 0 = 0) (re : jZ) :
    (∃ re' ta' mf, ((f_Reader_readNumber re ta 0 9).bind fun q4 => (if q4.2.2 = (-1) then f_Reader_readSaves_44 q4.1 q4.2.1 ro q4.2.2 (-1) else (f_Reader_readNumber q4.1 q4.2.1 0 9).bind fun q7 => f_Reader_readSaves_44 q7.1 q7.2.1 ro q4.2.2 q7.2.2)) = some (re', ta', ro, 0) ∧ ((f_Mo_numeral mo 0 9).bind fun q35 => (f_Mo_numeral (up2 q35.1 23 0 q35.2) 0 9).bind fun q37 => f_Mo_line_188 (up2 q37.1 24 0 q37.2)) = some mf ∧ ¬ mf 32 0 = 0 ∧ re' 1 0 = mf 32 0 ∧ re' 2 0 = mf 33 0 ∧ oR mo mf ∧ (∀ q, q < 3 → ta' q = ta q)) ∨
    (∃ ta2 mo2 a b, ((f_Reader_readNumber re ta 0 9).bind fun q4 => (if q4.2.2 = (-1) then f_Reader_readSaves_44 q4.1 q4.2.1 ro q4.2.2 (-1) else (f_Reader_readNumber q4.1 q4.2.1 0 9).bind fun q7 => f_Reader_readSaves_44 q7.1 q7.2.1 ro q4.2.2 q7.2.2)) = some (re, ta2, up2 (up2 (up2 ro 4 0 1) 5 0 a) 6 0 b, 1) ∧ ((f_Mo_numeral mo 0 9).bind fun q35 => (f_Mo_numeral (up2 q35.1 23 0 q35.2) 0 9).bind fun q37 => f_Mo_line_188 (up2 q37.1 24 0 q37.2)) = f_Mo_line_188 mo2 ∧ T ta2 mo2 ∧ mo2 32 0 = 0 ∧ mo2 23 0 = a ∧ mo2 24 0 = b ∧ (0 ≤ a.toInt ∧ a.toInt ≤ 9) ∧ (0 ≤ b.toInt ∧ b.toInt ≤ 9) ∧ (mo 29 0).toInt ≤ (mo2 29 0).toInt ∧ (∀ q, q < 3 → ta2 q = ta q) ∧ (∀ q, q ≠ 23 → q ≠ 24 → q < 28 ∨ 31 < q → mo2 q = mo q)) := by
  have i0 : (0 : Int32).toInt = 0 := rfl
  have i9 : (9 : Int32).toInt = 9 := rfl
  have L : ∀ mf : jZ, ¬ mf 32 0 = 0 → f_Mo_line_188 mf = some mf := fun mf nf => by unfold f_Mo_line_188; rw [if_neg nf]
  rcases num_ok hT h0 0 9 (by decide) (by decide) with ⟨x, hx, c1, c2⟩ | ⟨ta1, mo1, a, c1, c2, c3, c4, c5, c6, c7, c8⟩
  · left
    have nf : ¬ (flt mo x) 32 0 = 0 := by rw [flt_32]; exact hx
    have nf1 : ¬ (up2 (flt mo x) 23 0 0) 32 0 = 0 := by rw [up2_k (by decide)]; exact nf
    rw [c1, c2, Option.bind_some, Option.bind_some]
    dsimp only
    rw [if_pos rfl, num_f nf1, Option.bind_some]
    dsimp only
    unfold f_Reader_readSaves_44
    rw [if_pos rfl, L _ (by rw [up2_k (by decide)]; exact nf1)]
    exact ⟨_, _, _, rfl, rfl, by rw [up2_k (by decide)]; exact nf1, by rw [stp_1, up2_k (by decide), up2_k (by decide), flt_32], by rw [stp_2, up2_k (by decide), up2_k (by decide), flt_33, hT.2.1], (flt_o mo x).tr (oR.of (fun q hq => by rw [up2_k (by omega), up2_k (by omega)])), fun _ _ => rfl⟩
  · have hT1 : T ta1 (up2 mo1 23 0 a) := T_cg c5 (up2_k (by decide)) (fun q a b => up2_k (by omega))
    have h01 : (up2 mo1 23 0 a) 32 0 = 0 := by rw [up2_k (by decide), c8 32 (by omega)]; exact h0
    rw [c1, c2, Option.bind_some, Option.bind_some]
    dsimp only
    rw [if_neg c4]
    rcases num_ok hT1 h01 0 9 (by decide) (by decide) with ⟨x, hx, d1, d2⟩ | ⟨ta2, mo2, b, d1, d2, d3, d4, d5, d6, d7, d8⟩
    · left
      have nf : ¬ (flt (up2 mo1 23 0 a) x) 32 0 = 0 := by rw [flt_32]; exact hx
      rw [d1, d2, Option.bind_some, Option.bind_some]
      dsimp only
      unfold f_Reader_readSaves_44
      rw [if_pos rfl, L _ (by rw [up2_k (by decide)]; exact nf)]
      exact ⟨_, _, _, rfl, rfl, by rw [up2_k (by decide)]; exact nf, by rw [stp_1, up2_k (by decide), flt_32], by rw [stp_2, up2_k (by decide), flt_33, hT1.2.1], (oQx c8).tr (oR.of (fun q hq => by rw [up2_k (by omega), flt_q _ x (by omega) (by omega), up2_k (by omega)])), c7⟩
    · right
      rw [d1, d2, Option.bind_some, Option.bind_some]
      dsimp only
      unfold f_Reader_readSaves_44
      rw [if_neg d4]
      rw [show (up2 mo1 23 0 a) 29 0 = mo1 29 0 by rw [up2_k (by decide)]] at d6
      refine ⟨ta2, _, a, b, rfl, rfl, T_cg d5 (up2_k (by decide)) (fun q a b => up2_k (by omega)), by rw [up2_k (by decide), d8 32 (by omega)]; exact h01, by rw [up2_k (by decide), d8 23 (by omega), up2_s], by rw [up2_s], by omega, by omega, by rw [up2_k (by decide)]; omega, fun q hq => by rw [d7 q hq, c7 q hq], fun q x y z => by rw [up2_k y, d8 q z, up2_k x, c8 q z]⟩
