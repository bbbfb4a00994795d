theorem BADX {k b o c v m : Nat} {re ta ru mo : jZ} (hT : T ta mo) (h0 : mo 32 0 = 0) (h8 : re 8 0 = 1) (hv : v ≤ 600) (x : Int32) (hx : ¬ x = 0) (RV : f_Reader_readValue re ta ru = some (up2 (up2 re 1 0 x) 2 0 (ta 6 0), ru, 0)) (R : Option jZ) (hR : R = some (up2 (up2 mo 32 0 x) 33 0 (mo 29 0))) : OUTC k b o c v re ta ru mo m R := by
  left
  have LPe := tLP_val (ta := ta) (ru := ru) hv h8
  rw [RV, Option.bind_some] at LPe
  dsimp only at LPe
  rw [if_pos rfl] at LPe
  refine ⟨_, hR, XR.bad (by rw [up2_k (by decide), up2_s]; exact hx) (fun q hq => by rw [up2_k (by omega), up2_k (by omega)]), ?_, _, _, _, LPe, ?_, ?_, fun _ _ => rfl⟩
  · rw [up2_k (by decide), up2_s]; exact hx
  · rw [up2_k (by decide), up2_s, up2_k (by decide), up2_s]
  · rw [up2_s, up2_s, hT.2.1]
theorem PRIM (G : Nat → jZ → Option jZ) (o cB : Nat)
    (H0 : o < 8 → ∀ b c s v m (re ta ru mo : jZ), cB ≤ c → PRE 0 b (o + 1) c s v re ta ru mo → m = s → OUTC 0 b (o + 1) c v re ta ru mo m (G 0 mo)) {b s v m : Nat} {re ta ru mo : jZ} (p : PRE 5 b o cB s v re ta ru mo) (hm : m = s) : OUTC 5 b o cB v re ta ru mo m (f_Mo_primary G mo) := by
  obtain ⟨p1, p2, p3, p4, p5, p6, p7, p8, p9⟩ := id p
  obtain ⟨⟨e5, e6, m6, e7, m7⟩, ⟨hc, ho, hbt⟩, et, ent, es, esn, e22, o1, o2⟩ := id p1
  have hv6 : v ≤ 600 := by have := T_600 p2; omega
  have to : (nI o).toInt = o := nI_toInt (by omega)
  have tb : (nI b).toInt = b := nI_toInt (by omega)
  have i0 : (0 : Int32).toInt = 0 := rfl
  have i1 : (1 : Int32).toInt = 1 := rfl
  have i8 : (8 : Int32).toInt = 8 := rfl
  have i72 : (72 : Int32).toInt = 72 := rfl
  unfold f_Mo_primary
  rw [if_pos p3, msig p2 p3 40 (by unfold isSg; simp), Option.bind_some]
  by_cases c40 : ta 4 0 = 3 ∧ ta 5 0 = 40
  · -- an open bracket
    rw [if_pos c40, if_neg (show ¬ (1 : Int32) = 0 by decide), m6]
    have n0 : ¬ ta 4 0 = 0 := by rw [c40.1]; decide
    have RV : f_Reader_readValue re ta ru = ((f_Reader_putOpen re ta).bind fun q27 => (bz q27.2).bind fun _ => some (q27.1, ru, q27.2)) := by
      unfold f_Reader_readValue
      rw [c40.1, if_neg (by decide), if_neg (by decide)]
      unfold f_Reader_readValue_85
      rw [cwrd, if_neg (by rw [c40.1]; rintro ⟨z, -⟩; exact absurd z (by decide)), Option.bind_some, if_pos rfl, csig, if_pos c40, Option.bind_some, if_neg (by decide)]
    by_cases h8 : o = 8
    · have hp : f_Reader_putOpen re ta = some (up2 (up2 re 1 0 2) 2 0 (ta 6 0), 0) := by
        unfold f_Reader_putOpen
        rw [e6, if_neg (by rw [i_lt]; omega), if_pos (by rw [i_le]; omega)]
        rfl
      refine BADX p2 p3 p4 hv6 2 (by decide) (by rw [RV, hp]; rfl) _ ?_
      have f32 : (up2 (up2 mo 32 0 2) 33 0 (mo 29 0)) 32 0 = 2 := by rw [up2_k (by decide), up2_s]
      rw [if_pos (show nI o = 8 by rw [h8]; rfl), wrong_ok p3, Option.bind_some]
      unfold f_Mo_primary_31
      rw [f32, if_neg (by decide)]
    · rw [if_neg (show ¬ nI o = 8 by rw [i_eq]; omega)]
      unfold f_Mo_primary_31
      rw [if_pos p3, m6, nI_1]
      have hp : f_Reader_putOpen re ta = some (up2 (up2 (up2 (up2 (up2 re 3 b 40) 5 0 (nI (b + 1))) 6 0 (nI (o + 1))) 4 (o + 1) 0) 9 0 1, 1) := by
        have to1 : (nI (o + 1)).toInt = ((o + 1 : Nat) : Int) := nI_toInt (by omega)
        unfold f_Reader_putOpen
        rw [e6, e5, if_neg (by rw [i_lt]; omega), if_neg (by rw [i_le]; omega), if_neg (by rw [i_lt]; omega), if_pos (by rw [i_lt]; omega), nI_1, nI_1, ix_ok (by omega) (by omega), ix_ok (by omega) (by omega), Option.bind_some, Option.bind_some, i_tn, i_tn, tb, to1, Int.toNat_natCast, Int.toNat_natCast]
      have LPe := tLP_val (ta := ta) (ru := ru) hv6 p4
      rw [RV, hp, Option.bind_some] at LPe
      dsimp only at LPe
      rw [bz_ok (Or.inr rfl), Option.bind_some, Option.bind_some] at LPe
      dsimp only at LPe
      rw [if_neg (by decide)] at LPe
      generalize hre : up2 (up2 (up2 (up2 (up2 re 3 b 40) 5 0 (nI (b + 1))) 6 0 (nI (o + 1))) 4 (o + 1) 0) 9 0 1 = re1 at LPe
      have k3b : re1 3 b = 40 := by rw [← hre, up2_k (by decide), up2_k (by decide), up2_k (by decide), up2_k (by decide), up2_s]
      have k3 : ∀ j, j ≠ b → re1 3 j = re 3 j := fun j hj => by rw [← hre, up2_k (by decide), up2_k (by decide), up2_k (by decide), up2_k (by decide), up2_j hj]
      have k4 : ∀ j, j ≠ o + 1 → re1 4 j = re 4 j := fun j hj => by rw [← hre, up2_k (by decide), up2_j hj, up2_k (by decide), up2_k (by decide), up2_k (by decide)]
      have k4o : re1 4 (o + 1) = 0 := by rw [← hre, up2_k (by decide), up2_s]
      have kq : ∀ q, q ≠ 3 → q ≠ 4 → q ≠ 5 → q ≠ 6 → q ≠ 9 → re1 q = re q := fun q a b c d e => by rw [← hre, up2_k e, up2_k b, up2_k d, up2_k c, up2_k a]
      generalize hm1 : up2 mo 36 0 (nI (o + 1)) = m1
      have m1k : ∀ q, q ≠ 36 → m1 q = mo q := fun q hq => by rw [← hm1, up2_k hq]
      obtain ⟨ta1, mo1, s1, s2, s3, s4, s5, s6⟩ := step_ok (tPos_cg p2.1 (m1k 1 (by decide)) (m1k 27 (by decide)) (m1k 28 (by decide)))
      rw [s1, Option.bind_some] at LPe
      rw [m1k 28 (by decide)] at s4
      have pl := tok_ne p2 n0
      have q15 : mo1 15 = mo 15 := by rw [s6 15 (by omega), m1k 15 (by decide)]
      have q16 : mo1 16 = mo 16 := by rw [s6 16 (by omega), m1k 16 (by decide)]
      have npb : np (re1 3) b = np (re 3) b := np_cg (re1 3) (re 3) b (fun j hj => k3 j (by omega))
      have n1 : np (re1 3) (b + 1) = np (re 3) b := by rw [np, k3b, if_pos rfl, npb, Nat.add_zero]
      have pre : PRE 0 (b + 1) (o + 1) cB s (v + 1) re1 ta1 ru mo1 := by
        refine ⟨⟨⟨by rw [← hre, up2_k (by decide), up2_k (by decide), up2_k (by decide), up2_s], by rw [← hre, up2_k (by decide), up2_k (by decide), up2_s], by rw [s6 36 (by omega), ← hm1, up2_s], by rw [kq 7 (by decide) (by decide) (by decide) (by decide) (by decide)]; exact e7, by rw [s6 37 (by omega), m1k 37 (by decide)]; exact m7⟩, ⟨hc, by omega, Nat.le_refl _⟩, by omega, by omega, es, by omega, by rw [s6 22 (by omega), m1k 22 (by decide), e22]; congr 1; omega, fun i hi => by rw [q15, q16]; exact o1 i hi, fun j hj => by omega⟩, s3, by rw [s6 32 (by omega), m1k 32 (by decide)]; exact p3, by rw [kq 8 (by decide) (by decide) (by decide) (by decide) (by decide)]; exact p4, fun _ => by rw [← hre, up2_s], fun h => by omega, Or.inr ?_, fun _ => k4o, by omega⟩
        rw [show b + 1 - 1 = b by omega, k3b]; decide
      have X1 : XR mo mo1 := XR.of (fun q hq => by rw [s6 q (by omega), m1k q (by omega)])
      rw [s2, Option.bind_some]
      rcases H0 (by omega) (b + 1) cB s (v + 1) m re1 ta1 ru mo1 (Nat.le_refl _) pre hm with ⟨mf, f1, f2, f3⟩ | ⟨mo', re', ta', ru', v', c', t', s', f1, f2, f3, f4, f5, f6, f7, f8, f9⟩
      · left
        exact ⟨mf, by rw [f1, Option.bind_some, if_neg f3.1, if_neg f3.1], X1.tr f2, f3.bk LPe s5⟩
      · obtain ⟨e', hT', h0', h8', hrank', hNS', hv'⟩ := f3
        obtain ⟨⟨e5', e6', m6', e7', m7'⟩, ⟨hc', ho', hbt'⟩, et', ent', es', esn', e22', o1', o2'⟩ := id e'
        have hv6' : v' ≤ 600 := by have := T_600 hT'; omega
        have no6 : ¬ re' 6 0 = 0 := by rw [e6', i_eq]; have : (nI (o + 1)).toInt = ((o + 1 : Nat) : Int) := nI_toInt (by omega); omega
        have LP2 := tLP_beh (ta := ta') (ru := ru') hv6' h8' (fun e => absurd e no6)
        have x3 : re' 3 b = 40 := by rw [f4.1 b (by omega)]; exact k3b
        rw [f1, Option.bind_some, if_pos h0', msig hT' h0' 41 (by unfold isSg; simp), Option.bind_some]
        by_cases c41 : ta' 4 0 = 3 ∧ ta' 5 0 = 41
        · -- closed
          right
          rw [if_pos c41, if_neg (by decide), if_pos h0']
          have n0' : ¬ ta' 4 0 = 0 := by rw [c41.1]; decide
          obtain ⟨re2, ru2, g1, g2, g3, g4, g5, g6⟩ := ld_ok 1 (t' - (b + 1)) FU re' ru' (b + 1) t' s' (by omega) (by omega) (by unfold FU; omega) e5' es' (by omega) hrank' (Or.inr (by rw [show b + 1 - 1 = b by omega, x3]; decide))
          have L : f_Reader_layDown re' ru' 1 = some (re2, ru2) := g1
          have to1 : (nI (o + 1)).toInt = ((o + 1 : Nat) : Int) := nI_toInt (by omega)
          have tb1 : (nI (b + 1)).toInt = ((b + 1 : Nat) : Int) := nI_toInt (by omega)
          have sb : nI (b + 1) - 1 = nI b := i_ext (by rw [i_sub (by omega) (by omega), tb1, i1, tb]; omega)
          have so' : nI (o + 1) - 1 = nI o := i_ext (by rw [i_sub (by omega) (by omega), to1, i1, to]; omega)
          have RB : f_Reader_readBehind re' ta' ru' = some (up2 (up2 re2 5 0 (nI b)) 6 0 (nI o), ru2, 1) := by
            unfold f_Reader_readBehind
            rw [csig, if_pos c41, Option.bind_some, if_neg (by decide)]
            unfold f_Reader_putClose
            rw [e6', if_pos (show (0 : Int32) < nI (o + 1) by rw [i_lt]; omega), L, Option.bind_some]
            dsimp only
            rw [g2, g3 6 (by decide), e6', sb, so', Option.bind_some]
            dsimp only
            rw [bz_ok (Or.inr rfl), Option.bind_some]
          rw [RB, Option.bind_some] at LP2
          dsimp only at LP2
          rw [if_neg (by decide)] at LP2
          rw [m6', so']
          generalize hm2 : up2 mo' 36 0 (nI o) = m2
          have m2k : ∀ q, q ≠ 36 → m2 q = mo' q := fun q hq => by rw [← hm2, up2_k hq]
          obtain ⟨ta2, mo2, y1, y2, y3, y4, y5, y6⟩ := step_ok (tPos_cg hT'.1 (m2k 1 (by decide)) (m2k 27 (by decide)) (m2k 28 (by decide)))
          rw [y1, Option.bind_some] at LP2
          rw [m2k 28 (by decide)] at y4
          have pl' := tok_ne hT' n0'
          generalize hr3 : up2 (up2 re2 5 0 (nI b)) 6 0 (nI o) = re3 at LP2
          have k3q : ∀ q, q ≠ 5 → q ≠ 6 → re3 q = re' q := fun q a b => by rw [← hr3, up2_k b, up2_k a, g3 q a]
          have npb' : np (re' 3) b = np (re 3) b := np_cg (re' 3) (re 3) b (fun j hj => by rw [f4.1 j (by omega)]; exact k3 j (by omega))
          have npb1 : np (re' 3) (b + 1) = np (re 3) b := by rw [np, x3, if_pos rfl, npb', Nat.add_zero]
          have z15 : mo2 15 = mo' 15 := by rw [y6 15 (by omega), m2k 15 (by decide)]
          have z16 : mo2 16 = mo' 16 := by rw [y6 16 (by omega), m2k 16 (by decide)]
          rw [y2, Option.bind_some]
          refine ⟨mo2, re3, ta2, ru2, v' + 1, c', b, s' + (t' - (b + 1)), rfl, LPe.trans (f2.trans LP2), ⟨⟨⟨by rw [← hr3, up2_k (by decide), up2_s], by rw [← hr3, up2_s], by rw [y6 36 (by omega), ← hm2, up2_s], by rw [k3q 7 (by decide) (by decide)]; exact e7', by rw [y6 37 (by omega), m2k 37 (by decide)]; exact m7'⟩, ⟨hc', ho, Nat.le_refl _⟩, by rw [k3q 3 (by decide) (by decide), npb']; omega, by rw [k3q 3 (by decide) (by decide)]; omega, g4, by rw [k3q 3 (by decide) (by decide), npb']; omega, by rw [y6 22 (by omega), m2k 22 (by decide), e22']; congr 1; omega, fun i hi => ?_, fun j hj => by omega⟩, y3, by rw [y6 32 (by omega), m2k 32 (by decide)]; exact h0', by rw [k3q 8 (by decide) (by decide)]; exact h8', fun j a d => by omega, ⟨fun h => by omega, fun h => by omega, fun h => by omega, fun h => by omega, fun h => by omega⟩, by omega⟩, ⟨fun j hj => ?_, fun j hj => ?_, ?_, ?_⟩, fun _ => ?_, X1.tr (f6.tr (XR.of (fun q hq => by rw [y6 q (by omega), m2k q (by omega)]))), ?_, fun q hq => by rw [y5 q hq, f8 q hq, s5 q hq], by omega⟩
          · rw [z15, z16]
            by_cases d : i < s'
            · rw [g5 i d]; exact o1' i d
            · have a1 := o2' (i - s') (by omega)
              have a2 := g6 (i - s') (by omega)
              rw [show s' + (i - s') = i by omega] at a2
              rw [a2, show 64 + i = 64 + s' + (i - s') by omega]; exact a1
          · rw [k3q 3 (by decide) (by decide), f4.1 j (by omega)]; exact k3 j (by omega)
          · rw [k3q 4 (by decide) (by decide), f4.2.1 j (by omega)]; exact k4 j (by omega)
          · rw [k3q 1 (by decide) (by decide), f4.2.2.1, kq 1 (by decide) (by decide) (by decide) (by decide) (by decide)]
          · rw [k3q 2 (by decide) (by decide), f4.2.2.2, kq 2 (by decide) (by decide) (by decide) (by decide) (by decide)]
          · rw [k3q 4 (by decide) (by decide), f4.2.1 o (by omega)]; exact k4 o (by omega)
          · rw [show s' + (t' - (b + 1)) + (b - b) = s' + (t' - (b + 1)) by omega]
            exact (f7.cg z15 z16).cgl q15.symm q16.symm
        · -- not closed
          left
          rw [if_neg c41, if_pos rfl, wrong_ok h0', Option.bind_some]
          generalize hmf : up2 (up2 mo' 32 0 1) 33 0 (mo' 29 0) = mf
          have f32 : mf 32 0 = 1 := by rw [← hmf, up2_k (by decide), up2_s]
          have nf : ¬ mf 32 0 = 0 := by rw [f32]; decide
          rw [if_neg nf]
          rw [STUCK hT' (by omega) e6' hNS' c41, Option.bind_some] at LP2
          dsimp only at LP2
          rw [if_pos rfl] at LP2
          have FL : FAIL v' re' ta' ru' mf := ⟨nf, _, _, _, LP2, by rw [up2_k (by decide), up2_s, f32], by rw [up2_s, ← hmf, up2_s, hT'.2.1], fun _ _ => rfl⟩
          exact ⟨mf, rfl, X1.tr (f6.tr (XR.bad nf (fun q hq => by rw [← hmf, up2_k (by omega), up2_k (by omega)]))), FL.bk (LPe.trans f2) (fun q hq => by rw [f8 q hq, s5 q hq])⟩
  · rw [if_neg c40, if_pos rfl]
    -- no bracket
    have W1 : ∀ x, (f_Mo_wrong mo x).bind (fun q57 => (f_Mo_knot q57).bind fun q59 => (if (q59 32 0) = 0 then f_Mo_primary_184 G q59 0 1 else some q59)) = if x = 0 then (f_Mo_wrong mo x).bind (fun q57 => (f_Mo_knot q57).bind fun q59 => (if (q59 32 0) = 0 then f_Mo_primary_184 G q59 0 1 else some q59)) else some (up2 (up2 mo 32 0 x) 33 0 (mo 29 0)) := fun x => by
      by_cases hx : x = 0
      · rw [if_pos hx]
      · rw [if_neg hx, wrong_ok p3, Option.bind_some]
        have nf : ¬ (up2 (up2 mo 32 0 x) 33 0 (mo 29 0)) 32 0 = 0 := by rw [up2_k (by decide), up2_s]; exact hx
        rw [knot_f nf, Option.bind_some, if_neg nf]
    have wz : f_Mo_primary_157 G mo 0 = some (up2 (up2 mo 32 0 1) 33 0 (mo 29 0)) := by
      have nf : ¬ (up2 (up2 mo 32 0 1) 33 0 (mo 29 0)) 32 0 = 0 := by rw [up2_k (by decide), up2_s]; decide
      unfold f_Mo_primary_157
      rw [wrong_ok p3, Option.bind_some, knot_f nf, Option.bind_some, if_neg nf]
    -- the class, where it is no value
    have CB : ¬ ta 4 0 = 2 → (ta 4 0 = 1 → f_Tape_isOfCounts (ta 5 0) = some 0) → f_Reader_readValue re ta ru = some (up2 (up2 re 1 0 1) 2 0 (ta 6 0), ru, 0) := fun h2 hcnt => by
      have Z : f_Reader_readValue_85 ta re ru = some (up2 (up2 re 1 0 1) 2 0 (ta 6 0), ru, 0) := by
        unfold f_Reader_readValue_85
        rw [cwrd, csig, if_neg c40, Option.bind_some, Option.bind_some]
        by_cases cn : ta 4 0 = 1 ∧ ta 5 0 = 486146048
        · rw [if_pos cn, if_neg (by decide), if_pos (p6 (by omega) cn), if_pos rfl]; rfl
        · rw [if_neg cn, if_pos rfl, if_pos rfl]; rfl
      unfold f_Reader_readValue
      rw [if_neg h2]
      by_cases h1 : ta 4 0 = 1
      · rw [if_pos h1, hcnt h1, Option.bind_some, if_pos rfl, Z]
      · rw [if_neg h1, Z]
    obtain ⟨kq, kq1, kq2⟩ : ∃ q : jZ, f_Mo_knot mo = some q ∧ q 31 = mo 31 := by
      by_cases h64 : cB = 64
      · exact ⟨_, knot_bad p3 (by rw [m7, h64]), by rw [up2_k (by decide), up2_k (by decide)]⟩
      · exact ⟨_, knot_ok p3 m7 (by omega), up2_k (by decide)⟩
    have RB : mo 30 0 = 2 ∨ f_Mo_primary_114 G mo 0 = (if mo 30 0 = 0 then (if 10 ≤ mo 31 0 then (f_Mo_knot mo).bind fun q44 => (if (q44 32 0) = 0 then f_Mo_primary_184 G q44 0 1 else some q44) else f_Mo_primary_157 G mo 0) else f_Mo_primary_157 G mo 0) := by
      right
      unfold f_Mo_primary_114
      rw [if_pos rfl]
      unfold f_Mo_primary_137
      rw [if_pos rfl]
      congr 1
    have BAD : ¬ mo 30 0 = 2 → (mo 30 0 = 0 → ¬ 10 ≤ mo 31 0) → ¬ ta 4 0 = 2 → (ta 4 0 = 1 → f_Tape_isOfCounts (ta 5 0) = some 0) → OUTC 5 b o cB v re ta ru mo m (if (mo 30 0) = 2 then f_Mo_primary_114 G mo 1 else f_Mo_primary_114 G mo 0) := fun a1 a2 a3 a4 => by
      refine BADX p2 p3 p4 hv6 1 (by decide) (CB a3 a4) _ ?_
      rw [if_neg a1, RB.resolve_left a1]
      by_cases z : mo 30 0 = 0
      · rw [if_pos z, if_neg (a2 z), wz]
      · rw [if_neg z, wz]
    rcases p2.2.2.2.2 with ⟨a, a'⟩ | ⟨a, a', w, w1, w2, w3⟩ | ⟨a, a', w1, w2⟩ | ⟨a, a'⟩ | ⟨a, a', w1⟩ | ⟨a, a', -⟩ | ⟨a, a', -⟩
    · exact BAD (by rw [a']; decide) (fun e => by rw [a'] at e; exact absurd e (by decide)) (by rw [a]; decide) (fun e => by rw [a] at e; exact absurd e (by decide))
    · have tw : (nI w).toInt = w := nI_toInt (by omega)
      have i10 : (10 : Int32).toInt = 10 := rfl
      by_cases w10 : 10 ≤ w
      · rw [if_neg (by rw [a']; decide), RB.resolve_left (by rw [a']; decide), if_pos a', if_pos (by rw [w3, i_le]; omega)]
        refine VALUE p hm (wv w) 1 (nI w - 10) (kS1 w w1 w10) (by decide) (by rw [a]; decide) ?_ _ ?_
        · unfold f_Reader_readValue
          rw [a, if_neg (by decide), if_pos rfl, w2, ofC w w1, if_pos w10, Option.bind_some, if_neg (by decide)]
        · rw [kq1, Option.bind_some, Option.bind_some]
          by_cases z : kq 32 0 = 0
          · rw [if_pos z, if_pos z]
            unfold f_Mo_primary_184
            rw [if_pos rfl, kq2, w3]
          · rw [if_neg z, if_neg z]
      · exact BAD (by rw [a']; decide) (fun _ => by rw [w3, i_le]; omega) (by rw [a]; decide) (fun _ => by rw [w2, ofC w w1, if_neg w10])
    · exact BAD (by rw [a']; decide) (fun e => by rw [a'] at e; exact absurd e (by decide)) (by rw [a]; decide) (fun _ => nOfC w2)
    · exact BAD (by rw [a']; decide) (fun e => by rw [a'] at e; exact absurd e (by decide)) (by rw [a]; decide) (fun e => by rw [a] at e; exact absurd e (by decide))
    · have i999 : (999 : Int32).toInt = 999 := rfl
      have im : (-1 : Int32).toInt = -1 := rfl
      rw [if_pos a']
      unfold f_Mo_primary_114
      rw [if_neg (show ¬ (1 : Int32) = 0 by decide)]
      rcases w1 with ⟨u1, u2, u3⟩ | ⟨u1, u2, u3⟩
      · rw [if_pos (show mo 31 0 ≤ 999 by rw [i_le]; omega)]
        refine VALUE p hm (-1 - mo 31 0) 0 (mo 31 0) (Or.inl ⟨rfl, u2, u3, by rw [i_sub (by omega) (by omega), im]⟩) (by decide) (by rw [a]; decide) ?_ _ ?_
        · unfold f_Reader_readValue f_Rule_stepOf
          rw [a, if_pos rfl, u1, if_pos (show mo 31 0 ≤ 999 by rw [i_le]; omega), Option.bind_some]
        · unfold f_Mo_primary_137
          rw [if_neg (show ¬ (1 : Int32) = 0 by decide), kq1, Option.bind_some, Option.bind_some]
          by_cases z : kq 32 0 = 0
          · rw [if_pos z, if_pos z, if_neg (show ¬ (1 : Int32) = 0 by decide)]
            unfold f_Mo_primary_184
            rw [if_neg (show ¬ (1 : Int32) = 0 by decide), kq2]
          · rw [if_neg z, if_neg z]
      · have nf : ¬ (up2 (up2 mo 32 0 2) 33 0 (mo 29 0)) 32 0 = 0 := by rw [up2_k (by decide), up2_s]; decide
        refine BADX p2 p3 p4 hv6 2 (by decide) ?_ _ ?_
        · unfold f_Reader_readValue
          rw [a, if_pos rfl, u1, if_neg (show ¬ (1000 : Int32) ≤ 999 by decide)]
          rfl
        · rw [if_neg (show ¬ mo 31 0 ≤ 999 by rw [i_le]; omega), wrong_ok p3, Option.bind_some, knot_f nf, Option.bind_some, if_neg nf]
    · exact BAD (by rw [a']; decide) (fun e => by rw [a'] at e; exact absurd e (by decide)) (by rw [a]; decide) (fun e => by rw [a] at e; exact absurd e (by decide))
    · exact BAD (by rw [a']; decide) (fun e => by rw [a'] at e; exact absurd e (by decide)) (by rw [a]; decide) (fun e => by rw [a] at e; exact absurd e (by decide))
/-- the descent and the pile, phrase by phrase -/
theorem PH : ∀ (d k b o c s v m : Nat) (re ta ru mo : jZ), k ≤ 5 → 7 * (9 - o) + (64 - c) + (6 - k) ≤ d → PRE k b o c s v re ta ru mo → m = s → OUTC k b o c v re ta ru mo m (f_Mo_grp d k mo) := by
  intro d
  induction d with
  | zero => intro k b o c s v m re ta ru mo h1 h2; omega
  | succ d ih =>
    intro k b o c s v m re ta ru mo h1 h2 p hm
    have ho : o ≤ 8 := p.1.2.1.2.1
    have IH : ∀ k', k < k' → k' ≤ 5 → ∀ b c' s v m (re ta ru mo : jZ), c ≤ c' → PRE k' b o c' s v re ta ru mo → m = s → OUTC k' b o c' v re ta ru mo m (f_Mo_grp d k' mo) := fun k' a1 a2 b c' s v m re ta ru mo a3 a4 a5 => ih k' b o c' s v m re ta ru mo a2 (by omega) a4 a5
    have HF : ∀ k', k' ≤ 5 → k < k' ∨ k' = 2 → ∀ mf : jZ, ¬ mf 32 0 = 0 → f_Mo_grp d k' mf = some mf := fun k' a1 a2 mf nf => grp_f nf d k' a1 (by omega)
    have hk : k = 0 ∨ k = 1 ∨ k = 2 ∨ k = 3 ∨ k = 4 ∨ k = 5 := by omega
    rcases hk with h | h | h | h | h | h <;> subst h
    · show OUTC 0 b o c v re ta ru mo m (f_Mo_expression (f_Mo_grp d) mo)
      exact LEVEL (f_Mo_grp d) 0 1 o rfl (by decide) (by decide) 1 (by decide) (by decide) rfl rfl (by decide) (by decide) (fun _ => by decide) (fun h => by omega) (fun h => by omega) c (IH 1 (by omega) (by omega)) (HF 1 (by omega) (Or.inl (by omega))) (f_Mo_expression_4 (f_Mo_grp d)) (st_expr (f_Mo_grp d)) (fun N mf nf => ex4_f _ nf N) p hm
    · show OUTC 1 b o c v re ta ru mo m (f_Mo_conjunction (f_Mo_grp d) mo)
      exact LEVEL (f_Mo_grp d) 1 2 o rfl (by decide) (by decide) 2 (by decide) (by decide) rfl rfl (by decide) (by decide) (fun _ => by decide) (fun h => by omega) (fun h => by omega) c (IH 2 (by omega) (by omega)) (HF 2 (by omega) (Or.inl (by omega))) (f_Mo_conjunction_4 (f_Mo_grp d)) (st_conj (f_Mo_grp d)) (fun N mf nf => co4_f _ nf N) p hm
    · show OUTC 2 b o c v re ta ru mo m (f_Mo_negation (f_Mo_grp d) mo)
      exact NEG (f_Mo_grp d) o c (IH 3 (by omega) (by omega)) (fun b c' s v m re ta ru mo a1 a2 a3 => ih 2 b o c' s v m re ta ru mo (by omega) (by have := a2.1.2.1.1; omega) a2 a3) (HF 3 (by omega) (Or.inl (by omega))) (HF 2 (by omega) (Or.inr rfl)) p hm
    · show OUTC 3 b o c v re ta ru mo m (f_Mo_sum (f_Mo_grp d) mo)
      exact LEVEL (f_Mo_grp d) 3 4 o rfl (by decide) (by decide) 5 (by decide) (by decide) rfl rfl (by decide) (by decide) (fun h => by omega) (fun _ => by decide) (fun _ => by decide) c (IH 4 (by omega) (by omega)) (HF 4 (by omega) (Or.inl (by omega))) (f_Mo_sum_4 (f_Mo_grp d)) (st_sum (f_Mo_grp d)) (fun N mf nf => su4_f _ nf N) p hm
    · show OUTC 4 b o c v re ta ru mo m (f_Mo_product (f_Mo_grp d) mo)
      exact LEVEL (f_Mo_grp d) 4 5 o rfl (by decide) (by decide) 6 (by decide) (by decide) rfl rfl (by decide) (by decide) (fun h => by omega) (fun _ => by decide) (fun _ => by decide) c (IH 5 (by omega) (by omega)) (HF 5 (by omega) (Or.inl (by omega))) (f_Mo_product_4 (f_Mo_grp d)) (st_prod (f_Mo_grp d)) (fun N mf nf => pr4_f _ nf N) p hm
    · show OUTC 5 b o c v re ta ru mo m (f_Mo_primary (f_Mo_grp d) mo)
      exact PRIM (f_Mo_grp d) o c (fun ho8 b c' s v m re ta ru mo a1 a2 a3 => ih 0 b (o + 1) c' s v m re ta ru mo (by omega) (by omega) a2 a3) p hm
