theorem NEG (G : Nat → jZ → Option jZ) (o cB : Nat)
    (H3 : ∀ b c s v m (re ta ru mo : jZ), cB ≤ c → PRE 3 b o c s v re ta ru mo → m = s → OUTC 3 b o c v re ta ru mo m (G 3 mo))
    (H2 : ∀ b c s v m (re ta ru mo : jZ), cB < c → PRE 2 b o c s v re ta ru mo → m = s → OUTC 2 b o c v re ta ru mo m (G 2 mo))
    (HF3 : ∀ mf : jZ, ¬ mf 32 0 = 0 → G 3 mf = some mf) (HF2 : ∀ mf : jZ, ¬ mf 32 0 = 0 → G 2 mf = some mf) {b s v m : Nat} {re ta ru mo : jZ} (p : PRE 2 b o cB s v re ta ru mo) (hm : m = s) : OUTC 2 b o cB v re ta ru mo m (f_Mo_negation G mo) := by
  obtain ⟨p1, p2, p3, p4, p5, p6, p7, p8, p9⟩ := id p
  obtain ⟨⟨e5, e6, m6, e7, m7⟩, ⟨hc, ho, hbt⟩, et, ent, es, esn, e22, o1, o2⟩ := id p1
  have hv6 : v ≤ 600 := by have := T_600 p2; omega
  unfold f_Mo_negation
  rw [show (9 : Int32) = nI 9 from rfl, mwrd p2 p3 9 (by decide), Option.bind_some]
  by_cases cn : ta 4 0 = 1 ∧ ta 5 0 = wv 9
  · -- NOT
    rw [if_pos cn, if_neg (show ¬ (1 : Int32) = 0 by decide)]
    have n0 : ¬ ta 4 0 = 0 := by rw [cn.1]; decide
    have LPe := tLP_val (ta := ta) (ru := ru) hv6 p4
    have RV : f_Reader_readValue re ta ru = ((f_Reader_putOnPile re ta 486146048).bind fun q40 => (bz q40.2).bind fun _ => some (q40.1, ru, q40.2)) := by
      unfold f_Reader_readValue
      rw [cn.1, if_neg (by decide), if_pos rfl, cn.2, show f_Tape_isOfCounts (wv 9) = some 0 by decide, Option.bind_some, if_pos rfl]
      unfold f_Reader_readValue_85
      rw [cwrd, if_pos (show ta 4 0 = 1 ∧ ta 5 0 = 486146048 from cn), Option.bind_some, if_neg (by decide), p5 (by omega), if_neg (by decide)]
    rw [RV] at LPe
    by_cases h64 : cB = 64
    · left
      rw [pile_bad ta (by rw [e7, h64]), Option.bind_some] at LPe
      dsimp only at LPe
      rw [bz_ok (Or.inl rfl), Option.bind_some, Option.bind_some] at LPe
      dsimp only at LPe
      rw [if_pos rfl] at LPe
      generalize hmf : up2 (up2 mo 32 0 2) 33 0 (mo 29 0) = mf
      have f32 : mf 32 0 = 2 := by rw [← hmf, up2_k (by decide), up2_s]
      have nf : ¬ mf 32 0 = 0 := by rw [f32]; decide
      refine ⟨mf, ?_, XR.bad nf (fun q hq => by rw [← hmf, up2_k (by omega), up2_k (by omega)]), nf, _, _, _, LPe, ?_, ?_, fun _ _ => rfl⟩
      · rw [knot_bad p3 (by rw [m7, h64]), hmf, Option.bind_some, if_neg nf, HF2 mf nf, Option.bind_some, puts_f nf, Option.bind_some]
      · rw [up2_k (by decide), up2_s, f32]
      · rw [up2_s, ← hmf, up2_s, p2.2.1]
    · rw [pile_ok ta e7 (by omega) e5 (by omega), Option.bind_some] at LPe
      dsimp only at LPe
      rw [bz_ok (Or.inr rfl), Option.bind_some, Option.bind_some] at LPe
      dsimp only at LPe
      rw [if_neg (by decide)] at LPe
      generalize hre : up2 (up2 (up2 re 7 0 (nI (cB + 1))) 3 b 486146048) 5 0 (nI (b + 1)) = re1 at LPe
      have k3b : re1 3 b = wv 9 := by rw [← hre, up2_k (by decide), up2_s]; rfl
      have k3 : ∀ j, j ≠ b → re1 3 j = re 3 j := fun j hj => by rw [← hre, up2_k (by decide), up2_j hj, up2_k (by decide)]
      have kq : ∀ q, q ≠ 3 → q ≠ 5 → q ≠ 7 → re1 q = re q := fun q a b d => by rw [← hre, up2_k b, up2_k a, up2_k d]
      generalize hm1 : up2 mo 37 0 (nI (cB + 1)) = m1
      have m1k : ∀ q, q ≠ 37 → m1 q = mo q := fun q hq => by rw [← hm1, up2_k hq]
      obtain ⟨ta1, mo1, s1, s2, s3, s4, s5, s6⟩ := step_ok (tPos_cg p2.1 (m1k 1 (by decide)) (m1k 27 (by decide)) (m1k 28 (by decide)))
      rw [s1, Option.bind_some] at LPe
      rw [m1k 28 (by decide)] at s4
      have pl := tok_ne p2 n0
      have q15 : mo1 15 = mo 15 := by rw [s6 15 (by omega), m1k 15 (by decide)]
      have q16 : mo1 16 = mo 16 := by rw [s6 16 (by omega), m1k 16 (by decide)]
      have n1 : np (re1 3) (b + 1) = np (re 3) b + 1 := by rw [np, k3b, if_neg (by decide), np_cg (re1 3) (re 3) b (fun j hj => k3 j (by omega))]
      have pre : PRE 2 (b + 1) o (cB + 1) s (v + 1) re1 ta1 ru mo1 := by
        refine ⟨⟨⟨by rw [← hre, up2_s], by rw [kq 6 (by decide) (by decide) (by decide)]; exact e6, by rw [s6 36 (by omega), m1k 36 (by decide)]; exact m6, by rw [← hre, up2_k (by decide), up2_k (by decide), up2_s], by rw [s6 37 (by omega), ← hm1, up2_s]⟩, ⟨by omega, ho, Nat.le_refl _⟩, by omega, by omega, es, by omega, by rw [s6 22 (by omega), m1k 22 (by decide), e22]; congr 1; omega, fun i hi => by rw [q15, q16]; exact o1 i hi, fun j hj => by omega⟩, s3, by rw [s6 32 (by omega), m1k 32 (by decide)]; exact p3, by rw [kq 8 (by decide) (by decide) (by decide)]; exact p4, fun _ => by rw [kq 9 (by decide) (by decide) (by decide)]; exact p5 (by omega), fun h => by omega, Or.inr ?_, fun _ => by rw [kq 4 (by decide) (by decide) (by decide)]; exact p8 (by omega), by omega⟩
        rw [show b + 1 - 1 = b by omega, k3b]; decide
      have X1 : XR mo mo1 := XR.of (fun q hq => by rw [s6 q (by omega), m1k q (by omega)])
      rw [knot_ok p3 m7 (by omega), hm1, Option.bind_some, if_pos (by rw [m1k 32 (by decide)]; exact p3), s2, Option.bind_some]
      rcases H2 (b + 1) (cB + 1) s (v + 1) m re1 ta1 ru mo1 (by omega) pre hm with ⟨mf, f1, f2, f3⟩ | ⟨mo', re', ta', ru', v', c', t', s', f1, f2, f3, f4, f5, f6, f7, f8, f9⟩
      · left
        exact ⟨mf, by rw [f1, Option.bind_some, puts_f f3.1, Option.bind_some], X1.tr f2, f3.bk LPe s5⟩
      · right
        obtain ⟨e', hT', h0', h8', hrank', hNS', hv'⟩ := f3
        have x3 : re' 3 b = wv 9 := by rw [f4.1 b (by omega)]; exact k3b
        have e22' := e'.2.2.2.2.2.2.1
        have kS : kStep (wv 9) 2 260 := Or.inr (Or.inr ⟨rfl, by decide⟩)
        obtain ⟨P1, P2⟩ := puts_ES e' x3 kS (s' + (t' - (b + 1))) rfl
        have hbt' := e'.2.1.2.2
        generalize hM : up2 (up2 (up2 mo' 15 (64 + (s' + (t' - (b + 1)))) 2) 16 (64 + (s' + (t' - (b + 1)))) 260) 22 0 (nI ((s' + (t' - (b + 1))) + 1)) = M at P1
        have Mk : ∀ q, q ≠ 15 → q ≠ 16 → q ≠ 22 → M q = mo' q := fun q a b d => by rw [← hM, up2_k d, up2_k b, up2_k a]
        have M15 : ∀ j, j ≠ 64 + (s' + (t' - (b + 1))) → M 15 j = mo' 15 j := fun j hj => by rw [← hM, up2_k (by decide), up2_k (by decide), up2_j hj]
        have M16 : ∀ j, j ≠ 64 + (s' + (t' - (b + 1))) → M 16 j = mo' 16 j := fun j hj => by rw [← hM, up2_k (by decide), up2_j hj, up2_k (by decide)]
        refine ⟨M, re', ta', ru', v', c', t', s', by rw [f1, Option.bind_some, puts_ok h0' e22' P2, Option.bind_some, hM], LPe.trans f2, ⟨P1, ?_, by rw [Mk 32 (by decide) (by decide) (by decide)]; exact h0', h8', fun j a d => ?_, hNS', by rw [Mk 29 (by decide) (by decide) (by decide)]; exact hv'⟩, ⟨fun j hj => ?_, fun j hj => ?_, ?_, ?_⟩, fun h => by omega, ?_, ?_, fun q hq => (f8 q hq).trans (s5 q hq), by omega⟩
        · obtain ⟨y1, y2, y3, y4, y5⟩ := hT'
          refine ⟨tPos_cg y1 (Mk 1 (by decide) (by decide) (by decide)) (Mk 27 (by decide) (by decide) (by decide)) (Mk 28 (by decide) (by decide) (by decide)), ?_, ?_, ?_, ?_⟩
          · rw [Mk 29 (by decide) (by decide) (by decide)]; exact y2
          · rw [Mk 29 (by decide) (by decide) (by decide), Mk 28 (by decide) (by decide) (by decide)]; exact y3
          · rw [Mk 29 (by decide) (by decide) (by decide), Mk 28 (by decide) (by decide) (by decide)]; exact y4
          · rw [Mk 30 (by decide) (by decide) (by decide), Mk 31 (by decide) (by decide) (by decide)]; exact y5
        · by_cases z : j = b
          · rw [z, x3]; decide
          · exact hrank' j (by omega) d
        · rw [f4.1 j (by omega)]; exact k3 j (by omega)
        · rw [f4.2.1 j hj, kq 4 (by decide) (by decide) (by decide)]
        · rw [f4.2.2.1, kq 1 (by decide) (by decide) (by decide)]
        · rw [f4.2.2.2, kq 2 (by decide) (by decide) (by decide)]
        · exact X1.tr (f6.tr ⟨fun q hq => Mk q (by omega) (by omega) (by omega), fun j hj => ⟨M15 j (by omega), M16 j (by omega)⟩, fun e => ⟨by rw [← Mk 32 (by omega) (by omega) (by omega)]; exact e, Mk 33 (by omega) (by omega) (by omega)⟩⟩)
        · rw [show s' + (t' - b) = (s' + (t' - (b + 1))) + 1 by omega]
          exact (f7.cgl q15.symm q16.symm).not (fun j hj => ⟨M15 j (by omega), M16 j (by omega)⟩) (by rw [← hM, up2_k (by decide), up2_k (by decide), up2_s]) (by rw [← hM, up2_k (by decide), up2_s])
  · rw [if_neg cn, if_pos rfl]
    have p' : PRE 3 b o cB s v re ta ru mo := by
      refine ⟨p1, p2, p3, p4, fun h => by omega, fun _ h => absurd h cn, ?_, fun h => by omega, p9⟩
      rcases p7 with h | h
      · exact Or.inl h
      · exact Or.inr (by have h1 : PK 2 = 4 := rfl; have h2 : PK 3 = 5 := rfl; omega)
    rcases H3 b cB s v m re ta ru mo (Nat.le_refl _) p' hm with ⟨mf, f1, f2, f3⟩ | ⟨mo1, re1, ta1, ru1, v1, c1, t1, s1, f1, f2, f3, f4, f5, f6, f7, f8, f9⟩
    · left
      exact ⟨mf, by rw [f1, Option.bind_some, if_neg f3.1], f2, f3⟩
    · obtain ⟨g1, g2, g3, g4, g5, g6, g7⟩ := f3
      have r3 : RK 3 = 5 := rfl
      have c4o : re1 4 o = 0 := by rw [f5 (by omega)]; exact p8 (by omega)
      obtain ⟨ct1, ct2⟩ := cmp_tok g2
      have NX : (if (mo1 32 0) = 0 then (if (mo1 30 0) = 3 then (if (mo1 31 0) = 60 then f_Mo_negation_94 G mo1 else (if (mo1 31 0) = 62 then f_Mo_negation_94 G mo1 else (if (mo1 31 0) = 61 then f_Mo_negation_94 G mo1 else (if 256 ≤ (mo1 31 0) then f_Mo_negation_94 G mo1 else some mo1)))) else some mo1) else some mo1) = if mo1 30 0 = 3 ∧ (mo1 31 0 = 60 ∨ mo1 31 0 = 62 ∨ mo1 31 0 = 61 ∨ 256 ≤ mo1 31 0) then f_Mo_negation_94 G mo1 else some mo1 := by
        rw [if_pos g3]
        by_cases a : mo1 30 0 = 3
        · rw [if_pos a]
          by_cases b1 : mo1 31 0 = 60
          · rw [if_pos b1, if_pos ⟨a, Or.inl b1⟩]
          rw [if_neg b1]
          by_cases b2 : mo1 31 0 = 62
          · rw [if_pos b2, if_pos ⟨a, Or.inr (Or.inl b2)⟩]
          rw [if_neg b2]
          by_cases b3 : mo1 31 0 = 61
          · rw [if_pos b3, if_pos ⟨a, Or.inr (Or.inr (Or.inl b3))⟩]
          rw [if_neg b3]
          by_cases b4 : 256 ≤ mo1 31 0
          · rw [if_pos b4, if_pos ⟨a, Or.inr (Or.inr (Or.inr b4))⟩]
          rw [if_neg b4, if_neg (by rintro ⟨-, z | z | z | z⟩ <;> contradiction)]
        · rw [if_neg a, if_neg (fun z => a z.1)]
      rw [f1, Option.bind_some, NX]
      by_cases cc : mo1 30 0 = 3 ∧ (mo1 31 0 = 60 ∨ mo1 31 0 = 62 ∨ mo1 31 0 = 61 ∨ 256 ≤ mo1 31 0)
      · rw [if_pos cc]
        obtain ⟨w1, w2, w3⟩ := ct1 cc
        have w3' : (rk (ta1 5 0)).toInt = 4 := by rw [w3]; rfl
        have kS : kStep (ta1 5 0) 2 (mo1 31 0) := by
          rw [← w2]
          rcases rk4 w3 with z | z | z | z | z | z <;> rw [z] <;> exact Or.inr (Or.inr ⟨rfl, by decide⟩)
        have nv : ¬ mo1 31 0 = 260 := by
          rw [← w2]
          rcases rk4 w3 with z | z | z | z | z | z <;> rw [z] <;> decide
        have hb : b = 0 ∨ (rk (re1 3 (b - 1))).toInt < 4 := by
          rcases p7 with h | h
          · exact Or.inl h
          · by_cases z : b = 0
            · exact Or.inl z
            · rw [f4.1 (b - 1) (by omega)]; exact Or.inr h
        have B := BS G 3 o 4 (by decide) (by decide) (by decide) (fun h => by omega) (fun _ => by decide) cB (fun b c s v m re ta ru mo h => H3 b c s v m re ta ru mo (by omega)) HF3 (fun z => some z) kS nv f9 ⟨g1, g2, g3, g4, fun j a d => by have := g5 j a d; omega, g6, g7⟩ rfl w3' (Or.inl w1) (fun _ => c4o) hb
        have E94 : f_Mo_negation_94 G mo1 = RBd G 3 (mo1 31 0) (fun z => some z) mo1 := rfl
        rw [E94]
        rcases B with ⟨mf, b1, b2, b3⟩ | ⟨mo3, re3, ta3, ru3, v3, c3, t3, s3, b1, b2, b3, b4, b5, b6, b7, b8, b9, b10⟩
        · left
          exact ⟨mf, b1, f6.tr b2, b3.bk f2 f8⟩
        · right
          obtain ⟨d1, d2, d3, d4, d5, d6, d7⟩ := b3
          refine ⟨mo3, re3, ta3, ru3, v3, c3, t3, s3, b1, f2.trans b2, ⟨d1, d2, d3, d4, fun j a d => by have := d5 j a d; have h1 : RK 2 = 3 := rfl; omega, ⟨fun _ => d6.1 (by omega), fun _ => d6.2.1 (by omega), fun _ _ => by rw [b6 rfl]; decide, fun h => by omega, fun h => by omega⟩, d7⟩, f4.tr b4 (Nat.le_refl _) (Nat.le_refl _), fun h => by omega, f6.tr b7, b8 mo m f7, fun q hq => (b9 q hq).trans (f8 q hq), by omega⟩
      · rw [if_neg cc]
        right
        refine ⟨mo1, re1, ta1, ru1, v1, c1, t1, s1, rfl, f2, ⟨g1, g2, g3, g4, fun j a d => by have := g5 j a d; have h1 : RK 2 = 3 := rfl; omega, ⟨fun _ => g6.1 (by omega), fun _ => g6.2.1 (by omega), fun _ z => absurd (ct2 z) cc, fun h => by omega, fun h => by omega⟩, g7⟩, f4, fun h => by omega, f6, f7, f8, f9⟩
theorem nOfC {v : Int32} (h : ∀ w, w < 17 → ¬ v = wv w) : f_Tape_isOfCounts v = some 0 := by
  unfold f_Tape_isOfCounts
  rw [if_neg (show ¬ v = 117095065 from h 16 (by decide)), if_neg (show ¬ v = 407948928 from h 15 (by decide)), if_neg (show ¬ v = 452579328 from h 14 (by decide)), if_neg (show ¬ v = 518160384 from h 10 (by decide)), if_neg (show ¬ v = 659980288 from h 13 (by decide)), if_neg (show ¬ v = 680072352 from h 12 (by decide)), if_neg (show ¬ v = 695697408 from h 11 (by decide))]
theorem ofC : ∀ w, w < 17 → f_Tape_isOfCounts (wv w) = some (if 10 ≤ w then 1 else 0) := by decide +kernel
theorem kS1 : ∀ w, w < 17 → 10 ≤ w → kStep (wv w) 1 (nI w - 10) := by
  intro w h1 h2
  have : w = 10 ∨ w = 11 ∨ w = 12 ∨ w = 13 ∨ w = 14 ∨ w = 15 ∨ w = 16 := by omega
  rcases this with h | h | h | h | h | h | h <;> subst h <;> exact Or.inr (Or.inl ⟨rfl, by decide⟩)
/-- a value -/
theorem VALUE {b o c s v m : Nat} {re ta ru mo : jZ} (p : PRE 5 b o c s v re ta ru mo) (hm : m = s) (st a x : Int32) (hk : kStep st a x) (ha : ¬ a = 2) (n0 : ¬ ta 4 0 = 0)
    (RV : f_Reader_readValue re ta ru = ((f_Reader_putValue re ta ru st).bind fun q => (bz q.2.2).bind fun _ => some (q.1, q.2.1, q.2.2))) (R : Option jZ)
    (hR : R = ((f_Mo_knot mo).bind fun q => (if (q 32 0) = 0 then (f_Mo_puts q a x).bind fun q1 => (f_Mo_next q1).bind fun q2 => some q2 else some q))) : OUTC 5 b o c v re ta ru mo m R := by
  obtain ⟨p1, p2, p3, p4, p5, p6, p7, p8, p9⟩ := p
  obtain ⟨⟨e5, e6, m6, e7, m7⟩, ⟨hc, ho, hbt⟩, et, ent, es, esn, e22, o1, o2⟩ := id p1
  have hv6 : v ≤ 600 := by have := T_600 p2; omega
  have LPe := tLP_val (ta := ta) (ru := ru) hv6 p4
  have tc : (nI c).toInt = c := nI_toInt (by omega)
  have i64 : (64 : Int32).toInt = 64 := rfl
  rw [RV] at LPe
  unfold f_Reader_putValue at LPe
  rw [e7] at LPe
  rw [hR]
  by_cases h64 : c = 64
  · left
    rw [if_neg (show ¬ nI c < 64 by rw [i_lt]; omega)] at LPe
    generalize hmf : up2 (up2 mo 32 0 2) 33 0 (mo 29 0) = mf
    have f32 : mf 32 0 = 2 := by rw [← hmf, up2_k (by decide), up2_s]
    have nf : ¬ mf 32 0 = 0 := by rw [f32]; decide
    have LPe' : tLP v re ta ru = some (up2 (up2 re 1 0 2) 2 0 (ta 6 0), ta, ru, 0) := LPe
    refine ⟨mf, ?_, XR.bad nf (fun q hq => by rw [← hmf, up2_k (by omega), up2_k (by omega)]), nf, _, _, _, LPe', ?_, ?_, fun _ _ => rfl⟩
    · rw [knot_bad p3 (by rw [m7, h64]), hmf, Option.bind_some, if_neg nf]
    · rw [up2_k (by decide), up2_s, f32]
    · rw [up2_s, ← hmf, up2_s, p2.2.1]
  · right
    have hbb : b - b = 0 := by omega
    rw [if_pos (show nI c < 64 by rw [i_lt]; omega), add_ok ru st s es (by omega), nI_1] at LPe
    simp only [Option.bind_some] at LPe
    rw [bz_ok (Or.inr rfl)] at LPe
    simp only [Option.bind_some] at LPe
    rw [if_neg (by decide)] at LPe
    generalize hre : up2 (up2 re 7 0 (nI (c + 1))) 8 0 0 = re1 at LPe
    generalize hru : up2 (up2 ru 1 s st) 0 0 (nI (s + 1)) = ru1 at LPe
    have kq : ∀ q, q ≠ 7 → q ≠ 8 → re1 q = re q := fun q a b => by rw [← hre, up2_k b, up2_k a]
    generalize hm2 : up2 (up2 (up2 (up2 mo 37 0 (nI (c + 1))) 15 (64 + s) a) 16 (64 + s) x) 22 0 (nI (s + 1)) = m2
    have m2k : ∀ q, q ≠ 15 → q ≠ 16 → q ≠ 22 → q ≠ 37 → m2 q = mo q := fun q a b d e => by rw [← hm2, up2_k d, up2_k b, up2_k a, up2_k e]
    have m15 : ∀ j, j ≠ 64 + s → m2 15 j = mo 15 j := fun j hj => by rw [← hm2, up2_k (by decide), up2_k (by decide), up2_j hj, up2_k (by decide)]
    have m16 : ∀ j, j ≠ 64 + s → m2 16 j = mo 16 j := fun j hj => by rw [← hm2, up2_k (by decide), up2_j hj, up2_k (by decide), up2_k (by decide)]
    have m15s : m2 15 (64 + s) = a := by rw [← hm2, up2_k (by decide), up2_k (by decide), up2_s]
    have m16s : m2 16 (64 + s) = x := by rw [← hm2, up2_k (by decide), up2_s]
    obtain ⟨ta1, mo3, s1, s2, s3, s4, s5, s6⟩ := step_ok (tPos_cg p2.1 (m2k 1 (by decide) (by decide) (by decide) (by decide)) (m2k 27 (by decide) (by decide) (by decide) (by decide)) (m2k 28 (by decide) (by decide) (by decide) (by decide)))
    rw [s1, Option.bind_some] at LPe
    rw [m2k 28 (by decide) (by decide) (by decide) (by decide)] at s4
    have pl := tok_ne p2 n0
    have ref : ((f_Mo_knot mo).bind fun q => (if (q 32 0) = 0 then (f_Mo_puts q a x).bind fun q1 => (f_Mo_next q1).bind fun q2 => some q2 else some q)) = some mo3 := by
      rw [knot_ok p3 m7 (by omega), Option.bind_some, if_pos (by rw [up2_k (by decide)]; exact p3), puts_ok (m := s) (by rw [up2_k (by decide)]; exact p3) (by rw [up2_k (by decide), e22]; congr 1; omega) (by omega), Option.bind_some, hm2, s2, Option.bind_some]
    refine ⟨mo3, re1, ta1, ru1, v + 1, c + 1, b, s + 1, ref, LPe, ⟨⟨⟨by rw [kq 5 (by decide) (by decide)]; exact e5, by rw [kq 6 (by decide) (by decide)]; exact e6, by rw [s6 36 (by omega), m2k 36 (by decide) (by decide) (by decide) (by decide)]; exact m6, by rw [← hre, up2_k (by decide), up2_s], by rw [s6 37 (by omega), ← hm2, up2_k (by decide), up2_k (by decide), up2_k (by decide), up2_s]⟩, ⟨by omega, ho, Nat.le_refl _⟩, by rw [kq 3 (by decide) (by decide)]; exact et, by rw [kq 3 (by decide) (by decide)]; exact ent, by rw [← hru, up2_s], by rw [kq 3 (by decide) (by decide)]; omega, by rw [s6 22 (by omega), ← hm2, up2_s]; congr 1; omega, fun i hi => ?_, fun j hj => by omega⟩, s3, by rw [s6 32 (by omega), m2k 32 (by decide) (by decide) (by decide) (by decide)]; exact p3, by rw [← hre, up2_s], fun j a d => by omega, ⟨fun h => by omega, fun h => by omega, fun h => by omega, fun h => by omega, fun h => by omega⟩, by omega⟩, ⟨fun j _ => by rw [kq 3 (by decide) (by decide)], fun j _ => by rw [kq 4 (by decide) (by decide)], kq 1 (by decide) (by decide), kq 2 (by decide) (by decide)⟩, fun _ => by rw [kq 4 (by decide) (by decide)], ⟨fun q hq => by rw [s6 q (by omega), m2k q (by omega) (by omega) (by omega) (by omega)], fun j hj => ⟨by rw [s6 15 (by omega), m15 j (by omega)], by rw [s6 16 (by omega), m16 j (by omega)]⟩, fun e => ⟨p3, by rw [s6 33 (by omega), m2k 33 (by omega) (by omega) (by omega) (by omega)]⟩⟩, ?_, s5, by omega⟩
    · rw [s6 15 (by omega), s6 16 (by omega)]
      by_cases d : i = s
      · rw [d, m15s, m16s, ← hru, up2_k (by decide), up2_s]; exact hk
      · rw [m15 (64 + i) (by omega), m16 (64 + i) (by omega), ← hru, up2_k (by decide), up2_j d]
        exact o1 i (by omega)
    · rw [hm, show s + 1 + (b - b) = s + 1 by omega]
      refine phr.val (fun j hj => ⟨by rw [s6 15 (by omega), m15 j (by omega)], by rw [s6 16 (by omega), m16 j (by omega)]⟩) ?_
      rw [s6 15 (by omega), m15s]; exact ha
