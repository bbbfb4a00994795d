theorem op_text {re ta sro ski sru sno lu ro ki ru no mo : jZ} {luy : jY} (hTa : iTape ta mo) (hF : iFault re mo) (hk : iKinds ki mo) (hp : iPlaces ro mo) (hR : iRule ru mo) (hn : iNotes no mo) (hL : iLuck lu luy mo) (x1 : Int32) :
    ∃ re2 ta2 sro2 ski2 sru2 sno2 lu2 f m2 r, f_WP_text re ta sro ski sru sno lu x1 = some (re2, ta2, sro2, ski2, sru2, sno2, lu2, f, r) ∧ f_Mo_text mo x1 = some (m2, r) ∧ iTape ta2 m2 ∧ iFault re2 m2 ∧ ((f = 0 ∧ iKinds ki m2 ∧ iPlaces ro m2 ∧ iRule ru m2 ∧ iNotes no m2 ∧ iLuck lu2 luy m2) ∨ (f = 1 ∧ iKinds ski2 m2 ∧ iPlaces sro2 m2 ∧ iRule sru2 m2 ∧ iNotes sno2 m2 ∧ iLuck lu2 luy m2)) := by
  obtain ⟨t1, t2, t3, t4⟩ := id hTa
  have i0 : (0 : Int32).toInt = 0 := rfl
  have i600 : (600 : Int32).toInt = 600 := rfl
  have same : ∃ re2 ta2 sro2 ski2 sru2 sno2 lu2 f m2 r, (some (re, ta, sro, ski, sru, sno, lu, 0, (-2)) : Option (jZ × jZ × jZ × jZ × jZ × jZ × jZ × Nat × Int32)) = some (re2, ta2, sro2, ski2, sru2, sno2, lu2, f, r) ∧ (some (up2 mo 0 0 0, -2) : Option (jZ × Int32)) = some (m2, r) ∧ iTape ta2 m2 ∧ iFault re2 m2 ∧ ((f = 0 ∧ iKinds ki m2 ∧ iPlaces ro m2 ∧ iRule ru m2 ∧ iNotes no m2 ∧ iLuck lu2 luy m2) ∨ (f = 1 ∧ iKinds ski2 m2 ∧ iPlaces sro2 m2 ∧ iRule sru2 m2 ∧ iNotes sno2 m2 ∧ iLuck lu2 luy m2)) :=
    ⟨re, ta, sro, ski, sru, sno, lu, 0, up2 mo 0 0 0, -2, rfl, rfl, hTa.to (m0 mo 0 0), hF.to (m0 mo 0 0), Or.inl ⟨rfl, hk.to (m0 mo 0 0), hp.to (m0 mo 0 0), hR.to (fun k hk => up2_k (by omega)), hn.oR (oR.of (fun q hq => up2_k (by omega))), hL.to hR (fun k hk => up2_k (by omega))⟩⟩
  unfold f_WP_text f_Mo_text
  by_cases c0 : x1 < 0
  · rw [if_pos c0, if_pos c0]; exact same
  rw [if_neg c0, if_neg c0, t1]
  by_cases c1 : x1 ≤ mo 2 0
  · rw [if_pos c1, if_pos c1]
    rw [i_lt] at c0
    rw [i_le] at c1
    have x6 : ¬ 600 < x1 := by rw [i_lt]; omega
    generalize hm : up2 (up2 (up2 (up2 (up2 (up2 (up2 (up2 (up2 (up2 (up2 (up2 (up2 (up2 (up2 mo 0 0 0) 27 0 x1) 2 0 0) 28 0 0) 32 0 0) 33 0 (-1)) 20 0 0) 21 0 0) 22 0 0) 37 0 0) 23 0 5) 24 0 0) 25 0 0) 26 0 0) 36 0 0 = m1
    have w36 : m1 36 0 = 0 := by rw [← hm, up2_s]
    have w26 : m1 26 0 = 0 := by rw [← hm, up2_k (by decide), up2_s]
    have w25 : m1 25 0 = 0 := by rw [← hm]; iterate 2 rw [up2_k (by decide)]
                                 rw [up2_s]
    have w24 : m1 24 0 = 0 := by rw [← hm]; iterate 3 rw [up2_k (by decide)]
                                 rw [up2_s]
    have w23 : m1 23 0 = 5 := by rw [← hm]; iterate 4 rw [up2_k (by decide)]
                                 rw [up2_s]
    have w37 : m1 37 0 = 0 := by rw [← hm]; iterate 5 rw [up2_k (by decide)]
                                 rw [up2_s]
    have w22 : m1 22 0 = 0 := by rw [← hm]; iterate 6 rw [up2_k (by decide)]
                                 rw [up2_s]
    have w21 : m1 21 0 = 0 := by rw [← hm]; iterate 7 rw [up2_k (by decide)]
                                 rw [up2_s]
    have w20 : m1 20 0 = 0 := by rw [← hm]; iterate 8 rw [up2_k (by decide)]
                                 rw [up2_s]
    have w33 : m1 33 0 = -1 := by rw [← hm]; iterate 9 rw [up2_k (by decide)]
                                  rw [up2_s]
    have w32 : m1 32 0 = 0 := by rw [← hm]; iterate 10 rw [up2_k (by decide)]
                                 rw [up2_s]
    have w28 : m1 28 0 = 0 := by rw [← hm]; iterate 11 rw [up2_k (by decide)]
                                 rw [up2_s]
    have w2 : m1 2 0 = 0 := by rw [← hm]; iterate 12 rw [up2_k (by decide)]
                               rw [up2_s]
    have w27 : m1 27 0 = x1 := by rw [← hm]; iterate 13 rw [up2_k (by decide)]
                                  rw [up2_s]
    have wq : ∀ q, q = 1 ∨ (3 ≤ q ∧ q ≤ 19) ∨ 37 < q → m1 q = mo q := fun q hq => by rw [← hm]; iterate 15 rw [up2_k (by omega)]
    have hkB : iKinds ki m1 := by unfold iKinds; rw [wq 3 (by omega), wq 5 (by omega), wq 6 (by omega), wq 7 (by omega)]; exact hk
    have hpB : iPlaces ro m1 := by unfold iPlaces; rw [wq 4 (by omega), wq 18 (by omega), wq 19 (by omega), wq 8 (by omega), wq 9 (by omega), wq 10 (by omega), wq 11 (by omega), wq 12 (by omega), wq 13 (by omega), wq 14 (by omega)]; exact hp
    have hRB : iRule ru m1 := by unfold iRule; rw [wq 15 (by omega), wq 16 (by omega), wq 17 (by omega)]; exact hR
    have hnB : iNotes no m1 := by unfold iNotes; rw [wq 38 (by omega), wq 39 (by omega), wq 40 (by omega), wq 41 (by omega), wq 42 (by omega)]; exact hn
    have hLB : iLuck lu luy m1 := by
      have T := TK_same hR hRB
      rcases hL with h | ⟨h1, h2, h3⟩
      · exact Or.inl h
      · refine Or.inr ⟨?_, ?_, ?_⟩
        · rw [h1]; exact (LW_cg (wq 3 (by omega)) hk.2.2.1 (fun j _ => by rw [wq 7 (by omega)]) _ _ (fun k x y z hk' => by unfold hT; rw [T, wq 6 (by omega)])).symm
        · rw [h2]; exact (LW_cg (wq 3 (by omega)) hk.2.2.1 (fun j _ => by rw [wq 7 (by omega)]) _ _ (fun k x y z hk' => by unfold hH; rw [T, wq 6 (by omega)])).symm
        · rw [h3]; exact (LW_cg (wq 3 (by omega)) hk.2.2.1 (fun j _ => by rw [wq 7 (by omega)]) _ _ (fun k x y z hk' => by unfold hS; rw [T, wq 6 (by omega), wq 7 (by omega)])).symm
    generalize ht : up2 (up2 (up2 ta 2 0 x1) 1 0 0) 3 0 0 = ta1
    have tp : tPos ta1 m1 := by
      unfold tPos
      rw [w27, w28, wq 1 (by omega)]
      refine ⟨by rw [← ht, up2_s], by rw [← ht, up2_k (by decide), up2_k (by decide), up2_s], by omega, fun i hi => ?_⟩
      rw [show ta1 0 = ta 0 by rw [← ht, up2_k (by decide), up2_k (by decide), up2_k (by decide)]]
      exact t4 i (by omega)
    obtain ⟨ta2, mo2, e1, e2, e3, e4, e5, e6⟩ := step_ok tp
    obtain ⟨no2, n1, n2⟩ := NCLR sno
    obtain ⟨ki2, k1, k2⟩ := KCLR ski
    obtain ⟨ro2, r1, r2, r3, r4⟩ := rc_49 ki2 (up2 sru 0 0 0) no2 12 0 FU (up2 (up2 (up2 (up2 (up2 sro 3 0 0) 4 0 0) 5 0 5) 6 0 0) 7 0 0) (by omega) (by unfold FU; omega)
    have cl : f_Road_clear sro ski sru sno = some (ro2, ki2, up2 sru 0 0 0, no2) := by
      unfold f_Road_clear
      rw [k1, Option.bind_some, n1, Option.bind_some]; exact r1
    have bg : f_Tape_begin ta x1 = some ta2 := by
      unfold f_Tape_begin
      rw [if_neg x6, ht, e1, Option.bind_some]
    have rd : f_Reader_read re ta sro ski sru sno x1 = f_Reader_read_24 x1 FU (up2 (up2 re 1 0 0) 2 0 (-1)) ta2 ro2 ki2 (up2 sru 0 0 0) no2 0 := by
      unfold f_Reader_read
      rw [cl, Option.bind_some, bg, Option.bind_some]
    have tx : TX 0 0 (up2 (up2 re 1 0 0) 2 0 (-1)) ta2 ro2 ki2 (up2 sru 0 0 0) mo2 := by
      refine ⟨e3, by rw [e6 32 (by omega)]; exact w32, ⟨by rw [e6 33 (by omega)]; exact w33, by rw [up2_k (by decide), up2_s], up2_s⟩, ⟨0, k2 mo2 (by rw [e6 20 (by omega)]; exact w20)⟩, ⟨0, ?_, by rw [e6 21 (by omega)]; exact w21, by omega, fun p hp => by omega, fun p _ hp => ⟨(r3 p (by omega) hp).1, (r3 p (by omega) hp).2.1, (r3 p (by omega) hp).2.2.1, (r3 p (by omega) hp).2.2.2.1⟩, fun p hp => (r3 p (by omega) hp).2.2.2.2⟩, ⟨0, ⟨up2_s, by rw [e6 22 (by omega)]; exact w22, by omega, fun i hi => by omega, Or.inl rfl⟩, fun _ => ⟨by rw [e6 36 (by omega)]; exact w36, by rw [e6 37 (by omega)]; exact w37⟩, 0, by omega, by rw [e6 25 (by omega)]; exact w25, ⟨fun e => absurd e (by decide), fun e => absurd rfl e⟩, ⟨fun e => absurd e (by decide), fun e => absurd ?_ e⟩⟩, ?_, ?_, ⟨?_, by rw [e6 26 (by omega)]; exact w26⟩, ?_⟩
      · rw [r2 7 (by omega), up2_s]; rfl
      · rw [r2 4 (by omega), up2_k (by decide), up2_k (by decide), up2_k (by decide), up2_s]
      · rw [r2 5 (by omega), up2_k (by decide), up2_k (by decide), up2_s, e6 23 (by omega), w23]; exact ⟨rfl, by decide, by decide⟩
      · rw [r2 6 (by omega), up2_k (by decide), up2_s, e6 24 (by omega), w24]; exact ⟨rfl, by decide, by decide⟩
      · rw [r2 3 (by omega), up2_k (by decide), up2_k (by decide), up2_k (by decide), up2_k (by decide), up2_s]; rfl
      · have := e3.2.2.1; omega
    have tt : ta2 1 0 = 0 := by rw [e5 1 (by omega), ← ht, up2_k (by decide), up2_s]
    rw [rd, e2, Option.bind_some]
    rcases TLOOP x1 no2 601 0 FU FU _ ta2 ro2 ki2 _ mo2 (by omega) (by unfold FU; omega) (by unfold FU; omega) tx with ⟨re', ta', ro', ki', ru', mf, g1, g2, g3, g4, g5, g6⟩ | ⟨re', ta', ro', ki', ru', mo', j, g1, g2, g3, g4, g5⟩
    · rw [show f_Reader_read_24 x1 FU (up2 (up2 re 1 0 0) 2 0 (-1)) ta2 ro2 ki2 (up2 sru 0 0 0) no2 0 = _ from g1, g2, Option.bind_some]
      dsimp only
      rw [if_pos rfl]
      have o : oR m1 (up2 (up2 mf 34 0 (mf 32 0)) 35 0 (mf 33 0)) := (oR.of (fun q hq => e6 q (by omega))).tr (g5.tr (oR.of (fun q hq => by rw [up2_k (by omega), up2_k (by omega)])))
      refine ⟨_, _, _, _, _, _, _, _, _, _, rfl, rfl, ?_, ⟨by rw [up2_k (by decide), up2_s]; exact g3, by rw [up2_s]; exact g4⟩, Or.inl ⟨rfl, hkB.oR o, hpB.oR o, hRB.oR o, hnB.oR o, iLuck.oR hLB hkB hRB o⟩⟩
      unfold iTape
      rw [o.1 2 (by omega), w2, g6 1 (by omega), tt]
      exact ⟨rfl, by decide, by decide, fun i hi => by rw [i0] at hi; omega⟩
    · obtain ⟨m3, l1, l2, l3, l4, l5, l6, l7⟩ := LAID g3 x1
      rw [show f_Reader_read_24 x1 FU (up2 (up2 re 1 0 0) 2 0 (-1)) ta2 ro2 ki2 (up2 sru 0 0 0) no2 0 = _ from g1, g2, l1, Option.bind_some]
      dsimp only
      rw [if_neg (show ¬ (1 : Int32) = 0 by decide)]
      unfold f_Luck_forget
      rw [Option.bind_some, g3.2.2.2.2.2.2.2.2.1.1]
      refine ⟨_, _, _, _, _, _, _, _, _, _, rfl, rfl, ?_, l5, Or.inr ⟨rfl, l2, l3, l4, n2 m3 l6.1 l6.2, Or.inl up2_s⟩⟩
      unfold iTape
      rw [l7, g4.1 2 (by omega), e6 2 (by omega), w2, g5 1 (by omega), tt]
      exact ⟨rfl, by decide, by decide, fun i hi => by rw [i0] at hi; omega⟩
  · rw [if_neg c1, if_neg c1]; exact same
