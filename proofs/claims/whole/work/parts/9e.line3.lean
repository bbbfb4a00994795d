theorem PLc {β : Type} {A : Option (jZ × jZ × jZ × Int32)} {B : jZ × jZ × jZ × Int32 → Option (jZ × jZ × jZ × Int32)} (F : jZ → jZ → jZ → Int32 → Option β) {a b c : jZ} {x : Int32} (h : (A.bind fun q25 => (if q25.2.2.2 = 0 then some (q25.1, q25.2.1, q25.2.2.1, 0) else (B q25).bind fun q28 => some (q28.1, q28.2.1, q28.2.2.1, q28.2.2.2))) = some (a, b, c, x)) (hx : x = 0 ∨ x = 1) :
    (A.bind fun q25 => (if q25.2.2.2 = 0 then F q25.1 q25.2.1 q25.2.2.1 0 else (B q25).bind fun q28 => (if q28.2.2.2 = 0 then F q28.1 q28.2.1 q28.2.2.1 0 else F q28.1 q28.2.1 q28.2.2.1 1))) = F a b c x := by
  cases A with
  | none => exact absurd h (by simp)
  | some q =>
    rw [Option.bind_some] at h ⊢
    by_cases z : q.2.2.2 = 0
    · rw [if_pos z] at h ⊢
      have := Option.some.inj h
      injection this with h1 this
      injection this with h2 this
      injection this with h3 h4
      rw [h1, h2, h3, h4]
    · rw [if_neg z] at h ⊢
      cases e : B q with
      | none => rw [e] at h; exact absurd h (by simp)
      | some u =>
        rw [e, Option.bind_some] at h
        rw [Option.bind_some]
        have := Option.some.inj h
        injection this with h1 this
        injection this with h2 this
        injection this with h3 h4
        rw [h1, h2, h3, h4]
        rcases hx with y | y
        · rw [if_pos y, y]
        · rw [if_neg (by rw [y]; decide), y]
theorem LPLACE {i : Nat} {re ta ro ki ru no mo : jZ} (h : TX i i re ta ro ki ru mo) (t4 : ¬ ta 4 0 = 0) (m30 : mo 30 0 = 0) (m31 : mo 31 0 = 1) (x1 : Int32) (k24 : jZ → jZ → jZ → jZ → jZ → jZ → Int32 → Option j7) :
    LO i no ta mo ((f_Reader_readPlace re ta ro).bind fun q25 => (if q25.2.2.2 = 0 then f_Reader_read_164 x1 k24 q25.1 q25.2.1 q25.2.2.1 ki ru no (nI i) 0
    else (f_Reader_readMore q25.1 q25.2.1 q25.2.2.1 ((q25.2.2.1 7 0) - 1)).bind fun q28 => (if q28.2.2.2 = 0 then f_Reader_read_164 x1 k24 q28.1 q28.2.1 q28.2.2.1 ki ru no (nI i) 0
    else f_Reader_read_164 x1 k24 q28.1 q28.2.1 q28.2.2.1 ki ru no (nI i) 1))) k24 (f_Mo_line mo) := by
  obtain ⟨hT, h0, ⟨h33, r1, r2⟩, ⟨K, hK⟩, ⟨P, hP⟩, ⟨s, hR, h36, tb, b1, b2, b3, b4⟩, s5, s6, ⟨c3, c26⟩, hj⟩ := h
  obtain ⟨n1, n2, n3, n4, n5, n6⟩ := id hP
  have tP : (nI P).toInt = P := nI_toInt (by omega)
  have i0 : (0 : Int32).toInt = 0 := rfl
  have i12 : (12 : Int32).toInt = 12 := rfl
  by_cases P12 : P = 12
  · refine LO.flt (re := re) (ro := ro) (ki := ki) (ru := ru) hT 2 (by decide) ?_ ?_
    · unfold f_Reader_readPlace
      rw [n1, if_neg (show ¬ nI P < 0 by rw [i_lt]; omega), if_neg (show ¬ nI P < 12 by rw [i_lt]; omega)]; rfl
    · unfold f_Mo_line
      rw [if_pos m30, m31, if_pos (show (1 : Int32) ≤ 3 by decide), if_neg (show ¬ (1 : Int32) = 0 by decide), if_pos rfl, n2, P12, if_pos (show nI 12 = 12 by decide), wrong_flt h0, Option.bind_some, L82_f (flt_nf mo (by decide))]
  · obtain ⟨ta2, mo2, e1, e2, e3, e4, e5, e6, e7⟩ := MARK hT hj t4 b1 b2 1 (by omega) (v := 1) rfl
    have cl : ∀ {a b c : jZ} {x : Int32}, cPl re ta2 ro P = some (a, b, c, x) → x = 0 ∨ x = 1 → ((f_Reader_readPlace re ta ro).bind fun q25 => (if q25.2.2.2 = 0 then f_Reader_read_164 x1 k24 q25.1 q25.2.1 q25.2.2.1 ki ru no (nI i) 0
    else (f_Reader_readMore q25.1 q25.2.1 q25.2.2.1 ((q25.2.2.1 7 0) - 1)).bind fun q28 => (if q28.2.2.2 = 0 then f_Reader_read_164 x1 k24 q28.1 q28.2.1 q28.2.2.1 ki ru no (nI i) 0
    else f_Reader_read_164 x1 k24 q28.1 q28.2.1 q28.2.2.1 ki ru no (nI i) 1))) = f_Reader_read_164 x1 k24 a b c ki ru no (nI i) x := by
      intro a b c x hh hx
      unfold cPl at hh
      unfold f_Reader_readPlace
      rw [n1, if_neg (show ¬ nI P < 0 by rw [i_lt]; omega), if_pos (show nI P < 12 by rw [i_lt]; omega), e1, Option.bind_some]
      exact PLc (B := fun q25 => f_Reader_readMore q25.1 q25.2.1 q25.2.2.1 ((q25.2.2.1 7 0) - 1)) (fun a b c x => f_Reader_read_164 x1 k24 a b c ki ru no (nI i) x) hh hx
    have rf : f_Mo_line mo = (f_Mo_placeLine mo2 (nI (12 + P))).bind fun q27 => f_Mo_line_188 q27 := by
      unfold f_Mo_line
      rw [if_pos m30, m31, if_pos (show (1 : Int32) ≤ 3 by decide), if_neg (show ¬ (1 : Int32) = 0 by decide), if_pos rfl, n2, if_neg (show ¬ nI P = 12 by rw [i_eq]; omega)]
      unfold f_Mo_line_60
      rw [if_pos (show (1 : Int32) < 2 by decide)]
      unfold f_Mo_line_82
      rw [if_pos h0, e2, Option.bind_some, if_neg (show ¬ (1 : Int32) = 0 by decide), if_pos rfl, e6 21 (by decide) (by omega), n2, nI_12 P (by omega)]
    rw [rf]
    have hP2 : nP ro mo2 P := hP.cg (fun q a b => e6 q (by omega) (by omega)) (e6 21 (by decide) (by omega)) (fun _ _ _ => rfl)
    have o2 : oR mo mo2 := oR.of (fun q hq => e6 q (by omega) (by omega))
    rcases PLACEx e3 (by rw [e6 32 (by decide) (by omega)]; exact h0) hP2 (by omega) re with ⟨re', ta', ro', mf, d1, d2, d3, d4, d5, d6, d7⟩ | ⟨ta3, ro3, mo3, d1, d2, d3, d4, d5, d6, d7, d8, d9, d10⟩
    · rw [cl d1 (Or.inl rfl), d2, Option.bind_some, L188_f d3]
      exact Or.inl ⟨re', ta', ro', ki, ru, mf, rfl, rfl, d3, d4, d5, o2.tr d6, fun q hq => by rw [d7 q hq, e5 q hq]⟩
    · rw [cl d1 (Or.inr rfl), d2, Option.bind_some]
      have g : ∀ q, q < 8 ∨ 13 < q → q ≠ 21 → q ≠ 25 → q < 28 ∨ 31 < q → mo3 q = mo q := fun q a b c d => by rw [d9 q a b d, e6 q c d]
      have tk := tb_or 1 (by omega) tb b1
      refine LO.bk (LEND (i := i) ⟨d3, d4, ⟨by rw [g 33 (by omega) (by decide) (by decide) (by omega)]; exact h33, r1, r2⟩, ⟨K, hK.cg (g 5 (by omega) (by decide) (by decide) (by omega)) (g 6 (by omega) (by decide) (by decide) (by omega)) (g 7 (by omega) (by decide) (by decide) (by omega)) (g 20 (by omega) (by decide) (by decide) (by omega))⟩, ⟨_, d5⟩, ⟨s, hR.cg (g 15 (by omega) (by decide) (by decide) (by omega)) (g 16 (by omega) (by decide) (by decide) (by omega)) (g 22 (by omega) (by decide) (by decide) (by omega)), fun z => by rw [g 36 (by omega) (by decide) (by decide) (by omega), g 37 (by omega) (by decide) (by decide) (by omega)]; exact h36 z, tb ||| 2 ^ 1, tk.1, by rw [d9 25 (by omega) (by decide) (by omega)]; exact e7, by rw [tk.2.2.1]; exact b3, by rw [tk.2.2.2, d10 4 (by omega)]; exact b4⟩, by rw [g 23 (by omega) (by decide) (by decide) (by omega), d10 5 (by omega)]; exact s5, by rw [g 24 (by omega) (by decide) (by decide) (by omega), d10 6 (by omega)]; exact s6, ⟨by rw [d10 3 (by omega)]; exact c3, by rw [g 26 (by omega) (by decide) (by decide) (by omega)]; exact c26⟩, by omega⟩ x1 k24) (o2.tr d8) (fun q hq => by rw [d7 q hq, e5 q hq])
theorem LTAKE {i : Nat} {re ta ro ki ru no mo : jZ} (h : TX i i re ta ro ki ru mo) (t4 : ¬ ta 4 0 = 0) (m30 : mo 30 0 = 0) (m31 : mo 31 0 = 2) (x1 : Int32) (k24 : jZ → jZ → jZ → jZ → jZ → jZ → Int32 → Option j7) :
    LO i no ta mo ((f_Reader_readTake re ta ru).bind fun q23 => f_Reader_read_164 x1 k24 q23.1 q23.2.1 ro ki q23.2.2.1 no (nI i) q23.2.2.2) k24 (f_Mo_line mo) := by
  obtain ⟨hT, h0, ⟨h33, r1, r2⟩, ⟨K, hK⟩, ⟨P, hP⟩, ⟨s, hR, h36, tb, b1, b2, b3, b4⟩, s5, s6, ⟨c3, c26⟩, hj⟩ := h
  obtain ⟨n1, n2, n3, n4, n5⟩ := id hR
  have ts : (nI s).toInt = s := nI_toInt (by omega)
  have i0 : (0 : Int32).toInt = 0 := rfl
  have L : f_Mo_line mo = f_Mo_line_60 mo 2 := by
    unfold f_Mo_line
    rw [if_pos m30, m31, if_pos (show (2 : Int32) ≤ 3 by decide), if_neg (show ¬ (2 : Int32) = 0 by decide), if_neg (show ¬ (2 : Int32) = 1 by decide)]
  by_cases z : s = 0
  · have nb : ¬ tb / 4 % 2 = 1 := fun e => b3.mp e z
    obtain ⟨ta2, mo2, e1, e2, e3, e4, e5, e6, e7⟩ := MARK hT hj t4 b1 b2 2 (by omega) (v := 2) rfl
    have cl : f_Reader_readTake re ta ru = f_Reader_readTake_54 FU (tk0 re) ta2 ru 0 := by
      unfold f_Reader_readTake
      rw [n1, if_pos (show nI s ≤ 0 by rw [i_le]; omega), ix_ok (by decide) (by decide), Option.bind_some, e1, Option.bind_some]; rfl
    have rf : f_Mo_line mo = (f_Mo_grp DG 0 mo2).bind fun q33 => f_Mo_line_188 q33 := by
      rw [L]
      unfold f_Mo_line_60
      rw [if_neg (show ¬ (2 : Int32) < 2 by decide), b2, tb_2 tb b1, if_neg nb, if_neg (show ¬ (0 : Int32) = 1 by decide)]
      unfold f_Mo_line_82
      rw [if_pos h0, e2, Option.bind_some, if_neg (show ¬ (2 : Int32) = 0 by decide), if_neg (show ¬ (2 : Int32) = 1 by decide), if_pos rfl]
    rw [cl]
    have o2 : oR mo mo2 := oR.of (fun q hq => e6 q (by omega) (by omega))
    rcases TAKEx (ru := ru) e3 (by rw [e6 32 (by decide) (by omega)]; exact h0) (by rw [n1, z]; rfl) (by rw [e6 22 (by decide) (by omega), n2, z]; rfl) (by rw [e6 36 (by decide) (by omega)]; exact (h36 z).1) (by rw [e6 37 (by decide) (by omega)]; exact (h36 z).2) re with ⟨re', ta', ru', mf, d1, d2, d3, d4, d5, d6, d7⟩ | ⟨re3, ta3, ru3, mo3, s3, d1, d2, d3, d4, d5, d6, d7, d8, d9, d10, d11⟩
    · rw [rf, d1, d2, Option.bind_some]
      exact Or.inl ⟨re', ta', ro, ki, ru', mf, rfl, rfl, d3, d4, d5, o2.tr d6, fun q hq => by rw [d7 q hq, e5 q hq]⟩
    · rw [rf, d1, d2, Option.bind_some, Option.bind_some]
      have g : ∀ q, q < 15 ∨ (16 < q ∧ q < 22) ∨ (22 < q ∧ q < 28) → q ≠ 25 → mo3 q = mo q := fun q a b => by rw [d11.1 q (by omega), e6 q b (by omega)]
      have tk := tb_or 2 (by omega) tb b1
      refine LO.bk (LEND (i := i) ⟨d3, d4, ⟨by rw [(d11.2.2 d4).2, e6 33 (by decide) (by omega)]; exact h33, d5.trans r1, d6.trans r2⟩, ⟨K, hK.cg (g 5 (by omega) (by decide)) (g 6 (by omega) (by decide)) (g 7 (by omega) (by decide)) (g 20 (by omega) (by decide))⟩, ⟨P, hP.cg (fun q a b => g q (by omega) (by omega)) (g 21 (by omega) (by decide)) (fun _ _ _ => rfl)⟩, ⟨s3, d7, fun y => by omega, tb ||| 2 ^ 2, tk.1, by rw [d11.1 25 (by omega)]; exact e7, by rw [tk.2.2.1]; exact ⟨fun _ => by omega, fun _ => rfl⟩, by rw [tk.2.2.2]; exact b4⟩, by rw [g 23 (by omega) (by decide)]; exact s5, by rw [g 24 (by omega) (by decide)]; exact s6, ⟨c3, by rw [g 26 (by omega) (by decide)]; exact c26⟩, by omega⟩ x1 k24) (o2.tr (oR.ofX d11)) (fun q hq => by rw [d10 q hq, e5 q hq])
  · refine LO.flt (re := re) (ro := ro) (ki := ki) (ru := ru) hT 3 (by decide) ?_ ?_
    · unfold f_Reader_readTake
      rw [n1, if_neg (show ¬ nI s ≤ 0 by rw [i_le]; omega)]; rfl
    · rw [L]
      unfold f_Mo_line_60
      rw [if_neg (show ¬ (2 : Int32) < 2 by decide), b2, tb_2 tb b1, if_pos (b3.mpr z), if_pos rfl, wrong_flt h0, Option.bind_some, L82_f (flt_nf mo (by decide))]
theorem LSAVES {i : Nat} {re ta ro ki ru no mo : jZ} (h : TX i i re ta ro ki ru mo) (t4 : ¬ ta 4 0 = 0) (m30 : mo 30 0 = 0) (m31 : mo 31 0 = 3) (x1 : Int32) (k24 : jZ → jZ → jZ → jZ → jZ → jZ → Int32 → Option j7) :
    LO i no ta mo ((f_Reader_readSaves re ta ro).bind fun q21 => f_Reader_read_164 x1 k24 q21.1 q21.2.1 q21.2.2.1 ki ru no (nI i) q21.2.2.2) k24 (f_Mo_line mo) := by
  obtain ⟨hT, h0, ⟨h33, r1, r2⟩, ⟨K, hK⟩, ⟨P, hP⟩, ⟨s, hR, h36, tb, b1, b2, b3, b4⟩, s5, s6, ⟨c3, c26⟩, hj⟩ := h
  have L : f_Mo_line mo = f_Mo_line_60 mo 3 := by
    unfold f_Mo_line
    rw [if_pos m30, m31, if_pos (show (3 : Int32) ≤ 3 by decide), if_neg (show ¬ (3 : Int32) = 0 by decide), if_neg (show ¬ (3 : Int32) = 1 by decide)]
  by_cases z : ro 4 0 = 0
  · have nb : ¬ tb / 8 % 2 = 1 := fun e => b4.mp e z
    obtain ⟨ta2, mo2, e1, e2, e3, e4, e5, e6, e7⟩ := MARK hT hj t4 b1 b2 3 (by omega) (v := 3) rfl
    have rf : f_Mo_line mo = (f_Mo_numeral mo2 0 9).bind fun q35 => (f_Mo_numeral (up2 q35.1 23 0 q35.2) 0 9).bind fun q37 => f_Mo_line_188 (up2 q37.1 24 0 q37.2) := by
      rw [L]
      unfold f_Mo_line_60
      rw [if_neg (show ¬ (3 : Int32) < 2 by decide), b2, tb_3 tb b1, if_neg nb, if_neg (show ¬ (0 : Int32) = 1 by decide)]
      unfold f_Mo_line_82
      rw [if_pos h0, e2, Option.bind_some, if_neg (show ¬ (3 : Int32) = 0 by decide), if_neg (show ¬ (3 : Int32) = 1 by decide), if_neg (show ¬ (3 : Int32) = 2 by decide)]
    unfold f_Reader_readSaves
    rw [if_pos z, e1, Option.bind_some]
    have o2 : oR mo mo2 := oR.of (fun q hq => e6 q (by omega) (by omega))
    rcases SAVESx (ro := ro) e3 (by rw [e6 32 (by decide) (by omega)]; exact h0) re with ⟨re', ta', mf, d1, d2, d3, d4, d5, d6, d7⟩ | ⟨ta3, mo3, a, b, d1, d2, d3, d4, d5, d6, d7, d8, d9, d10, d11⟩
    · rw [rf, d1, d2, Option.bind_some]
      exact Or.inl ⟨re', ta', ro, ki, ru, mf, rfl, rfl, d3, d4, d5, o2.tr d6, fun q hq => by rw [d7 q hq, e5 q hq]⟩
    · rw [rf, d1, d2, Option.bind_some]
      have g : ∀ q, q ≠ 23 → q ≠ 24 → q ≠ 25 → q < 28 ∨ 31 < q → mo3 q = mo q := fun q x y w d => by rw [d11 q x y d, e6 q w d]
      have tk := tb_or 3 (by omega) tb b1
      have kr : ∀ q, q ≠ 4 → q ≠ 5 → q ≠ 6 → (up2 (up2 (up2 ro 4 0 1) 5 0 a) 6 0 b) q = ro q := fun q x y w => by rw [up2_k w, up2_k y, up2_k x]
      refine LO.bk (LEND (i := i) ⟨d3, d4, ⟨by rw [g 33 (by decide) (by decide) (by decide) (by omega)]; exact h33, r1, r2⟩, ⟨K, hK.cg (g 5 (by omega) (by decide) (by decide) (by omega)) (g 6 (by omega) (by decide) (by decide) (by omega)) (g 7 (by omega) (by decide) (by decide) (by omega)) (g 20 (by omega) (by decide) (by decide) (by omega))⟩, ⟨P, hP.cg (fun q x y => g q (by omega) (by omega) (by omega) (by omega)) (g 21 (by omega) (by decide) (by decide) (by omega)) (fun q x y => kr q (by omega) (by omega) (by omega))⟩, ⟨s, hR.cg (g 15 (by omega) (by decide) (by decide) (by omega)) (g 16 (by omega) (by decide) (by decide) (by omega)) (g 22 (by omega) (by decide) (by decide) (by omega)), fun y => by rw [g 36 (by omega) (by decide) (by decide) (by omega), g 37 (by omega) (by decide) (by decide) (by omega)]; exact h36 y, tb ||| 2 ^ 3, tk.1, by rw [d11 25 (by omega) (by decide) (by omega)]; exact e7, by rw [tk.2.2.1]; exact b3, by rw [tk.2.2.2, up2_k (by decide), up2_k (by decide), up2_s]; exact ⟨fun _ => by decide, fun _ => rfl⟩⟩, by rw [up2_k (by decide), up2_s, d5]; exact ⟨rfl, d7⟩, by rw [up2_s, d6]; exact ⟨rfl, d8⟩, ⟨by rw [kr 3 (by decide) (by decide) (by decide)]; exact c3, by rw [g 26 (by omega) (by decide) (by decide) (by omega)]; exact c26⟩, by omega⟩ x1 k24) (o2.tr (oR.of (fun q hq => d11 q (by omega) (by omega) (by omega)))) (fun q hq => by rw [d10 q hq, e5 q hq])
  · refine LO.flt (re := re) (ro := ro) (ki := ki) (ru := ru) hT 3 (by decide) ?_ ?_
    · unfold f_Reader_readSaves
      rw [if_neg z]; rfl
    · rw [L]
      unfold f_Mo_line_60
      rw [if_neg (show ¬ (3 : Int32) < 2 by decide), b2, tb_3 tb b1, if_pos (b4.mpr z), if_pos rfl, wrong_flt h0, Option.bind_some, L82_f (flt_nf mo (by decide))]
