theorem LO.flt {i : Nat} {re ta ro ki ru no mo : jZ} {C : Option j7} {k24 : jZ → jZ → jZ → jZ → jZ → jZ → Int32 → Option j7} {R : Option jZ} (hT : T ta mo) (x : Int32) (hx : ¬ x = 0) (hC : C = some (stp re ta x, ta, ro, ki, ru, no, 0)) (hR : R = some (flt mo x)) : LO i no ta mo C k24 R :=
  Or.inl ⟨_, _, _, _, _, _, hC, hR, by rw [flt_32]; exact hx, by rw [stp_1, flt_32], by rw [stp_2, flt_33]; exact hT.2.1, flt_o mo x, fun _ _ => rfl⟩
theorem L82_f {mf : jZ} (nf : ¬ mf 32 0 = 0) (v : Int32) : f_Mo_line_82 mf v = some mf := by unfold f_Mo_line_82; rw [if_neg nf]
theorem L188_f {mf : jZ} (nf : ¬ mf 32 0 = 0) : f_Mo_line_188 mf = some mf := by unfold f_Mo_line_188; rw [if_neg nf]
theorem flt_nf (mo : jZ) {x : Int32} (hx : ¬ x = 0) : ¬ (flt mo x) 32 0 = 0 := by rw [flt_32]; exact hx
theorem wrong_flt {mo : jZ} (h0 : mo 32 0 = 0) (x : Int32) : f_Mo_wrong mo x = some (flt mo x) := wrong_ok h0 x
theorem MARK {ta mo : jZ} {i : Nat} (hT : T ta mo) (hj : (i : Int) ≤ (mo 29 0).toInt) (t4 : ¬ ta 4 0 = 0) {tb : Nat} (hb : tb < 16) (b2 : mo 25 0 = nI tb) (w : Nat) (hw : w < 4) {v : Int32} (hv : v = nI w) : ∃ ta2 mo2, f_Tape_step ta = some ta2 ∧ f_Mo_next (up2 mo 25 0 ((mo 25 0) ||| (1 <<< (v &&& 31)))) = some mo2 ∧ T ta2 mo2 ∧ ((i + 1 : Nat) : Int) ≤ (mo2 29 0).toInt ∧ (∀ q, q < 3 → ta2 q = ta q) ∧ (∀ q, q ≠ 25 → q < 28 ∨ 31 < q → mo2 q = mo q) ∧ mo2 25 0 = nI (tb ||| 2 ^ w) := by
  obtain ⟨ta2, mo2, e1, e2, e3, e4, e5, e6⟩ := step_ok (mo := up2 mo 25 0 ((mo 25 0) ||| (1 <<< (v &&& 31)))) (tPos_cg hT.1 (up2_k (by decide)) (up2_k (by decide)) (up2_k (by decide)))
  have := tok_ne hT t4
  rw [up2_k (by decide)] at e4
  refine ⟨ta2, mo2, e1, e2, e3, by omega, e5, fun q a b => by rw [e6 q b, up2_k a], ?_⟩
  rw [e6 25 (by omega), up2_s, b2, hv]; exact (tb_or w hw tb hb).2.1
theorem nI_5 (K : Nat) (h : K ≤ 5) : 5 + nI K = nI (5 + K) := by
  have i5 : (5 : Int32).toInt = 5 := rfl
  have tK : (nI K).toInt = K := nI_toInt (by omega)
  exact i_ext (by rw [i_add (by omega) (by omega), i5, tK, nI_toInt (by omega)]; omega)
theorem nI_12 (K : Nat) (h : K ≤ 12) : 12 + nI K = nI (12 + K) := by
  have i5 : (12 : Int32).toInt = 12 := rfl
  have tK : (nI K).toInt = K := nI_toInt (by omega)
  exact i_ext (by rw [i_add (by omega) (by omega), i5, tK, nI_toInt (by omega)]; omega)
theorem LKIND {i : Nat} {re ta ro ki ru no mo : jZ} (h : TX i i re ta ro ki ru mo) (t4 : ¬ ta 4 0 = 0) (m30 : mo 30 0 = 0) (m31 : mo 31 0 = 0) (x1 : Int32) (k24 : jZ → jZ → jZ → jZ → jZ → jZ → Int32 → Option j7) :
    LO i no ta mo ((f_Reader_readKind re ta ki).bind fun q31 => f_Reader_read_164 x1 k24 q31.1 q31.2.1 ro q31.2.2.1 ru no (nI i) q31.2.2.2) k24 (f_Mo_line mo) := by
  obtain ⟨hT, h0, ⟨h33, r1, r2⟩, ⟨K, hK⟩, ⟨P, hP⟩, ⟨s, hR, h36, tb, b1, b2, b3, b4⟩, s5, s6, ⟨c3, c26⟩, hj⟩ := h
  obtain ⟨n1, n2, n3, n4, n5, n6⟩ := id hK
  have tK : (nI K).toInt = K := nI_toInt (by omega)
  have i0 : (0 : Int32).toInt = 0 := rfl
  have i5 : (5 : Int32).toInt = 5 := rfl
  by_cases K5 : K = 5
  · refine LO.flt (re := re) (ro := ro) (ki := ki) (ru := ru) hT 2 (by decide) ?_ ?_
    · unfold f_Reader_readKind
      rw [n1, if_neg (show ¬ nI K < 0 by rw [i_lt]; omega), if_neg (show ¬ nI K < 5 by rw [i_lt]; omega)]; rfl
    · unfold f_Mo_line
      rw [if_pos m30, m31, if_pos (show (0 : Int32) ≤ 3 by decide), if_pos rfl, n2, K5, if_pos (show nI 5 = 5 by decide), wrong_flt h0, Option.bind_some, L82_f (flt_nf mo (by decide))]
  · obtain ⟨ta2, mo2, e1, e2, e3, e4, e5, e6, e7⟩ := MARK hT hj t4 b1 b2 0 (by omega) (v := 0) rfl
    have cl : f_Reader_readKind re ta ki = cKind re ta2 ki K := by
      unfold f_Reader_readKind cKind
      rw [n1, if_neg (show ¬ nI K < 0 by rw [i_lt]; omega), if_pos (show nI K < 5 by rw [i_lt]; omega), e1, Option.bind_some]
    have rf : f_Mo_line mo = (f_Mo_kindLine mo2 (nI (5 + K))).bind fun q27 => f_Mo_line_188 q27 := by
      unfold f_Mo_line
      rw [if_pos m30, m31, if_pos (show (0 : Int32) ≤ 3 by decide), if_pos rfl, n2, if_neg (show ¬ nI K = 5 by rw [i_eq]; omega), if_neg (show ¬ (0 : Int32) = 1 by decide)]
      unfold f_Mo_line_60
      rw [if_pos (show (0 : Int32) < 2 by decide)]
      unfold f_Mo_line_82
      rw [if_pos h0, e2, Option.bind_some, if_pos rfl, e6 20 (by decide) (by omega), n2, nI_5 K (by omega)]
    rw [cl, rf]
    have hK2 : nK ki mo2 K := hK.cg (e6 5 (by decide) (by omega)) (e6 6 (by decide) (by omega)) (e6 7 (by decide) (by omega)) (e6 20 (by decide) (by omega))
    have o2 : oR mo mo2 := oR.of (fun q hq => e6 q (by omega) (by omega))
    rcases KINDx e3 (by rw [e6 32 (by decide) (by omega)]; exact h0) hK2 (by omega) re with ⟨re', ta', ki', mf, d1, d2, d3, d4, d5, d6, d7⟩ | ⟨ta3, ki3, mo3, d1, d2, d3, d4, d5, d6, d7, d8, d9⟩
    · rw [d1, d2, Option.bind_some, Option.bind_some, L188_f d3]
      exact Or.inl ⟨re', ta', ro, ki', ru, mf, rfl, rfl, d3, d4, d5, o2.tr d6, fun q hq => by rw [d7 q hq, e5 q hq]⟩
    · rw [d1, d2, Option.bind_some, Option.bind_some]
      have g : ∀ q, 8 ≤ q → q ≠ 20 → q ≠ 25 → q < 28 ∨ 31 < q → mo3 q = mo q := fun q a b c d => by rw [d9 q a b d, e6 q c d]
      have tk := tb_or 0 (by omega) tb b1
      refine LO.bk (LEND (i := i) ⟨d3, d4, ⟨by rw [g 33 (by omega) (by decide) (by decide) (by omega)]; exact h33, r1, r2⟩, ⟨_, d5⟩, ⟨P, hP.cg (fun q a b => g q a (by omega) (by omega) (by omega)) (g 21 (by omega) (by decide) (by decide) (by omega)) (fun _ _ _ => rfl)⟩, ⟨s, hR.cg (g 15 (by omega) (by decide) (by decide) (by omega)) (g 16 (by omega) (by decide) (by decide) (by omega)) (g 22 (by omega) (by decide) (by decide) (by omega)), fun z => by rw [g 36 (by omega) (by decide) (by decide) (by omega), g 37 (by omega) (by decide) (by decide) (by omega)]; exact h36 z, tb ||| 2 ^ 0, tk.1, by rw [d9 25 (by omega) (by decide) (by omega)]; exact e7, by rw [tk.2.2.1]; exact b3, by rw [tk.2.2.2]; exact b4⟩, by rw [g 23 (by omega) (by decide) (by decide) (by omega)]; exact s5, by rw [g 24 (by omega) (by decide) (by decide) (by omega)]; exact s6, ⟨c3, by rw [g 26 (by omega) (by decide) (by decide) (by omega)]; exact c26⟩, by omega⟩ x1 k24) (o2.tr d8) (fun q hq => by rw [d7 q hq, e5 q hq])
