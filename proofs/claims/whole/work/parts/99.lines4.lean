def vP (ro mo : jZ) (p : Nat) : Prop := (ro 9 p = mo 9 (12 + p) ∧ 0 ≤ (mo 9 (12 + p)).toInt ∧ (mo 9 (12 + p)).toInt ≤ 9) ∧ (ro 10 p = mo 10 (12 + p) ∧ (mo 10 (12 + p) = 0 ∨ mo 10 (12 + p) = 1)) ∧ (ro 11 p = mo 11 (12 + p) ∧ 0 ≤ (mo 11 (12 + p)).toInt ∧ (mo 11 (12 + p)).toInt ≤ 8) ∧ (ro 12 p = mo 12 (12 + p) ∧ -1 ≤ (mo 12 (12 + p)).toInt ∧ (mo 12 (12 + p)).toInt ≤ 8) ∧ (ro 13 p = mo 13 (12 + p) ∧ 0 ≤ (mo 13 (12 + p)).toInt ∧ (mo 13 (12 + p)).toInt ≤ 9)
def cP (ro mo : jZ) (p : Nat) : Prop := ro 8 p = mo 8 (12 + p) ∧ vP ro mo p
def nP (ro mo : jZ) (P : Nat) : Prop := ro 7 0 = nI P ∧ mo 21 0 = nI P ∧ P ≤ 12 ∧ (∀ p, p < P → cP ro mo p) ∧ (∀ p, P ≤ p → p < 12 → ro 10 p = 0 ∧ ro 11 p = 0 ∧ ro 12 p = -1 ∧ ro 13 p = 0) ∧ (∀ p, p < 12 → ro 14 p = 0)
theorem vP.cg {ro mo ro2 mo2 : jZ} {p : Nat} (h : vP ro mo p) (h1 : ∀ q, 9 ≤ q → q ≤ 13 → ro2 q p = ro q p) (h2 : ∀ q, 9 ≤ q → q ≤ 13 → mo2 q (12 + p) = mo q (12 + p)) : vP ro2 mo2 p := by
  unfold vP
  rw [h1 9 (by omega) (by omega), h1 10 (by omega) (by omega), h1 11 (by omega) (by omega), h1 12 (by omega) (by omega), h1 13 (by omega) (by omega), h2 9 (by omega) (by omega), h2 10 (by omega) (by omega), h2 11 (by omega) (by omega), h2 12 (by omega) (by omega), h2 13 (by omega) (by omega)]
  exact h
def fc (ro : jZ) (p : Nat) : Nat := (if ro 10 p = 0 then 0 else 1) + (if ro 11 p = 0 then 0 else 1) + (if ro 12 p = -1 then 0 else 1)
theorem pl_f (x1 : Int32) {mf : jZ} (nf : ¬ mf 32 0 = 0) (N : Nat) : f_Mo_placeLine_61 x1 (N + 1) mf = some (up2 mf 21 0 (mf 21 0 + 1)) := by
  rw [f_Mo_placeLine_61, mf_wrd nf, mf_wrd nf, mf_wrd nf, Option.bind_some, if_pos rfl, Option.bind_some, if_pos rfl, Option.bind_some, if_pos rfl]
theorem oN12 (P : Nat) (m : jZ) (r : Nat) (hr : 8 ≤ r ∧ r ≤ 13) (a : Int32) : oR m (up2 m r (12 + P) a) := ⟨fun q hq => by rw [up2_k (by omega)], fun k hk => ⟨by rw [up2_k (by omega)], by rw [up2_k (by omega)]⟩, fun j _ => by rw [up2_k (by omega)], fun q x y p hp => by
    by_cases e : q = r
    · rw [e, up2_j (by omega)]
    · rw [up2_k e], fun i _ => ⟨by rw [up2_k (by omega)], by rw [up2_k (by omega)]⟩⟩
theorem o21 (m : jZ) (v : Int32) : oR m (up2 m 21 0 v) := oR.of (fun q hq => up2_k (by omega))
theorem oQx {m m' : jZ} (h : ∀ q, q < 28 ∨ 31 < q → m' q = m q) : oR m m' := oR.of (fun q hq => h q (by omega))
/-- lot, box, works -/
theorem more_loop (P : Nat) (hP : P < 12) (re : jZ) : ∀ (n i N1 N2 : Nat) (ta ro mo : jZ), i + n = 3 → n + 1 < N1 → n + 1 < N2 → T ta mo → mo 32 0 = 0 → ro 7 0 = nI (P + 1) → vP ro mo P → fc ro P = i →
    (∃ re' ta' ro' mf, f_Reader_readMore_2 (nI P) N1 re ta ro (nI i) = some (re', ta', ro', 0) ∧ f_Mo_placeLine_61 (nI (12 + P)) N2 mo = some mf ∧ ¬ mf 32 0 = 0 ∧ re' 1 0 = mf 32 0 ∧ re' 2 0 = mf 33 0 ∧ oR mo mf ∧ (∀ q, q < 3 → ta' q = ta q)) ∨
    (∃ ta2 ro2 mo2, f_Reader_readMore_2 (nI P) N1 re ta ro (nI i) = some (re, ta2, ro2, 1) ∧ f_Mo_placeLine_61 (nI (12 + P)) N2 mo = some (up2 mo2 21 0 (mo2 21 0 + 1)) ∧ T ta2 mo2 ∧ mo2 32 0 = 0 ∧ vP ro2 mo2 P ∧ (mo 29 0).toInt ≤ (mo2 29 0).toInt ∧ (∀ q, q < 3 → ta2 q = ta q) ∧ (∀ q, q < 10 ∨ 13 < q → ro2 q = ro q) ∧ (∀ q p, p ≠ P → ro2 q p = ro q p) ∧ (∀ q, q < 10 ∨ (13 < q ∧ q < 28) ∨ 31 < q → mo2 q = mo q) ∧ (∀ q p, 10 ≤ q → q ≤ 13 → p ≠ 12 + P → mo2 q p = mo q p)) := by
  have tP : (nI P).toInt = P := nI_toInt (by omega)
  have t12 : (nI (12 + P)).toInt = ((12 + P : Nat) : Int) := nI_toInt (by omega)
  have tP1 : (nI (P + 1)).toInt = ((P + 1 : Nat) : Int) := nI_toInt (by omega)
  have i3 : (3 : Int32).toInt = 3 := rfl
  intro n
  induction n with
  | zero =>
    intro i N1 N2 ta ro mo hi hN1 hN2 hT h0 h7 hv hf
    obtain ⟨N1, rfl⟩ : ∃ k, N1 = k + 1 := ⟨N1 - 1, by omega⟩
    obtain ⟨N2, rfl⟩ : ∃ k, N2 = k + 1 + 1 := ⟨N2 - 2, by omega⟩
    have ti : (nI i).toInt = i := nI_toInt (by omega)
    have all : ¬ ro 10 P = 0 ∧ ¬ ro 11 P = 0 ∧ ¬ ro 12 P = -1 := by
      unfold fc at hf
      refine ⟨fun e => ?_, fun e => ?_, fun e => ?_⟩
      · rw [if_pos e] at hf; split at hf <;> split at hf <;> omega
      · rw [if_pos e] at hf; split at hf <;> split at hf <;> omega
      · rw [if_pos e] at hf; split at hf <;> split at hf <;> omega
    have hh : f_Road_has ro (nI P) = some 1 := by rw [has_eq, h7, if_pos (by omega)]
    have nf : ¬ (flt mo 3) 32 0 = 0 := by rw [flt_32]; decide
    have F140 : ∀ k61 v, f_Mo_placeLine_140 (nI (12 + P)) k61 (flt mo 3) v = some (flt mo 3) := fun k61 v => by unfold f_Mo_placeLine_140; rw [if_neg nf]
    have c10 : ¬ mo 10 (12 + P) = 0 := by rw [← hv.2.1.1]; exact all.1
    have c11 : ¬ mo 11 (12 + P) = 0 := by rw [← hv.2.2.1.1]; exact all.2.1
    have c12 : ¬ mo 12 (12 + P) = -1 := by rw [← hv.2.2.2.1.1]; exact all.2.2
    have F86 : ∀ k61, f_Mo_placeLine_86 (nI (12 + P)) k61 mo = some (flt mo 3) := fun k61 => by
      unfold f_Mo_placeLine_86
      rw [ix_ok (by omega) (by omega), i_tn, t12, Int.toNat_natCast, wrong_ok' h0]
      simp only [Option.bind_some, F140]
      rw [if_neg c10, if_neg c11, if_neg c12, ite_self, ite_self]
    rw [f_Reader_readMore_2, if_neg (by rw [i_lt]; omega), hh, Option.bind_some, if_neg (by decide), cwrd, cwrd, cwrd, Option.bind_some, Option.bind_some, Option.bind_some, f_Mo_placeLine_61, show (4 : Int32) = nI 4 from rfl, show (5 : Int32) = nI 5 from rfl, show (6 : Int32) = nI 6 from rfl, mwrd hT h0 4 (by decide), mwrd hT h0 5 (by decide), mwrd hT h0 6 (by decide), Option.bind_some, Option.bind_some, Option.bind_some, F86]
    have fin : ∀ re', re' = stp re ta 3 → ∃ re2 ta' ro' mf, some (re', ta, ro, (0 : Int32)) = some (re2, ta', ro', 0) ∧ (some (flt mo 3) : Option jZ) = some mf ∧ ¬ mf 32 0 = 0 ∧ re2 1 0 = mf 32 0 ∧ re2 2 0 = mf 33 0 ∧ oR mo mf ∧ (∀ q, q < 3 → ta' q = ta q) := fun re' h => ⟨_, _, _, _, rfl, rfl, nf, by rw [h, stp_1, flt_32], by rw [h, stp_2, flt_33, hT.2.1], flt_o mo 3, fun _ _ => rfl⟩
    by_cases w4 : ta 4 0 = 1 ∧ ta 5 0 = wv 4
    · left
      rw [if_pos (show ta 4 0 = 1 ∧ ta 5 0 = 419037184 from w4), if_neg (by decide), if_pos w4, if_neg (by decide)]
      unfold f_Reader_readLot
      rw [ix_ok (by omega) (by omega), Option.bind_some, i_tn, tP, Int.toNat_natCast, if_neg all.1]
      exact fin _ rfl
    rw [if_neg (show ¬ (ta 4 0 = 1 ∧ ta 5 0 = 419037184) from w4), if_pos rfl, if_neg w4, if_pos rfl]
    by_cases w5 : ta 4 0 = 1 ∧ ta 5 0 = wv 5
    · left
      rw [if_pos (show ta 4 0 = 1 ∧ ta 5 0 = 83623936 from w5), if_neg (by decide), if_pos w5, if_neg (by decide)]
      unfold f_Reader_readBox
      rw [ix_ok (by omega) (by omega), Option.bind_some, i_tn, tP, Int.toNat_natCast, if_neg all.2.1]
      exact fin _ rfl
    rw [if_neg (show ¬ (ta 4 0 = 1 ∧ ta 5 0 = 83623936) from w5), if_pos rfl, if_neg w5, if_pos rfl]
    by_cases w6 : ta 4 0 = 1 ∧ ta 5 0 = wv 6
    · left
      rw [if_pos (show ta 4 0 = 1 ∧ ta 5 0 = 788082272 from w6), if_neg (by decide), if_pos w6, if_neg (by decide)]
      unfold f_Reader_readWorks
      rw [ix_ok (by omega) (by omega), Option.bind_some, i_tn, tP, Int.toNat_natCast, if_neg all.2.2]
      exact fin _ rfl
    rw [if_neg (show ¬ (ta 4 0 = 1 ∧ ta 5 0 = 788082272) from w6), if_pos rfl, if_neg w6, if_pos rfl]
    right
    exact ⟨ta, ro, mo, rfl, rfl, hT, h0, hv, Int.le_refl _, fun _ _ => rfl, fun _ _ => rfl, fun _ _ _ => rfl, fun _ _ => rfl, fun _ _ _ _ _ => rfl⟩
  | succ n ih =>
    intro i N1 N2 ta ro mo hi hN1 hN2 hT h0 h7 hv hf
    obtain ⟨N1, rfl⟩ : ∃ k, N1 = k + 1 := ⟨N1 - 1, by omega⟩
    obtain ⟨N2, rfl⟩ : ∃ k, N2 = k + 1 + 1 := ⟨N2 - 2, by omega⟩
    have ti : (nI i).toInt = i := nI_toInt (by omega)
    have hh : f_Road_has ro (nI P) = some 1 := by rw [has_eq, h7, if_pos (by omega)]
    have nf3 : ¬ (flt mo 3) 32 0 = 0 := by rw [flt_32]; decide
    have F140 : ∀ k61 v, f_Mo_placeLine_140 (nI (12 + P)) k61 (flt mo 3) v = some (flt mo 3) := fun k61 v => by unfold f_Mo_placeLine_140; rw [if_neg nf3]
    obtain ⟨v9, v10, v11, v12, v13⟩ := id hv
    -- what is told already
    have told : ∃ re' ta' ro' mf, some (stp re ta 3, ta, ro, (0 : Int32)) = some (re', ta', ro', 0) ∧ (some (flt mo 3) : Option jZ) = some mf ∧ ¬ mf 32 0 = 0 ∧ re' 1 0 = mf 32 0 ∧ re' 2 0 = mf 33 0 ∧ oR mo mf ∧ (∀ q, q < 3 → ta' q = ta q) := ⟨_, _, _, _, rfl, rfl, nf3, by rw [stp_1, flt_32], by rw [stp_2, flt_33, hT.2.1], flt_o mo 3, fun _ _ => rfl⟩
    -- going on
    have go : ∀ (ta3 ro3 mo3 : jZ), T ta3 mo3 → mo3 32 0 = 0 → vP ro3 mo3 P → fc ro3 P = i + 1 → (mo 29 0).toInt ≤ (mo3 29 0).toInt → (∀ q, q < 3 → ta3 q = ta q) → (∀ q, q < 10 ∨ 13 < q → ro3 q = ro q) → (∀ q p, p ≠ P → ro3 q p = ro q p) → (∀ q, q < 10 ∨ (13 < q ∧ q < 28) ∨ 31 < q → mo3 q = mo q) → (∀ q p, 10 ≤ q → q ≤ 13 → p ≠ 12 + P → mo3 q p = mo q p) →
        (∃ re' ta' ro' mf, f_Reader_readMore_2 (nI P) N1 re ta3 ro3 (nI (i + 1)) = some (re', ta', ro', 0) ∧ f_Mo_placeLine_61 (nI (12 + P)) (N2 + 1) mo3 = some mf ∧ ¬ mf 32 0 = 0 ∧ re' 1 0 = mf 32 0 ∧ re' 2 0 = mf 33 0 ∧ oR mo mf ∧ (∀ q, q < 3 → ta' q = ta q)) ∨
        (∃ ta2 ro2 mo2, f_Reader_readMore_2 (nI P) N1 re ta3 ro3 (nI (i + 1)) = some (re, ta2, ro2, 1) ∧ f_Mo_placeLine_61 (nI (12 + P)) (N2 + 1) mo3 = some (up2 mo2 21 0 (mo2 21 0 + 1)) ∧ T ta2 mo2 ∧ mo2 32 0 = 0 ∧ vP ro2 mo2 P ∧ (mo 29 0).toInt ≤ (mo2 29 0).toInt ∧ (∀ q, q < 3 → ta2 q = ta q) ∧ (∀ q, q < 10 ∨ 13 < q → ro2 q = ro q) ∧ (∀ q p, p ≠ P → ro2 q p = ro q p) ∧ (∀ q, q < 10 ∨ (13 < q ∧ q < 28) ∨ 31 < q → mo2 q = mo q) ∧ (∀ q p, 10 ≤ q → q ≤ 13 → p ≠ 12 + P → mo2 q p = mo q p)) := fun ta3 ro3 mo3 a1 a2 a3 a4 a5 a6 a7 a8 a9 a10 => by
      rcases ih (i + 1) N1 (N2 + 1) ta3 ro3 mo3 (by omega) (by omega) (by omega) a1 a2 (by rw [a7 7 (by omega)]; exact h7) a3 a4 with ⟨re', ta', ro', mf, d1, d2, d3, d4, d5, d6, d7⟩ | ⟨ta2, ro2, mo2, d1, d2, d3, d4, d5, d6, d7, d8, d9, d10, d11⟩
      · left
        refine ⟨re', ta', ro', mf, d1, d2, d3, d4, d5, oR.tr ⟨fun q hq => a9 q (by omega), fun k _ => ⟨by rw [a9 5 (by omega)], by rw [a9 6 (by omega)]⟩, fun j _ => by rw [a9 7 (by omega)], fun q x y p hp => ?_, fun i _ => ⟨by rw [a9 15 (by omega)], by rw [a9 16 (by omega)]⟩⟩ d6, fun q hq => (d7 q hq).trans (a6 q hq)⟩
        by_cases e : q < 10
        · rw [a9 q (by omega)]
        · exact a10 q p (by omega) y (by omega)
      · right
        exact ⟨ta2, ro2, mo2, d1, d2, d3, d4, d5, by omega, fun q hq => (d7 q hq).trans (a6 q hq), fun q hq => (d8 q hq).trans (a7 q hq), fun q p hp => (d9 q p hp).trans (a8 q p hp), fun q hq => (d10 q hq).trans (a9 q hq), fun q p x y z => (d11 q p x y z).trans (a10 q p x y z)⟩
    -- a number that isn't one
    have badn : ∀ (ta1 mo1 : jZ) (x : Int32) (mf : jZ), T ta1 mo1 → ¬ x = 0 → (∀ q, q < 3 → ta1 q = ta q) → oR mo (flt mo1 x) → fR (flt mo1 x) mf → ∃ re' ta' ro' mf', some (stp re ta1 x, ta1, ro, (0 : Int32)) = some (re', ta', ro', 0) ∧ (some mf : Option jZ) = some mf' ∧ ¬ mf' 32 0 = 0 ∧ re' 1 0 = mf' 32 0 ∧ re' 2 0 = mf' 33 0 ∧ oR mo mf' ∧ (∀ q, q < 3 → ta' q = ta q) := fun ta1 mo1 x mf a1 a2 a3 a4 a5 => ⟨_, _, _, _, rfl, rfl, by rw [a5.1, flt_32]; exact a2, by rw [stp_1, a5.1, flt_32], by rw [stp_2, a5.2.1, flt_33, a1.2.1], a4.tr a5.2.2, a3⟩
    rw [f_Reader_readMore_2, if_neg (by rw [i_lt]; omega), hh, Option.bind_some, if_neg (by decide), cwrd, cwrd, cwrd, Option.bind_some, Option.bind_some, Option.bind_some, f_Mo_placeLine_61, show (4 : Int32) = nI 4 from rfl, show (5 : Int32) = nI 5 from rfl, show (6 : Int32) = nI 6 from rfl, mwrd hT h0 4 (by decide), mwrd hT h0 5 (by decide), mwrd hT h0 6 (by decide), Option.bind_some, Option.bind_some, Option.bind_some]
    by_cases w4 : ta 4 0 = 1 ∧ ta 5 0 = wv 4
    · have m31 := ((wd_iff hT.2.2.2.2 4 (by decide)).mp w4).2
      have n0 : ¬ ta 4 0 = 0 := by rw [w4.1]; decide
      rw [if_pos (show ta 4 0 = 1 ∧ ta 5 0 = 419037184 from w4), if_neg (by decide), if_pos w4, if_neg (by decide)]
      unfold f_Reader_readLot f_Mo_placeLine_86
      rw [ix_ok (show 0 ≤ (nI P).toInt by omega) (by omega), Option.bind_some, i_tn, tP, Int.toNat_natCast, m31, if_pos (show nI 4 = 4 from rfl), ix_ok (by omega) (by omega), Option.bind_some, i_tn, t12, Int.toNat_natCast, v10.1]
      by_cases e : mo 10 (12 + P) = 0
      · obtain ⟨ta1, mo1, s1, s2, s3, s4, s5, s6⟩ := step_ok hT.1
        have pl := tok_ne hT n0
        rw [if_pos e, if_pos e, s1, Option.bind_some, Option.bind_some, Option.bind_some]
        dsimp only
        rw [if_neg (by decide), nI_1]
        unfold f_Mo_placeLine_140
        rw [if_pos h0, s2, Option.bind_some, if_pos (show nI 4 = 4 from rfl), ix_ok (by omega) (by omega), Option.bind_some, i_tn, t12, Int.toNat_natCast]
        refine go ta1 (up2 ro 10 P 1) (up2 mo1 10 (12 + P) 1) (T_cg s3 (up2_k (by decide)) (fun q a b => up2_k (by omega))) (by rw [up2_k (by decide), s6 32 (by omega)]; exact h0) ?_ ?_ (by rw [up2_k (by decide)]; omega) s5 (fun q hq => up2_k (by omega)) (fun q p hp => ?_) (fun q hq => by rw [up2_k (by omega), s6 q (by omega)]) (fun q p x y z => ?_)
        · unfold vP
          rw [up2_s, up2_s, up2_k (by decide), up2_k (by decide), up2_k (by decide), up2_k (by decide), up2_k (by decide), up2_k (by decide), up2_k (by decide), up2_k (by decide), s6 9 (by omega), s6 11 (by omega), s6 12 (by omega), s6 13 (by omega)]
          exact ⟨v9, ⟨rfl, Or.inr rfl⟩, v11, v12, v13⟩
        · unfold fc at hf ⊢
          rw [v10.1, if_pos e] at hf
          rw [up2_s, if_neg (by decide), up2_k (by decide), up2_k (by decide)]; omega
        · by_cases g : q = 10
          · rw [g, up2_j hp]
          · rw [up2_k g]
        · by_cases g : q = 10
          · rw [g, up2_j z, s6 10 (by omega)]
          · rw [up2_k g, s6 q (by omega)]
      · left
        rw [if_neg e, if_neg e, wrong_ok' h0, Option.bind_some, F140]
        exact told
    rw [if_neg (show ¬ (ta 4 0 = 1 ∧ ta 5 0 = 419037184) from w4), if_pos rfl, if_neg w4, if_pos rfl]
    by_cases w5 : ta 4 0 = 1 ∧ ta 5 0 = wv 5
    · have m31 := ((wd_iff hT.2.2.2.2 5 (by decide)).mp w5).2
      have n0 : ¬ ta 4 0 = 0 := by rw [w5.1]; decide
      rw [if_pos (show ta 4 0 = 1 ∧ ta 5 0 = 83623936 from w5), if_neg (by decide), if_pos w5, if_neg (by decide)]
      unfold f_Reader_readBox f_Mo_placeLine_86
      rw [ix_ok (show 0 ≤ (nI P).toInt by omega) (by omega), Option.bind_some, i_tn, tP, Int.toNat_natCast, m31, if_neg (show ¬ nI 5 = 4 by decide), if_pos (show nI 5 = 5 from rfl), ix_ok (by omega) (by omega), Option.bind_some, i_tn, t12, Int.toNat_natCast, v11.1]
      by_cases e : mo 11 (12 + P) = 0
      · obtain ⟨ta1, mo1, s1, s2, s3, s4, s5, s6⟩ := step_ok hT.1
        have pl := tok_ne hT n0
        have h01 : mo1 32 0 = 0 := by rw [s6 32 (by omega)]; exact h0
        rw [if_pos e, if_pos e, s1, Option.bind_some]
        unfold f_Mo_placeLine_140
        rw [if_pos h0, s2, Option.bind_some, if_neg (show ¬ nI 5 = 4 by decide), if_pos (show nI 5 = 5 from rfl)]
        rcases num_ok s3 h01 1 8 (by decide) (by decide) with ⟨x, hx, c1, c2⟩ | ⟨ta3, mo3, v, c1, c2, c3, c4, c5, c6, c7, c8⟩
        · left
          have nf : ¬ (flt mo1 x) 32 0 = 0 := by rw [flt_32]; exact hx
          rw [c1, c2, Option.bind_some, Option.bind_some]
          dsimp only
          rw [if_pos rfl, Option.bind_some, ix_ok (by omega) (by omega), Option.bind_some, i_tn, t12, Int.toNat_natCast, pl_f (nI (12 + P)) (by rw [up2_k (by decide)]; exact nf) N2]
          exact badn ta1 mo1 x _ s3 hx s5 ((oQx s6).tr (flt_o mo1 x)) ⟨by rw [up2_k (by decide), up2_k (by decide)], by rw [up2_k (by decide), up2_k (by decide)], (oN12 P _ 11 (by omega) 1).tr (o21 _ _)⟩
        · have i1 : (1 : Int32).toInt = 1 := rfl
          have i8 : (8 : Int32).toInt = 8 := rfl
          rw [c1, c2, Option.bind_some, Option.bind_some]
          dsimp only
          rw [if_neg c4, Option.bind_some, Option.bind_some]
          dsimp only
          rw [if_neg (by decide), nI_1, ix_ok (by omega) (by omega), Option.bind_some, i_tn, t12, Int.toNat_natCast]
          refine go ta3 (up2 ro 11 P v) (up2 mo3 11 (12 + P) v) (T_cg c5 (up2_k (by decide)) (fun q a b => up2_k (by omega))) (by rw [up2_k (by decide), c8 32 (by omega)]; exact h01) ?_ ?_ (by rw [up2_k (by decide)]; omega) (fun q hq => (c7 q hq).trans (s5 q hq)) (fun q hq => up2_k (by omega)) (fun q p hp => ?_) (fun q hq => by rw [up2_k (by omega), c8 q (by omega), s6 q (by omega)]) (fun q p x y z => ?_)
          · unfold vP
            rw [up2_s, up2_s, up2_k (by decide), up2_k (by decide), up2_k (by decide), up2_k (by decide), up2_k (by decide), up2_k (by decide), up2_k (by decide), up2_k (by decide), c8 9 (by omega), c8 10 (by omega), c8 12 (by omega), c8 13 (by omega), s6 9 (by omega), s6 10 (by omega), s6 12 (by omega), s6 13 (by omega)]
            exact ⟨v9, v10, ⟨rfl, by omega, by omega⟩, v12, v13⟩
          · unfold fc at hf ⊢
            rw [v11.1, if_pos e] at hf
            rw [up2_k (by decide), up2_s, if_neg (show ¬ v = 0 by rw [i_eq, show (0 : Int32).toInt = 0 from rfl]; omega), up2_k (by decide)]; omega
          · by_cases g : q = 11
            · rw [g, up2_j hp]
            · rw [up2_k g]
          · by_cases g : q = 11
            · rw [g, up2_j z, c8 11 (by omega), s6 11 (by omega)]
            · rw [up2_k g, c8 q (by omega), s6 q (by omega)]
      · left
        rw [if_neg e, if_neg e, wrong_ok' h0, Option.bind_some, F140]
        exact told
    rw [if_neg (show ¬ (ta 4 0 = 1 ∧ ta 5 0 = 83623936) from w5), if_pos rfl, if_neg w5, if_pos rfl]
    by_cases w6 : ta 4 0 = 1 ∧ ta 5 0 = wv 6
    · have m31 := ((wd_iff hT.2.2.2.2 6 (by decide)).mp w6).2
      have n0 : ¬ ta 4 0 = 0 := by rw [w6.1]; decide
      rw [if_pos (show ta 4 0 = 1 ∧ ta 5 0 = 788082272 from w6), if_neg (by decide), if_pos w6, if_neg (by decide)]
      unfold f_Reader_readWorks f_Mo_placeLine_86
      rw [ix_ok (show 0 ≤ (nI P).toInt by omega) (by omega), Option.bind_some, i_tn, tP, Int.toNat_natCast, m31, if_neg (show ¬ nI 6 = 4 by decide), if_neg (show ¬ nI 6 = 5 by decide), ix_ok (by omega) (by omega), Option.bind_some, i_tn, t12, Int.toNat_natCast, v12.1]
      by_cases e : mo 12 (12 + P) = -1
      · obtain ⟨ta1, mo1, s1, s2, s3, s4, s5, s6⟩ := step_ok hT.1
        have pl := tok_ne hT n0
        have h01 : mo1 32 0 = 0 := by rw [s6 32 (by omega)]; exact h0
        rw [if_pos e, if_pos e, s1, Option.bind_some]
        unfold f_Mo_placeLine_140
        rw [if_pos h0, s2, Option.bind_some, if_neg (show ¬ nI 6 = 4 by decide), if_neg (show ¬ nI 6 = 5 by decide)]
        rcases num_ok s3 h01 0 8 (by decide) (by decide) with ⟨x, hx, c1, c2⟩ | ⟨ta3, mo3, v, c1, c2, c3, c4, c5, c6, c7, c8⟩
        · left
          have nf : ¬ (flt mo1 x) 32 0 = 0 := by rw [flt_32]; exact hx
          have nf2 : ¬ (up2 (flt mo1 x) 12 (12 + P) 0) 32 0 = 0 := by rw [up2_k (by decide)]; exact nf
          rw [c1, c2, Option.bind_some, Option.bind_some]
          dsimp only
          rw [if_pos rfl, ix_ok (by omega) (by omega), Option.bind_some, i_tn, t12, Int.toNat_natCast, num_f nf2, Option.bind_some, Option.bind_some]
          unfold f_Reader_readWorks_47
          rw [if_pos rfl, Option.bind_some, pl_f (nI (12 + P)) (by rw [up2_k (by decide)]; exact nf2) N2]
          exact badn ta1 mo1 x _ s3 hx s5 ((oQx s6).tr (flt_o mo1 x)) ⟨by dsimp only; rw [up2_k (by decide), up2_k (by decide), up2_k (by decide)], by dsimp only; rw [up2_k (by decide), up2_k (by decide), up2_k (by decide)], (oN12 P _ 12 (by omega) 0).tr ((oN12 P _ 13 (by omega) 0).tr (o21 _ _))⟩
        · have i0 : (0 : Int32).toInt = 0 := rfl
          have i8 : (8 : Int32).toInt = 8 := rfl
          have i9 : (9 : Int32).toInt = 9 := rfl
          rw [c1, c2, Option.bind_some, Option.bind_some]
          dsimp only
          rw [if_neg c4, ix_ok (show 0 ≤ (nI (12 + P)).toInt by omega) (by omega), Option.bind_some, i_tn, t12, Int.toNat_natCast]
          have hT4 : T ta3 (up2 mo3 12 (12 + P) v) := T_cg c5 (up2_k (by decide)) (fun q a b => up2_k (by omega))
          have h04 : (up2 mo3 12 (12 + P) v) 32 0 = 0 := by rw [up2_k (by decide), c8 32 (by omega)]; exact h01
          rcases num_ok hT4 h04 0 9 (by decide) (by decide) with ⟨x, hx, d1, d2⟩ | ⟨ta5, mo5, u, d1, d2, d3, d4, d5, d6, d7, d8⟩
          · left
            have nf : ¬ (flt (up2 mo3 12 (12 + P) v) x) 32 0 = 0 := by rw [flt_32]; exact hx
            rw [d1, d2, Option.bind_some, Option.bind_some]
            dsimp only
            unfold f_Reader_readWorks_47
            rw [if_pos rfl, Option.bind_some, Option.bind_some, pl_f (nI (12 + P)) (by rw [up2_k (by decide)]; exact nf) N2]
            exact badn ta3 (up2 mo3 12 (12 + P) v) x _ hT4 hx (fun q hq => (c7 q hq).trans (s5 q hq)) ((oQx s6).tr ((oQx c8).tr ((oN12 P _ 12 (by omega) v).tr (flt_o _ x)))) ⟨by rw [up2_k (by decide), up2_k (by decide)], by rw [up2_k (by decide), up2_k (by decide)], (oN12 P _ 13 (by omega) 0).tr (o21 _ _)⟩
          · rw [d1, d2, Option.bind_some, Option.bind_some]
            dsimp only
            unfold f_Reader_readWorks_47
            rw [if_neg d4, ix_ok (show 0 ≤ (nI P).toInt by omega) (by omega), Option.bind_some, Option.bind_some, i_tn, tP, Int.toNat_natCast, Option.bind_some]
            dsimp only
            rw [if_neg (by decide), nI_1, Option.bind_some]
            rw [show (up2 mo3 12 (12 + P) v) 29 0 = mo3 29 0 by rw [up2_k (by decide)]] at d6
            have k12 : mo5 12 = (up2 mo3 12 (12 + P) v) 12 := d8 12 (by omega)
            have kq : ∀ q, q ≠ 12 → q < 28 ∨ 31 < q → mo5 q = mo q := fun q a b => by rw [d8 q b, up2_k a, c8 q b, s6 q b]
            refine go ta5 (up2 (up2 ro 12 P v) 13 P u) (up2 mo5 13 (12 + P) u) (T_cg d5 (up2_k (by decide)) (fun q a b => up2_k (by omega))) (by rw [up2_k (by decide), d8 32 (by omega)]; exact h04) ?_ ?_ (by rw [up2_k (by decide)]; omega) (fun q hq => by rw [d7 q hq, c7 q hq, s5 q hq]) (fun q hq => by rw [up2_k (by omega), up2_k (by omega)]) (fun q p hp => ?_) (fun q hq => by rw [up2_k (by omega), kq q (by omega) (by omega)]) (fun q p x y z => ?_)
            · unfold vP
              have R : ∀ q, q ≠ 12 → q ≠ 13 → up2 (up2 ro 12 P v) 13 P u q = ro q := fun q a b => by rw [up2_k b, up2_k a]
              have M : ∀ q, q ≠ 12 → q ≠ 13 → q < 28 → up2 mo5 13 (12 + P) u q = mo q := fun q a b c => by rw [up2_k b, kq q a (by omega)]
              rw [R 9 (by decide) (by decide), R 10 (by decide) (by decide), R 11 (by decide) (by decide), M 9 (by decide) (by decide) (by decide), M 10 (by decide) (by decide) (by decide), M 11 (by decide) (by decide) (by decide), show up2 (up2 ro 12 P v) 13 P u 12 P = v by rw [up2_k (by decide), up2_s], show up2 mo5 13 (12 + P) u 12 (12 + P) = v by rw [up2_k (by decide), k12, up2_s], show up2 (up2 ro 12 P v) 13 P u 13 P = u from up2_s, show up2 mo5 13 (12 + P) u 13 (12 + P) = u from up2_s]
              exact ⟨v9, v10, v11, ⟨rfl, by omega, by omega⟩, ⟨rfl, by omega, by omega⟩⟩
            · unfold fc at hf ⊢
              rw [v12.1, if_pos e] at hf
              rw [up2_k (by decide), up2_k (by decide), up2_k (by decide), up2_k (by decide), up2_k (by decide), up2_s, if_neg c4]; omega
            · by_cases g : q = 13
              · rw [g, up2_j hp, up2_k (by decide)]
              · rw [up2_k g]
                by_cases g2 : q = 12
                · rw [g2, up2_j hp]
                · rw [up2_k g2]
            · by_cases g : q = 13
              · rw [g, up2_j z, kq 13 (by decide) (by omega)]
              · rw [up2_k g]
                by_cases g2 : q = 12
                · rw [g2, k12, up2_j z, c8 12 (by omega), s6 12 (by omega)]
                · rw [kq q g2 (by omega)]
      · left
        rw [if_neg e, if_neg e, wrong_ok' h0, Option.bind_some, F140]
        exact told
    rw [if_neg (show ¬ (ta 4 0 = 1 ∧ ta 5 0 = 788082272) from w6), if_pos rfl, if_neg w6, if_pos rfl]
    right
    exact ⟨ta, ro, mo, rfl, rfl, hT, h0, hv, Int.le_refl _, fun _ _ => rfl, fun _ _ => rfl, fun _ _ _ => rfl, fun _ _ => rfl, fun _ _ _ _ _ => rfl⟩
