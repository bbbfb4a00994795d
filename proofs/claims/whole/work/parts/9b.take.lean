theorem oR.ofX {a b : jZ} (h : XR a b) : oR a b := ⟨fun q hq => h.1 q (by omega), fun k _ => ⟨by rw [h.1 5 (by omega)], by rw [h.1 6 (by omega)]⟩, fun j _ => by rw [h.1 7 (by omega)], fun q x y p _ => by rw [h.1 q (by omega)], fun i hi => h.2.1 i hi⟩
theorem tk_mono : ∀ (N : Nat) (re ta ru mo : jZ) (v : Int32) (re' ta' ru' : jZ) (r : Int32), T ta mo → f_Reader_readTake_54 N re ta ru v = some (re', ta', ru', r) → (ta 6 0).toInt ≤ (ta' 6 0).toInt := by
  intro N
  induction N with
  | zero => intro re ta ru mo v re' ta' ru' r hT h; rw [f_Reader_readTake_54] at h; exact absurd h (by simp)
  | succ N ih =>
    intro re ta ru mo v re' ta' ru' r hT h
    have ST : ∀ re1 ru1 w, (f_Tape_step ta).bind (fun q => f_Reader_readTake_54 N re1 q ru1 w) = some (re', ta', ru', r) → (ta 6 0).toInt ≤ (ta' 6 0).toInt := fun re1 ru1 w e => by
      obtain ⟨ta2, mo2, s1, s2, s3, s4, s5, s6⟩ := step_ok hT.1
      rw [s1, Option.bind_some] at e
      have := ih re1 ta2 ru1 mo2 w _ _ _ _ s3 e
      have c := hT.2.2.1
      rw [s3.2.1] at this; rw [hT.2.1]; omega
    have SM : ∀ (a : jZ) (b : jZ) (x : Int32), some (a, ta, b, x) = some (re', ta', ru', r) → (ta 6 0).toInt ≤ (ta' 6 0).toInt := fun a b x e => by
      have : ta = ta' := congrArg (fun z => z.2.1) (Option.some.inj e)
      rw [this]; exact Int.le_refl _
    have E95 : f_Reader_readTake_95 (fun re_z ta_z ru_z v2 => f_Reader_readTake_54 N re_z ta_z ru_z v2) re ta ru v = some (re', ta', ru', r) → (ta 6 0).toInt ≤ (ta' 6 0).toInt := by
      intro e
      unfold f_Reader_readTake_95 at e
      by_cases c : re 8 0 = 0
      · rw [if_pos c] at e
        cases f : f_Reader_readBehind re ta ru with
        | none => rw [f] at e; exact absurd e (by simp)
        | some q =>
          rw [f, Option.bind_some] at e
          by_cases d : q.2.2 = 0
          · rw [if_pos d] at e; exact SM _ _ _ e
          · rw [if_neg d] at e; exact ST _ _ _ e
      · rw [if_neg c] at e
        cases f : f_Reader_readValue re ta ru with
        | none => rw [f] at e; exact absurd e (by simp)
        | some q =>
          rw [f, Option.bind_some] at e
          by_cases d : q.2.2 = 0
          · rw [if_pos d] at e; exact SM _ _ _ e
          · rw [if_neg d] at e; exact ST _ _ _ e
    rw [f_Reader_readTake_54] at h
    by_cases c0 : 600 < v
    · rw [if_pos c0] at h
      exact SM _ _ _ (show some (_, ta, ru, _) = _ from h)
    rw [if_neg c0] at h
    by_cases c8 : re 8 0 = 0
    · rw [if_pos c8] at h
      by_cases c6 : re 6 0 = 0
      · rw [if_pos c6, csig, Option.bind_some] at h
        by_cases c : ta 4 0 = 3 ∧ ta 5 0 = 59
        · rw [if_pos c, if_neg (show ¬ (1 : Int32) = 0 by decide)] at h
          cases f : f_Reader_layDown re ru 1 with
          | none => rw [f] at h; exact absurd h (by simp)
          | some q => rw [f, Option.bind_some] at h; exact SM _ _ _ h
        · rw [if_neg c, if_pos rfl] at h; exact E95 h
      · rw [if_neg c6] at h; exact E95 h
    · rw [if_neg c8] at h; exact E95 h
def tk0 (re : jZ) : jZ := up2 (up2 (up2 (up2 (up2 (up2 re 5 0 0) 6 0 0) 7 0 0) 4 (Int32.toNatClampNeg 0) 0) 8 0 1) 9 0 1
def nR (ru mo : jZ) (s : Nat) : Prop := ru 0 0 = nI s ∧ mo 22 0 = nI s ∧ s ≤ 64 ∧ (∀ i, i < s → kStep (ru 1 i) (mo 15 (64 + i)) (mo 16 (64 + i)) ∧ okI mo i) ∧ (s = 0 ∨ DD mo s = 1)
theorem TAKEx {ta mo ru : jZ} (hT : T ta mo) (h0 : mo 32 0 = 0) (hr : ru 0 0 = 0) (h22 : mo 22 0 = 0) (h36 : mo 36 0 = 0) (h37 : mo 37 0 = 0) (re : jZ) :
    (∃ re' ta' ru' mf, f_Reader_readTake_54 FU (tk0 re) ta ru 0 = some (re', ta', ru', 0) ∧ ((f_Mo_grp DG 0 mo).bind fun q33 => f_Mo_line_188 q33) = some mf ∧ ¬ mf 32 0 = 0 ∧ re' 1 0 = mf 32 0 ∧ re' 2 0 = mf 33 0 ∧ oR mo mf ∧ (∀ q, q < 3 → ta' q = ta q)) ∨
    (∃ re2 ta2 ru2 mo2 s, f_Reader_readTake_54 FU (tk0 re) ta ru 0 = some (re2, ta2, ru2, 1) ∧ f_Mo_grp DG 0 mo = some mo2 ∧ T ta2 mo2 ∧ mo2 32 0 = 0 ∧ re2 1 0 = re 1 0 ∧ re2 2 0 = re 2 0 ∧ nR ru2 mo2 s ∧ 0 < s ∧ (mo 29 0).toInt ≤ (mo2 29 0).toInt ∧ (∀ q, q < 3 → ta2 q = ta q) ∧ XR mo mo2) := by
  have n0 : nI 0 = 0 := rfl
  have i1 : (1 : Int32).toInt = 1 := rfl
  have tl : ∀ re ta ru, tLP 0 re ta ru = f_Reader_readTake_54 FU re ta ru 0 := fun re ta ru => by unfold tLP; rw [Nat.sub_zero, n0]
  have k1 : (tk0 re) 1 = re 1 := by unfold tk0; rw [up2_k (by decide), up2_k (by decide), up2_k (by decide), up2_k (by decide), up2_k (by decide), up2_k (by decide)]
  have k2 : (tk0 re) 2 = re 2 := by unfold tk0; rw [up2_k (by decide), up2_k (by decide), up2_k (by decide), up2_k (by decide), up2_k (by decide), up2_k (by decide)]
  have k5 : (tk0 re) 5 0 = 0 := by unfold tk0; rw [up2_k (by decide), up2_k (by decide), up2_k (by decide), up2_k (by decide), up2_k (by decide), up2_s]
  have k6 : (tk0 re) 6 0 = 0 := by unfold tk0; rw [up2_k (by decide), up2_k (by decide), up2_k (by decide), up2_k (by decide), up2_s]
  have k7 : (tk0 re) 7 0 = 0 := by unfold tk0; rw [up2_k (by decide), up2_k (by decide), up2_k (by decide), up2_s]
  have k4 : (tk0 re) 4 0 = 0 := by unfold tk0; rw [up2_k (by decide), up2_k (by decide), show Int32.toNatClampNeg 0 = 0 from rfl, up2_s]
  have k8 : (tk0 re) 8 0 = 1 := by unfold tk0; rw [up2_k (by decide), up2_s]
  have k9 : (tk0 re) 9 0 = 1 := by unfold tk0; rw [up2_s]
  have L : ∀ mf : jZ, ¬ mf 32 0 = 0 → f_Mo_line_188 mf = some mf := fun mf nf => by unfold f_Mo_line_188; rw [if_neg nf]
  have hP : PRE 0 0 0 0 0 0 (tk0 re) ta ru mo := by
    refine ⟨⟨⟨k5, k6, h36, k7, h37⟩, ⟨by omega, by omega, by omega⟩, rfl, rfl, hr, rfl, h22, fun i hi => absurd hi (by omega), fun j hj => absurd hj (by omega)⟩, hT, h0, k8, fun _ => k9, fun h => absurd h (by omega), Or.inl rfl, fun _ => k4, ?_⟩
    have := hT.2.2.1
    omega
  rcases PH DG 0 0 0 0 0 0 0 (tk0 re) ta ru mo (by omega) (by decide) hP rfl with ⟨mf, R, X, nf, re', ta', ru', e1, e2, e3, e4⟩ | ⟨mo', re', ta', ru', v', c', t', s', R, e, ⟨g1, g2, g3, g4, g5, g6, g7⟩, f, -, x, p, tq, -⟩
  · left
    rw [tl] at e1
    rw [R, Option.bind_some, L mf nf]
    exact ⟨re', ta', ru', mf, e1, rfl, nf, e2, e3, oR.ofX X, e4⟩
  · have v6 : v' ≤ 600 := by have := T_600 g2; omega
    obtain ⟨⟨a1, a2, a3, a4, a5⟩, ⟨b1, b2, b3⟩, b4, b5, b6, b7, b8, b9, b10⟩ := id g1
    rw [tl] at e
    by_cases h59 : ta' 4 0 = 3 ∧ ta' 5 0 = 59
    · right
      obtain ⟨re2, ru2, l1, l2, l3, l4, l5, l6⟩ := ld_ok 1 t' FU re' ru' 0 t' s' (by omega) (by omega) (by unfold FU; omega) a1 b6 (by omega) (fun j u w => by have := g5 j u w; rw [i1]; exact this) (Or.inl rfl)
      rw [tLP_end v6 g4 a2 h59, show f_Reader_layDown re' ru' 1 = some (re2, ru2) from l1, Option.bind_some] at e
      have mm := tk_mono FU _ _ _ mo 0 _ _ _ _ hT e
      rw [hT.2.1, g2.2.1] at mm
      obtain ⟨p1, p2, p3, p4⟩ := p
      rw [Nat.sub_zero] at p3 p4 b8
      have d0 : DD mo' 0 = 0 := rfl
      have sp : 0 < s' + t' := by
        rcases Nat.eq_zero_or_pos (s' + t') with z | z
        · rw [z] at p3; omega
        · exact z
      refine ⟨re2, ta', ru2, mo', s' + t', e, R, g2, g3, by rw [l3 1 (by decide), f.2.2.1, k1], by rw [l3 2 (by decide), f.2.2.2, k2], ⟨l4, b8, by omega, fun i hi => ⟨?_, p4 i (by omega) hi⟩, Or.inr (by rw [p3, d0])⟩, sp, mm, tq, x⟩
      by_cases c : i < s'
      · rw [l5 i c]; exact b9 i c
      · have h1 := l6 (i - s') (by omega)
        have h2 := b10 (i - s') (by omega)
        rw [show s' + (i - s') = i by omega] at h1
        rw [show 64 + s' + (i - s') = 64 + i by omega] at h2
        rw [h1]; exact h2
    · left
      have B : f_Reader_readBehind re' ta' ru' = some (up2 (up2 re' 1 0 1) 2 0 (ta' 6 0), ru', 0) := by
        by_cases h41 : ta' 4 0 = 3 ∧ ta' 5 0 = 41
        · unfold f_Reader_readBehind
          rw [csig, if_pos h41, Option.bind_some, if_neg (by decide)]
          unfold f_Reader_putClose
          rw [a2, if_neg (by decide)]
          rfl
        · exact STUCK g2 b2 a2 g6 h41
      rw [tLP_beh v6 g4 (fun _ => h59), B, Option.bind_some, if_pos rfl] at e
      rw [R, Option.bind_some]
      unfold f_Mo_line_188
      rw [if_pos g3, msig g2 g3 59 (by unfold isSg; simp), if_neg h59, Option.bind_some, if_pos rfl, wrong_ok g3, Option.bind_some]
      refine ⟨_, _, _, _, e, rfl, ?_, ?_, ?_, ?_, tq⟩
      · rw [up2_k (by decide), up2_k (by decide), up2_s]; decide
      · dsimp only; rw [up2_k (by decide), up2_s, up2_k (by decide), up2_k (by decide), up2_s]
      · dsimp only; rw [up2_s, up2_k (by decide), up2_s]; exact g2.2.1
      · exact (oR.ofX x).tr (oR.of (fun q hq => by rw [up2_k (by omega), up2_k (by omega), up2_k (by omega)]))
