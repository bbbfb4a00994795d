/-! ===== the lines of a text ===== -/
/-- what was told before stays -/
def oR (mo mo' : jZ) : Prop := (∀ q, q = 1 ∨ q = 2 ∨ q = 3 ∨ q = 4 ∨ q = 14 ∨ q = 17 ∨ q = 18 ∨ q = 19 ∨ (38 ≤ q ∧ q ≤ 42) → mo' q = mo q) ∧ (∀ k, k < 5 → mo' 5 k = mo 5 k ∧ mo' 6 k = mo 6 k) ∧ (∀ j, j < 50 → mo' 7 j = mo 7 j) ∧ (∀ q, 8 ≤ q → q ≤ 13 → ∀ p, p < 12 → mo' q p = mo q p) ∧ (∀ i, i < 64 → mo' 15 i = mo 15 i ∧ mo' 16 i = mo 16 i)
theorem oR.rf (mo : jZ) : oR mo mo := ⟨fun _ _ => rfl, fun _ _ => ⟨rfl, rfl⟩, fun _ _ => rfl, fun _ _ _ _ _ => rfl, fun _ _ => ⟨rfl, rfl⟩⟩
theorem oR.tr {a b c : jZ} (h : oR a b) (g : oR b c) : oR a c := ⟨fun q hq => (g.1 q hq).trans (h.1 q hq), fun k hk => ⟨(g.2.1 k hk).1.trans (h.2.1 k hk).1, (g.2.1 k hk).2.trans (h.2.1 k hk).2⟩, fun j hj => (g.2.2.1 j hj).trans (h.2.2.1 j hj), fun q a b p hp => (g.2.2.2.1 q a b p hp).trans (h.2.2.2.1 q a b p hp), fun i hi => ⟨(g.2.2.2.2 i hi).1.trans (h.2.2.2.2 i hi).1, (g.2.2.2.2 i hi).2.trans (h.2.2.2.2 i hi).2⟩⟩
theorem oR.of {a b : jZ} (h : ∀ q, (1 ≤ q ∧ q ≤ 19) ∨ (38 ≤ q ∧ q ≤ 42) → b q = a q) : oR a b := ⟨fun q hq => h q (by omega), fun k _ => ⟨by rw [h 5 (by omega)], by rw [h 6 (by omega)]⟩, fun j _ => by rw [h 7 (by omega)], fun q _ _ p _ => by rw [h q (by omega)], fun i _ => ⟨by rw [h 15 (by omega)], by rw [h 16 (by omega)]⟩⟩
theorem XR.oR {a b : jZ} (h : XR a b) : oR a b := ⟨fun q hq => h.1 q (by omega), fun k _ => ⟨by rw [h.1 5 (by omega)], by rw [h.1 6 (by omega)]⟩, fun j _ => by rw [h.1 7 (by omega)], fun q _ _ p _ => by rw [h.1 q (by omega)], h.2.1⟩
/-- a fault that is told stays as it is -/
def fR (mf mf' : jZ) : Prop := mf' 32 = mf 32 ∧ mf' 33 = mf 33 ∧ oR mf mf'
theorem fR.rf (m : jZ) : fR m m := ⟨rfl, rfl, oR.rf m⟩
theorem fR.tr {a b c : jZ} (h : fR a b) (g : fR b c) : fR a c := ⟨g.1.trans h.1, g.2.1.trans h.2.1, h.2.2.tr g.2.2⟩
def flt (mo : jZ) (x : Int32) : jZ := up2 (up2 mo 32 0 x) 33 0 (mo 29 0)
theorem flt_32 (mo : jZ) (x : Int32) : flt mo x 32 0 = x := by unfold flt; rw [up2_k (by decide), up2_s]
theorem flt_33 (mo : jZ) (x : Int32) : flt mo x 33 0 = mo 29 0 := by unfold flt; rw [up2_s]
theorem flt_q (mo : jZ) (x : Int32) {q : Nat} (a : q ≠ 32) (b : q ≠ 33) : flt mo x q = mo q := by unfold flt; rw [up2_k b, up2_k a]
theorem flt_o (mo : jZ) (x : Int32) : oR mo (flt mo x) := oR.of (fun q hq => flt_q mo x (by omega) (by omega))
theorem wrong_ok' {mo : jZ} (h0 : mo 32 0 = 0) (x : Int32) : f_Mo_wrong mo x = some (flt mo x) := wrong_ok h0 x
theorem wrong_f {mf : jZ} (nf : ¬ mf 32 0 = 0) (x : Int32) : f_Mo_wrong mf x = some mf := by unfold f_Mo_wrong; rw [if_neg nf]
theorem num_f {mf : jZ} (nf : ¬ mf 32 0 = 0) (lo hi : Int32) : f_Mo_numeral mf lo hi = some (mf, lo) := by unfold f_Mo_numeral; rw [if_neg nf]
def stp (re ta : jZ) (x : Int32) : jZ := up2 (up2 re 1 0 x) 2 0 (ta 6 0)
theorem stp_1 (re ta : jZ) (x : Int32) : stp re ta x 1 0 = x := by unfold stp; rw [up2_k (by decide), up2_s]
theorem stp_2 (re ta : jZ) (x : Int32) : stp re ta x 2 0 = ta 6 0 := by unfold stp; rw [up2_s]
theorem stop_eq (re ta : jZ) (x : Int32) : f_Reader_stop re ta x = some (stp re ta x, 0) := rfl
/-- a number: a fault on both sides, or the same number -/
theorem num_ok {ta mo : jZ} (hT : T ta mo) (h0 : mo 32 0 = 0) (lo hi : Int32) (hlo : 0 ≤ lo.toInt) (hhi : hi.toInt ≤ 99) :
    (∃ x, ¬ x = 0 ∧ (∀ re, f_Reader_readNumber re ta lo hi = some (stp re ta x, ta, -1)) ∧ f_Mo_numeral mo lo hi = some (flt mo x, lo)) ∨
    (∃ ta1 mo1 n, (∀ re, f_Reader_readNumber re ta lo hi = some (re, ta1, n)) ∧ f_Mo_numeral mo lo hi = some (mo1, n) ∧ (lo.toInt ≤ n.toInt ∧ n.toInt ≤ hi.toInt) ∧ ¬ n = -1 ∧ T ta1 mo1 ∧ (mo 29 0).toInt + 1 ≤ (mo1 29 0).toInt ∧ (∀ q, q < 3 → ta1 q = ta q) ∧ (∀ q, q < 28 ∨ 31 < q → mo1 q = mo q)) := by
  have hk := hT.2.2.2.2
  have i999 : (999 : Int32).toInt = 999 := rfl
  have bad : ∀ x : Int32, ¬ x = 0 → (flt mo x) 32 0 ≠ 0 := fun x hx => by rw [flt_32]; exact hx
  by_cases c : mo 30 0 = 2
  · have cc : ta 4 0 = 2 ∧ dR (ta 5 0) (mo 31 0) := by
      rcases hk with ⟨-, z⟩ | ⟨-, z, -⟩ | ⟨-, z, -⟩ | ⟨-, z⟩ | ⟨y, -, x⟩ | ⟨-, z, -⟩ | ⟨-, z, -⟩
      · rw [c] at z; exact absurd z (by decide)
      · rw [c] at z; exact absurd z (by decide)
      · rw [c] at z; exact absurd z (by decide)
      · rw [c] at z; exact absurd z (by decide)
      · exact ⟨y, x⟩
      · rw [c] at z; exact absurd z (by decide)
      · rw [c] at z; exact absurd z (by decide)
    have big : ¬ (lo.toInt ≤ (mo 31 0).toInt ∧ (mo 31 0).toInt ≤ hi.toInt) → f_Mo_numeral mo lo hi = some (flt mo 2, lo) := fun h => by
      unfold f_Mo_numeral f_Mo_numeral_41
      rw [if_pos h0, if_pos c, wrong_ok' h0, Option.bind_some, if_neg (bad 2 (by decide))]
      by_cases d : mo 31 0 < lo
      · rw [if_pos d]
      · rw [if_neg d]
        rw [i_lt] at d
        rw [if_neg (by rw [i_le]; omega)]
    have cl : ∀ re, f_Reader_readNumber re ta lo hi = if lo.toInt ≤ (ta 5 0).toInt ∧ (ta 5 0).toInt ≤ hi.toInt then (f_Tape_step ta).bind fun q5 => some (re, q5, (ta 5 0)) else some (stp re ta 2, ta, -1) := fun re => by
      unfold f_Reader_readNumber
      rw [if_pos cc.1, within_eq, Option.bind_some]
      by_cases d : lo.toInt ≤ (ta 5 0).toInt ∧ (ta 5 0).toInt ≤ hi.toInt
      · rw [if_pos d, if_neg (by decide), if_pos d]
      · rw [if_neg d, if_pos rfl, if_neg d]; rfl
    rcases cc.2 with ⟨v1, v2, v3⟩ | ⟨v1, v2, v3⟩
    · by_cases d : lo.toInt ≤ (mo 31 0).toInt ∧ (mo 31 0).toInt ≤ hi.toInt
      · right
        obtain ⟨ta1, mo1, s1, s2, s3, s4, s5, s6⟩ := step_ok hT.1
        have pl := tok_ne hT (by rw [cc.1]; decide)
        refine ⟨ta1, mo1, mo 31 0, fun re => ?_, ?_, d, fun e => ?_, s3, by omega, s5, s6⟩
        · rw [cl, v1, if_pos d, s1, Option.bind_some]
        · unfold f_Mo_numeral
          rw [if_pos h0, if_pos c, if_neg (by rw [i_lt]; omega), if_pos (by rw [i_le]; omega), if_pos h0, s2, Option.bind_some]
        · rw [e] at v2; exact absurd v2 (by decide)
      · left
        exact ⟨2, by decide, fun re => by rw [cl, v1, if_neg d], big d⟩
    · left
      have i1000 : (1000 : Int32).toInt = 1000 := rfl
      exact ⟨2, by decide, fun re => by rw [cl, v1, if_neg (by omega)], big (by omega)⟩
  · left
    have cc : ¬ ta 4 0 = 2 := fun e => by
      rw [e] at hk
      rcases hk with ⟨z, -⟩ | ⟨z, -⟩ | ⟨z, -⟩ | ⟨z, -⟩ | ⟨-, z, -⟩ | ⟨z, -⟩ | ⟨z, -⟩
      · exact absurd z (by decide)
      · exact absurd z (by decide)
      · exact absurd z (by decide)
      · exact absurd z (by decide)
      · exact c z
      · exact absurd z (by decide)
      · exact absurd z (by decide)
    refine ⟨1, by decide, fun re => ?_, ?_⟩
    · unfold f_Reader_readNumber
      rw [if_neg cc]; rfl
    · unfold f_Mo_numeral
      rw [if_pos h0, if_neg c, wrong_ok' h0, Option.bind_some, if_neg (bad 1 (by decide))]
/-! names -/
theorem isLang {v : Int32} (h : ∀ w, w < 17 → ¬ v = wv w) : f_Tape_isOfLanguage v = some 0 := by
  unfold f_Tape_isOfLanguage
  rw [if_neg (show ¬ v = 48365568 from h 8 (by decide)), if_neg (show ¬ v = 83623936 from h 5 (by decide)), if_neg (show ¬ v = 378998784 from h 0 (by decide)), if_neg (show ¬ v = 419037184 from h 4 (by decide)), if_neg (show ¬ v = 486146048 from h 9 (by decide)), if_neg (show ¬ v = 522190848 from h 7 (by decide)), if_neg (show ¬ v = 549489824 from h 1 (by decide)), if_neg (show ¬ v = 639309408 from h 3 (by decide)), if_neg (show ¬ v = 672502784 from h 2 (by decide)), if_neg (show ¬ v = 788082272 from h 6 (by decide)), nOfC h, Option.bind_some, bz_ok (Or.inl rfl), Option.bind_some]
theorem isLang1 : ∀ w, w < 17 → f_Tape_isOfLanguage (wv w) = some 1 := by decide +kernel
theorem fk_new {ki mo : jZ} (K : Nat) (hK : K ≤ 5) (he : ∀ k, k < K → ki 2 k = mo 5 (5 + k)) (x : Int32) : ∀ (n i N1 N2 : Nat), i + n = K → n < N1 → n < N2 → ∃ q, f_WP_findKinds_names_2 ki (nI K) x N1 (nI i) = some q ∧ f_Mo_foundMo_kindName_3 mo 5 (nI K) x N2 (nI i) = some q := by
  have i5 : (5 : Int32).toInt = 5 := rfl
  have tK : (nI K).toInt = K := nI_toInt (by omega)
  intro n
  induction n with
  | zero =>
    intro i N1 N2 hi hN1 hN2
    obtain ⟨N1, rfl⟩ : ∃ k, N1 = k + 1 := ⟨N1 - 1, by omega⟩
    obtain ⟨N2, rfl⟩ : ∃ k, N2 = k + 1 := ⟨N2 - 1, by omega⟩
    have ti : (nI i).toInt = i := nI_toInt (by omega)
    exact ⟨-1, by rw [f_WP_findKinds_names_2, if_pos (by rw [i_le]; omega)], by rw [f_Mo_foundMo_kindName_3, if_pos (by rw [i_le]; omega)]⟩
  | succ n ih =>
    intro i N1 N2 hi hN1 hN2
    obtain ⟨N1, rfl⟩ : ∃ k, N1 = k + 1 := ⟨N1 - 1, by omega⟩
    obtain ⟨N2, rfl⟩ : ∃ k, N2 = k + 1 := ⟨N2 - 1, by omega⟩
    have ti : (nI i).toInt = i := nI_toInt (by omega)
    have t5 : (5 + nI i).toInt = ((5 + i : Nat) : Int) := by rw [i_add (by omega) (by omega), i5, ti]; omega
    rw [f_WP_findKinds_names_2, if_neg (by rw [i_le]; omega), if_neg (by rw [i_le]; omega), ix_ok (by omega) (by omega), Option.bind_some, i_tn, ti, Int.toNat_natCast, he i (by omega), nI_1, f_Mo_foundMo_kindName_3, if_neg (show ¬ nI K ≤ nI i by rw [i_le]; omega), ix_ok (by omega) (by omega), Option.bind_some, i_tn, t5, Int.toNat_natCast, nI_1]
    by_cases c : mo 5 (5 + i) = x
    · rw [if_pos c, if_pos c]; exact ⟨_, rfl, rfl⟩
    · rw [if_neg c, if_neg c]; exact ih (i + 1) N1 N2 (by omega) (by omega) (by omega)
theorem fp_new {ro mo : jZ} (K : Nat) (hK : K ≤ 12) (he : ∀ k, k < K → ro 8 k = mo 8 (12 + k)) (x : Int32) : ∀ (n i N1 N2 : Nat), i + n = K → n < N1 → n < N2 → ∃ q, f_WP_findRoad_names_2 ro (nI K) x N1 (nI i) = some q ∧ f_Mo_foundMo_placeName_3 mo 12 (nI K) x N2 (nI i) = some q := by
  have i12 : (12 : Int32).toInt = 12 := rfl
  have tK : (nI K).toInt = K := nI_toInt (by omega)
  intro n
  induction n with
  | zero =>
    intro i N1 N2 hi hN1 hN2
    obtain ⟨N1, rfl⟩ : ∃ k, N1 = k + 1 := ⟨N1 - 1, by omega⟩
    obtain ⟨N2, rfl⟩ : ∃ k, N2 = k + 1 := ⟨N2 - 1, by omega⟩
    have ti : (nI i).toInt = i := nI_toInt (by omega)
    exact ⟨-1, by rw [f_WP_findRoad_names_2, if_pos (by rw [i_le]; omega)], by rw [f_Mo_foundMo_placeName_3, if_pos (by rw [i_le]; omega)]⟩
  | succ n ih =>
    intro i N1 N2 hi hN1 hN2
    obtain ⟨N1, rfl⟩ : ∃ k, N1 = k + 1 := ⟨N1 - 1, by omega⟩
    obtain ⟨N2, rfl⟩ : ∃ k, N2 = k + 1 := ⟨N2 - 1, by omega⟩
    have ti : (nI i).toInt = i := nI_toInt (by omega)
    have t5 : (12 + nI i).toInt = ((12 + i : Nat) : Int) := by rw [i_add (by omega) (by omega), i12, ti]; omega
    rw [f_WP_findRoad_names_2, if_neg (by rw [i_le]; omega), if_neg (by rw [i_le]; omega), ix_ok (by omega) (by omega), Option.bind_some, i_tn, ti, Int.toNat_natCast, he i (by omega), nI_1, f_Mo_foundMo_placeName_3, if_neg (show ¬ nI K ≤ nI i by rw [i_le]; omega), ix_ok (by omega) (by omega), Option.bind_some, i_tn, t5, Int.toNat_natCast, nI_1]
    by_cases c : mo 8 (12 + i) = x
    · rw [if_pos c, if_pos c]; exact ⟨_, rfl, rfl⟩
    · rw [if_neg c, if_neg c]; exact ih (i + 1) N1 N2 (by omega) (by omega) (by omega)
/-- what a token is, as a name -/
theorem nm_tok {ta mo : jZ} (hT : T ta mo) : (mo 30 0 = 1 ∧ ta 4 0 = 1 ∧ ta 5 0 = mo 31 0 ∧ f_Tape_isOfLanguage (ta 5 0) = some 0) ∨ (¬ mo 30 0 = 1 ∧ (¬ ta 4 0 = 1 ∨ (ta 4 0 = 1 ∧ f_Tape_isOfLanguage (ta 5 0) = some 1))) := by
  rcases hT.2.2.2.2 with ⟨a, b⟩ | ⟨a, b, w, c, d, e⟩ | ⟨a, b, c, d⟩ | ⟨a, b⟩ | ⟨a, b, -⟩ | ⟨a, b, -⟩ | ⟨a, b, -⟩
  · exact Or.inr ⟨by rw [b]; decide, Or.inl (by rw [a]; decide)⟩
  · exact Or.inr ⟨by rw [b]; decide, Or.inr ⟨a, by rw [d]; exact isLang1 w c⟩⟩
  · exact Or.inl ⟨b, a, c, isLang d⟩
  · exact Or.inr ⟨by rw [b]; decide, Or.inl (by rw [a]; decide)⟩
  · exact Or.inr ⟨by rw [b]; decide, Or.inl (by rw [a]; decide)⟩
  · exact Or.inr ⟨by rw [b]; decide, Or.inl (by rw [a]; decide)⟩
  · exact Or.inr ⟨by rw [b]; decide, Or.inl (by rw [a]; decide)⟩
