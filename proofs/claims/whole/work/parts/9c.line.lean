theorem nK.cg {ki mo mo2 : jZ} {K : Nat} (h : nK ki mo K) (h5 : mo2 5 = mo 5) (h6 : mo2 6 = mo 6) (h7 : mo2 7 = mo 7) (h20 : mo2 20 = mo 20) : nK ki mo2 K := by
  unfold nK cK pK at *
  rw [h5, h6, h7, h20]; exact h
theorem nP.cg {ro ro2 mo mo2 : jZ} {P : Nat} (h : nP ro mo P) (hm : ∀ q, 8 ≤ q → q ≤ 13 → mo2 q = mo q) (h21 : mo2 21 = mo 21) (hr : ∀ q, 7 ≤ q → q ≤ 14 → ro2 q = ro q) : nP ro2 mo2 P := by
  unfold nP cP vP at *
  rw [hm 8 (by omega) (by omega), hm 9 (by omega) (by omega), hm 10 (by omega) (by omega), hm 11 (by omega) (by omega), hm 12 (by omega) (by omega), hm 13 (by omega) (by omega), h21, hr 7 (by omega) (by omega), hr 8 (by omega) (by omega), hr 9 (by omega) (by omega), hr 10 (by omega) (by omega), hr 11 (by omega) (by omega), hr 12 (by omega) (by omega), hr 13 (by omega) (by omega), hr 14 (by omega) (by omega)]
  exact h
theorem nR.cg {ru mo mo2 : jZ} {s : Nat} (h : nR ru mo s) (h15 : mo2 15 = mo 15) (h16 : mo2 16 = mo 16) (h22 : mo2 22 = mo 22) : nR ru mo2 s := by
  unfold nR okI DD at *
  rw [h15, h16, h22]; exact h
theorem tb_or : ∀ w, w < 4 → ∀ tb, tb < 16 → (tb ||| 2 ^ w) < 16 ∧ nI tb ||| (1 <<< (nI w &&& 31)) = nI (tb ||| 2 ^ w) ∧ (tb ||| 2 ^ w) / 4 % 2 = (if w = 2 then 1 else tb / 4 % 2) ∧ (tb ||| 2 ^ w) / 8 % 2 = (if w = 3 then 1 else tb / 8 % 2) := by decide +kernel
theorem tb_2 : ∀ tb, tb < 16 → ((nI tb >>> ((2 : Int32) &&& 31)) &&& 1) = (if tb / 4 % 2 = 1 then 1 else 0) := by decide +kernel
theorem tb_3 : ∀ tb, tb < 16 → ((nI tb >>> ((3 : Int32) &&& 31)) &&& 1) = (if tb / 8 % 2 = 1 then 1 else 0) := by decide +kernel
/-- what was read so far: i lines, the token at place j or behind -/
def TX (i j : Nat) (re ta ro ki ru mo : jZ) : Prop := T ta mo ∧ mo 32 0 = 0 ∧ (mo 33 0 = -1 ∧ re 1 0 = 0 ∧ re 2 0 = -1) ∧ (∃ K, nK ki mo K) ∧ (∃ P, nP ro mo P) ∧ (∃ s, nR ru mo s ∧ (s = 0 → mo 36 0 = 0 ∧ mo 37 0 = 0) ∧ ∃ tb, tb < 16 ∧ mo 25 0 = nI tb ∧ (tb / 4 % 2 = 1 ↔ ¬ s = 0) ∧ (tb / 8 % 2 = 1 ↔ ¬ ro 4 0 = 0)) ∧ (ro 5 0 = mo 23 0 ∧ 0 ≤ (mo 23 0).toInt ∧ (mo 23 0).toInt ≤ 9) ∧ (ro 6 0 = mo 24 0 ∧ 0 ≤ (mo 24 0).toInt ∧ (mo 24 0).toInt ≤ 9) ∧ (ro 3 0 = nI i ∧ mo 26 0 = nI i) ∧ (j : Int) ≤ (mo 29 0).toInt
abbrev j7 := jZ × jZ × jZ × jZ × jZ × jZ × Int32
def LO (i : Nat) (no ta mo : jZ) (C : Option j7) (k24 : jZ → jZ → jZ → jZ → jZ → jZ → Int32 → Option j7) (R : Option jZ) : Prop :=
  (∃ re' ta' ro' ki' ru' mf, C = some (re', ta', ro', ki', ru', no, 0) ∧ R = some mf ∧ ¬ mf 32 0 = 0 ∧ re' 1 0 = mf 32 0 ∧ re' 2 0 = mf 33 0 ∧ oR mo mf ∧ (∀ q, q < 3 → ta' q = ta q)) ∨
  (∃ re2 ta2 ro2 ki2 ru2 mo2, C = k24 re2 ta2 ro2 ki2 ru2 no (nI (i + 1)) ∧ R = some mo2 ∧ TX (i + 1) (i + 1) re2 ta2 ro2 ki2 ru2 mo2 ∧ oR mo mo2 ∧ (∀ q, q < 3 → ta2 q = ta q))
theorem LO.bk {i : Nat} {no ta mo ta1 mo1 : jZ} {C : Option j7} {k24 : jZ → jZ → jZ → jZ → jZ → jZ → Int32 → Option j7} {R : Option jZ} (h : LO i no ta1 mo1 C k24 R) (hm : oR mo mo1) (ht : ∀ q, q < 3 → ta1 q = ta q) : LO i no ta mo C k24 R := by
  rcases h with ⟨re', ta', ro', ki', ru', mf, a, b, c, d, e, f, g⟩ | ⟨re', ta', ro', ki', ru', mf, a, b, c, f, g⟩
  · exact Or.inl ⟨re', ta', ro', ki', ru', mf, a, b, c, d, e, hm.tr f, fun q hq => by rw [g q hq, ht q hq]⟩
  · exact Or.inr ⟨re', ta', ro', ki', ru', mf, a, b, c, hm.tr f, fun q hq => by rw [g q hq, ht q hq]⟩
theorem LEND {i : Nat} {re ta ro ki ru no mo : jZ} (h : TX i (i + 1) re ta ro ki ru mo) (x1 : Int32) (k24 : jZ → jZ → jZ → jZ → jZ → jZ → Int32 → Option j7) : LO i no ta mo (f_Reader_read_164 x1 k24 re ta ro ki ru no (nI i) 1) k24 (f_Mo_line_188 mo) := by
  obtain ⟨hT, h0, ⟨h33, r1, r2⟩, ⟨K, hK⟩, ⟨P, hP⟩, ⟨s, hR, h36, tb, b1, b2, b3, b4⟩, s5, s6, ⟨c3, c26⟩, hj⟩ := h
  unfold f_Reader_read_164 f_Reader_readEnd f_Mo_line_188
  rw [if_neg (show ¬ (1 : Int32) = 0 by decide), csig, if_pos h0, msig hT h0 59 (by unfold isSg; simp), Option.bind_some, Option.bind_some]
  by_cases c : ta 4 0 = 3 ∧ ta 5 0 = 59
  · obtain ⟨ta2, mo2, e1, e2, e3, e4, e5, e6⟩ := step_ok hT.1
    rw [if_pos c, if_neg (show ¬ (1 : Int32) = 0 by decide), if_neg (show ¬ (1 : Int32) = 0 by decide), e1, e2, Option.bind_some, Option.bind_some, Option.bind_some]
    dsimp only
    rw [if_neg (show ¬ (1 : Int32) = 0 by decide), c3, nI_1, e6 26 (by omega), c26, nI_1]
    have pl := hT.2.2.1
    refine Or.inr ⟨re, ta2, _, ki, ru, _, rfl, rfl, ⟨T_cg e3 (up2_k (by decide)) (fun q a b => up2_k (by omega)), by rw [up2_k (by decide), e6 32 (by omega)]; exact h0, ⟨by rw [up2_k (by decide), e6 33 (by omega)]; exact h33, r1, r2⟩, ⟨K, hK.cg ?_ ?_ ?_ ?_⟩, ⟨P, hP.cg (fun q a b => by rw [up2_k (by omega), e6 q (by omega)]) ?_ (fun q a b => up2_k (by omega))⟩, ⟨s, hR.cg ?_ ?_ ?_, fun z => ?_, tb, b1, ?_, b3, ?_⟩, ?_, ?_, ⟨up2_s, up2_s⟩, ?_⟩, ?_, e5⟩
    · rw [up2_k (by decide), e6 5 (by omega)]
    · rw [up2_k (by decide), e6 6 (by omega)]
    · rw [up2_k (by decide), e6 7 (by omega)]
    · rw [up2_k (by decide), e6 20 (by omega)]
    · rw [up2_k (by decide), e6 21 (by omega)]
    · rw [up2_k (by decide), e6 15 (by omega)]
    · rw [up2_k (by decide), e6 16 (by omega)]
    · rw [up2_k (by decide), e6 22 (by omega)]
    · rw [up2_k (by decide), up2_k (by decide), e6 36 (by omega), e6 37 (by omega)]; exact h36 z
    · rw [up2_k (by decide), e6 25 (by omega)]; exact b2
    · rw [up2_k (by decide)]; exact b4
    · rw [up2_k (by decide), up2_k (by decide), e6 23 (by omega)]; exact s5
    · rw [up2_k (by decide), up2_k (by decide), e6 24 (by omega)]; exact s6
    · rw [up2_k (by decide)]; omega
    · exact oR.of (fun q hq => by rw [up2_k (by omega), e6 q (by omega)])
  · rw [if_neg c, if_pos rfl, if_pos rfl, wrong_ok h0, Option.bind_some]
    refine Or.inl ⟨up2 (up2 re 1 0 1) 2 0 (ta 6 0), ta, ro, ki, ru, _, rfl, rfl, ?_, ?_, ?_, ?_, fun _ _ => rfl⟩
    · rw [up2_k (by decide), up2_k (by decide), up2_s]; decide
    · rw [up2_k (by decide), up2_s, up2_k (by decide), up2_k (by decide), up2_s]
    · rw [up2_s, up2_k (by decide), up2_s]; exact hT.2.1
    · exact oR.of (fun q hq => by rw [up2_k (by omega), up2_k (by omega), up2_k (by omega)])
