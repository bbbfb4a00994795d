theorem mf_sig {mf : jZ} (nf : ¬ mf 32 0 = 0) (x : Int32) : f_Mo_isSign mf x = some 0 := by unfold f_Mo_isSign; rw [if_neg nf]
theorem mf_wrd {mf : jZ} (nf : ¬ mf 32 0 = 0) (x : Int32) : f_Mo_isWord mf x = some 0 := by unfold f_Mo_isWord; rw [if_neg nf]
theorem pr4_f (G : Nat → jZ → Option jZ) {mf : jZ} (nf : ¬ mf 32 0 = 0) (N : Nat) : f_Mo_product_4 G (N + 1) mf = some mf := by
  rw [f_Mo_product_4, mf_sig nf, mf_sig nf, Option.bind_some, if_pos rfl, Option.bind_some, if_pos rfl]
theorem su4_f (G : Nat → jZ → Option jZ) {mf : jZ} (nf : ¬ mf 32 0 = 0) (N : Nat) : f_Mo_sum_4 G (N + 1) mf = some mf := by
  rw [f_Mo_sum_4, mf_sig nf, mf_sig nf, Option.bind_some, if_pos rfl, Option.bind_some, if_pos rfl]
theorem co4_f (G : Nat → jZ → Option jZ) {mf : jZ} (nf : ¬ mf 32 0 = 0) (N : Nat) : f_Mo_conjunction_4 G (N + 1) mf = some mf := by
  rw [f_Mo_conjunction_4, mf_wrd nf, Option.bind_some, if_pos rfl]
theorem ex4_f (G : Nat → jZ → Option jZ) {mf : jZ} (nf : ¬ mf 32 0 = 0) (N : Nat) : f_Mo_expression_4 G (N + 1) mf = some mf := by
  rw [f_Mo_expression_4, mf_wrd nf, Option.bind_some, if_pos rfl]
theorem FU1 : FU = 999999 + 1 := by decide
/-- behind a fault the descent does nothing -/
theorem grp_f {mf : jZ} (nf : ¬ mf 32 0 = 0) : ∀ d k, k ≤ 5 → 6 - k ≤ d → f_Mo_grp d k mf = some mf := by
  intro d
  induction d with
  | zero => intro k h1 h2; omega
  | succ d ih =>
    intro k h1 h2
    have hk : k = 0 ∨ k = 1 ∨ k = 2 ∨ k = 3 ∨ k = 4 ∨ k = 5 := by omega
    rcases hk with h | h | h | h | h | h <;> subst h
    · show f_Mo_expression (f_Mo_grp d) mf = some mf
      unfold f_Mo_expression
      rw [ih 1 (by omega) (by omega), Option.bind_some, FU1, ex4_f _ nf]
    · show f_Mo_conjunction (f_Mo_grp d) mf = some mf
      unfold f_Mo_conjunction
      rw [ih 2 (by omega) (by omega), Option.bind_some, FU1, co4_f _ nf]
    · show f_Mo_negation (f_Mo_grp d) mf = some mf
      unfold f_Mo_negation
      rw [mf_wrd nf, Option.bind_some, if_pos rfl, ih 3 (by omega) (by omega), Option.bind_some, if_neg nf]
    · show f_Mo_sum (f_Mo_grp d) mf = some mf
      unfold f_Mo_sum
      rw [ih 4 (by omega) (by omega), Option.bind_some, FU1, su4_f _ nf]
    · show f_Mo_product (f_Mo_grp d) mf = some mf
      unfold f_Mo_product
      rw [ih 5 (by omega) (by omega), Option.bind_some, FU1, pr4_f _ nf]
    · show f_Mo_primary (f_Mo_grp d) mf = some mf
      unfold f_Mo_primary
      rw [if_neg nf]
def RBd (G : Nat → jZ → Option jZ) (k1 : Nat) (va : Int32) (K : jZ → Option jZ) (mo : jZ) : Option jZ := (f_Mo_knot mo).bind fun q => (if (q 32 0) = 0 then (f_Mo_next q).bind fun q1 => (G k1 q1).bind fun q2 => (f_Mo_puts q2 2 va).bind fun q3 => K q3 else (G k1 q).bind fun q2 => (f_Mo_puts q2 2 va).bind fun q3 => K q3)
def LOUT (k b o c t s v : Nat) (re ta ru mo : jZ) (R : Option jZ) : Prop :=
  (∃ mf, R = some mf ∧ XR mo mf ∧ FAIL v re ta ru mf) ∨
  (∃ mo' re' ta' ru' v' c' t' s', R = some mo' ∧ tLP v re ta ru = tLP v' re' ta' ru' ∧ GD (RK k) k b o c' t' s' v' re' ta' ru' mo' ∧ FT re re' b o ∧ (3 ≤ k → re' 4 o = re 4 o) ∧ XR mo mo' ∧ (∀ (mo0 : jZ) (m0 : Nat), phr mo0 mo m0 (s + (t - b)) → phr mo0 mo' m0 (s' + (t' - b))) ∧ (∀ q, q < 3 → ta' q = ta q) ∧ c ≤ c')
theorem FAIL.bk {v v2 : Nat} {re ta ru re2 ta2 ru2 mf : jZ} (h : FAIL v2 re2 ta2 ru2 mf) (hl : tLP v re ta ru = tLP v2 re2 ta2 ru2) (ht : ∀ q, q < 3 → ta2 q = ta q) : FAIL v re ta ru mf := by
  obtain ⟨h1, re', ta', ru', h2, h3, h4, h5⟩ := h
  exact ⟨h1, re', ta', ru', hl.trans h2, h3, h4, fun q hq => (h5 q hq).trans (ht q hq)⟩
/-- signs of one rank, from the left -/
theorem LOOPx (G : Nat → jZ → Option jZ) (k k1 o : Nat) (r : Int) (hr1 : 1 ≤ r) (hr4 : ¬ r = 4) (hrRK : r = RK k) (hPK : r < PK k1) (hRK : r ≤ RK k1) (hlo : k1 ≤ 2 → r ≤ 2) (hhi : 3 ≤ k1 → 4 ≤ r) (hk3 : 3 ≤ k → 4 < r) (cB : Nat)
    (H : ∀ b c s v m (re ta ru mo : jZ), cB < c → PRE k1 b o c s v re ta ru mo → m = s → OUTC k1 b o c v re ta ru mo m (G k1 mo))
    (HF : ∀ mf : jZ, ¬ mf 32 0 = 0 → G k1 mf = some mf) (F : Nat → jZ → Option jZ)
    (hstep : ∀ (N : Nat) (ta mo : jZ), T ta mo → mo 32 0 = 0 → (∃ x va, kStep x 2 va ∧ ¬ va = 260 ∧ ta 5 0 = x ∧ (rk x).toInt = r ∧ (ta 4 0 = 3 ∨ (ta 4 0 = 1 ∧ (x = wv 8 ∨ x = wv 7))) ∧ F (N + 1) mo = RBd G k1 va (fun z => F N z) mo) ∨ (F (N + 1) mo = some mo ∧ ∀ (re : jZ) (o : Nat), NS k1 o re ta → NS k o re ta))
    (hfault : ∀ (N : Nat) (mf : jZ), ¬ mf 32 0 = 0 → F (N + 1) mf = some mf) : ∀ (n N b c t s v : Nat) (re ta ru mo : jZ), 64 - c ≤ n → n + 1 < N → cB ≤ c → GD r k1 b o c t s v re ta ru mo → (b = 0 ∨ (rk (re 3 (b - 1))).toInt < r) → LOUT k b o c t s v re ta ru mo (F N mo) := by
  intro n
  induction n with
  | zero =>
    intro N b c t s v re ta ru mo hn hN hc g hb
    obtain ⟨N, rfl⟩ : ∃ q, N = q + 1 + 1 := ⟨N - 2, by omega⟩
    rcases hstep (N + 1) ta mo g.2.1 g.2.2.1 with ⟨x, va, a1, a2, a3, a4, a5, a6⟩ | ⟨a1, a2⟩
    · rcases BS G k1 o r hr1 hPK hRK hlo hhi cB H HF (fun z => F (N + 1) z) a1 a2 hc g a3 a4 a5 (fun e => absurd e hr4) hb with ⟨mf, b1, b2, b3⟩ | ⟨mo3, re3, ta3, ru3, v3, c3, t3, s3, b1, b2, b3, b4, b5, b6, b7, b8, b9, b10⟩
      · left
        exact ⟨mf, by rw [a6]; exact b1.trans (hfault N mf b3.1), b2, b3⟩
      · exfalso
        have := b3.1.2.1.1
        omega
    · right
      obtain ⟨g1, g2, g3, g4, g5, g6, g7⟩ := g
      exact ⟨mo, re, ta, ru, v, c, t, s, a1, rfl, ⟨g1, g2, g3, g4, by rw [← hrRK]; exact g5, a2 re o g6, g7⟩, ⟨fun _ _ => rfl, fun _ _ => rfl, rfl, rfl⟩, fun _ => rfl, XR.rf mo, fun _ _ h => h, fun _ _ => rfl, Nat.le_refl _⟩
  | succ n ih =>
    intro N b c t s v re ta ru mo hn hN hc g hb
    obtain ⟨N, rfl⟩ : ∃ q, N = q + 1 + 1 := ⟨N - 2, by omega⟩
    rcases hstep (N + 1) ta mo g.2.1 g.2.2.1 with ⟨x, va, a1, a2, a3, a4, a5, a6⟩ | ⟨a1, a2⟩
    · rcases BS G k1 o r hr1 hPK hRK hlo hhi cB H HF (fun z => F (N + 1) z) a1 a2 hc g a3 a4 a5 (fun e => absurd e hr4) hb with ⟨mf, b1, b2, b3⟩ | ⟨mo3, re3, ta3, ru3, v3, c3, t3, s3, b1, b2, b3, b4, b5, b6, b7, b8, b9, b10⟩
      · left
        exact ⟨mf, by rw [a6]; exact b1.trans (hfault N mf b3.1), b2, b3⟩
      · have e : F (N + 1 + 1) mo = F (N + 1) mo3 := by rw [a6]; exact b1
        rw [e]
        have hb3 : b = 0 ∨ (rk (re3 3 (b - 1))).toInt < r := by
          rcases hb with h | h
          · exact Or.inl h
          · by_cases z : b = 0
            · exact Or.inl z
            · rw [b4.1 (b - 1) (by omega)]; exact Or.inr h
        rcases ih (N + 1) b c3 t3 s3 v3 re3 ta3 ru3 mo3 (by omega) (by omega) (by omega) b3 hb3 with ⟨mf, d1, d2, d3⟩ | ⟨mo', re', ta', ru', v', c', t', s', d1, d2, d3, d4, d5, d6, d7, d8, d9⟩
        · left
          exact ⟨mf, d1, b7.tr d2, d3.bk b2 b9⟩
        · right
          exact ⟨mo', re', ta', ru', v', c', t', s', d1, b2.trans d2, d3, b4.tr d4 (Nat.le_refl _) (Nat.le_refl _), fun h => (d5 h).trans (b5 (hk3 h)), b7.tr d6, fun mo0 m0 hp => d7 mo0 m0 (b8 mo0 m0 hp), fun q hq => (d8 q hq).trans (b9 q hq), by omega⟩
    · right
      obtain ⟨g1, g2, g3, g4, g5, g6, g7⟩ := g
      exact ⟨mo, re, ta, ru, v, c, t, s, a1, rfl, ⟨g1, g2, g3, g4, by rw [← hrRK]; exact g5, a2 re o g6, g7⟩, ⟨fun _ _ => rfl, fun _ _ => rfl, rfl, rfl⟩, fun _ => rfl, XR.rf mo, fun _ _ h => h, fun _ _ => rfl, Nat.le_refl _⟩
/-- a level: one of the next, then signs of this rank -/
theorem LEVEL (G : Nat → jZ → Option jZ) (k k1 o : Nat) (hkk : k1 = k + 1) (hk2 : ¬ k = 2) (hk4 : k ≤ 4) (r : Int) (hr1 : 1 ≤ r) (hr4 : ¬ r = 4) (hrRK : r = RK k) (hrPK : r = PK k) (hPK : r < PK k1) (hRK : r ≤ RK k1) (hlo : k1 ≤ 2 → r ≤ 2) (hhi : 3 ≤ k1 → 4 ≤ r) (hk3 : 3 ≤ k → 4 < r) (cB : Nat)
    (H : ∀ b c s v m (re ta ru mo : jZ), cB ≤ c → PRE k1 b o c s v re ta ru mo → m = s → OUTC k1 b o c v re ta ru mo m (G k1 mo))
    (HF : ∀ mf : jZ, ¬ mf 32 0 = 0 → G k1 mf = some mf) (F : Nat → jZ → Option jZ)
    (hstep : ∀ (N : Nat) (ta mo : jZ), T ta mo → mo 32 0 = 0 → (∃ x va, kStep x 2 va ∧ ¬ va = 260 ∧ ta 5 0 = x ∧ (rk x).toInt = r ∧ (ta 4 0 = 3 ∨ (ta 4 0 = 1 ∧ (x = wv 8 ∨ x = wv 7))) ∧ F (N + 1) mo = RBd G k1 va (fun z => F N z) mo) ∨ (F (N + 1) mo = some mo ∧ ∀ (re : jZ) (o : Nat), NS k1 o re ta → NS k o re ta))
    (hfault : ∀ (N : Nat) (mf : jZ), ¬ mf 32 0 = 0 → F (N + 1) mf = some mf) {b s v m : Nat} {re ta ru mo : jZ} (p : PRE k b o cB s v re ta ru mo) (hm : m = s) : OUTC k b o cB v re ta ru mo m ((G k1 mo).bind fun q1 => F FU q1) := by
  obtain ⟨p1, p2, p3, p4, p5, p6, p7, p8, p9⟩ := p
  have p' : PRE k1 b o cB s v re ta ru mo := by
    refine ⟨p1, p2, p3, p4, fun h => p5 (by omega), fun h => p6 (by omega), ?_, fun h => p8 (by omega), p9⟩
    rcases p7 with h | h
    · exact Or.inl h
    · exact Or.inr (by omega)
  rcases H b cB s v m re ta ru mo (Nat.le_refl _) p' hm with ⟨mf, f1, f2, f3⟩ | ⟨mo1, re1, ta1, ru1, v1, c1, t1, s1, f1, f2, f3, f4, f5, f6, f7, f8, f9⟩
  · left
    exact ⟨mf, by rw [f1, Option.bind_some, FU1, hfault _ mf f3.1], f2, f3⟩
  · rw [f1, Option.bind_some]
    obtain ⟨g1, g2, g3, g4, g5, g6, g7⟩ := f3
    have hb : b = 0 ∨ (rk (re1 3 (b - 1))).toInt < r := by
      rcases p7 with h | h
      · exact Or.inl h
      · by_cases z : b = 0
        · exact Or.inl z
        · rw [f4.1 (b - 1) (by omega)]; exact Or.inr (by omega)
    rcases LOOPx G k k1 o r hr1 hr4 hrRK hPK hRK hlo hhi hk3 cB (fun b c s v m re ta ru mo h => H b c s v m re ta ru mo (by omega)) HF F hstep hfault 64 FU b c1 t1 s1 v1 re1 ta1 ru1 mo1 (by omega) (by unfold FU; omega) f9 ⟨g1, g2, g3, g4, fun j a d => by have := g5 j a d; omega, g6, g7⟩ hb with ⟨mf, d1, d2, d3⟩ | ⟨mo', re', ta', ru', v', c', t', s', d1, d2, d3, d4, d5, d6, d7, d8, d9⟩
    · left
      exact ⟨mf, d1, f6.tr d2, d3.bk f2 f8⟩
    · right
      exact ⟨mo', re', ta', ru', v', c', t', s', d1, f2.trans d2, d3, f4.tr d4 (Nat.le_refl _) (Nat.le_refl _), fun h => (d5 h).trans (f5 (by omega)), f6.tr d6, d7 mo m f7, fun q hq => (d8 q hq).trans (f8 q hq), by omega⟩
