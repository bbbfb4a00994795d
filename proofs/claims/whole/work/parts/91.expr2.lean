def NS (n o : Nat) (re ta : jZ) : Prop :=
  (n ≤ 4 → ¬ (ta 4 0 = 3 ∧ (ta 5 0 = 42 ∨ ta 5 0 = 47))) ∧ (n ≤ 3 → ¬ (ta 4 0 = 3 ∧ (ta 5 0 = 43 ∨ ta 5 0 = 45))) ∧ (n ≤ 2 → (ta 4 0 = 3 ∧ rk (ta 5 0) = 4) → ¬ re 4 o = 0) ∧ (n ≤ 1 → ¬ (ta 4 0 = 1 ∧ ta 5 0 = wv 8)) ∧ (n ≤ 0 → ¬ (ta 4 0 = 1 ∧ ta 5 0 = wv 7))
def GD (r : Int) (n b o c t s v : Nat) (re ta ru mo : jZ) : Prop := ES b o c t s re ru mo ∧ T ta mo ∧ mo 32 0 = 0 ∧ re 8 0 = 0 ∧ (∀ j, b ≤ j → j < t → r ≤ (rk (re 3 j)).toInt) ∧ NS n o re ta ∧ (v : Int) ≤ (mo 29 0).toInt
def XR (mo mo' : jZ) : Prop := (∀ q, q < 15 ∨ (16 < q ∧ q < 22) ∨ (22 < q ∧ q < 28) ∨ q = 34 ∨ q = 35 ∨ 37 < q → mo' q = mo q) ∧ (∀ j, j < 64 → mo' 15 j = mo 15 j ∧ mo' 16 j = mo 16 j) ∧ (mo' 32 0 = 0 → mo 32 0 = 0 ∧ mo' 33 = mo 33)
theorem XR.rf (mo : jZ) : XR mo mo := ⟨fun _ _ => rfl, fun _ _ => ⟨rfl, rfl⟩, fun e => ⟨e, rfl⟩⟩
theorem XR.tr {a b c : jZ} (h : XR a b) (g : XR b c) : XR a c := ⟨fun q hq => (g.1 q hq).trans (h.1 q hq), fun j hj => ⟨(g.2.1 j hj).1.trans (h.2.1 j hj).1, (g.2.1 j hj).2.trans (h.2.1 j hj).2⟩, fun e => ⟨(h.2.2 (g.2.2 e).1).1, (g.2.2 e).2.trans (h.2.2 (g.2.2 e).1).2⟩⟩
theorem XR.of {a b : jZ} (h : ∀ q, q < 22 ∨ (22 < q ∧ q < 28) ∨ (31 < q ∧ q < 36) ∨ 37 < q → b q = a q) : XR a b := ⟨fun q hq => h q (by omega), fun j _ => ⟨by rw [h 15 (by omega)], by rw [h 16 (by omega)]⟩, fun e => ⟨by rw [← h 32 (by omega)]; exact e, h 33 (by omega)⟩⟩
theorem XR.bad {a b : jZ} (nf : ¬ b 32 0 = 0) (h : ∀ q, q < 22 ∨ (22 < q ∧ q < 28) ∨ q = 34 ∨ q = 35 ∨ 37 < q → b q = a q) : XR a b := ⟨fun q hq => h q (by omega), fun j _ => ⟨by rw [h 15 (by omega)], by rw [h 16 (by omega)]⟩, fun e => absurd e nf⟩
def FT (re re' : jZ) (b o : Nat) : Prop := (∀ j, j < b → re' 3 j = re 3 j) ∧ (∀ j, j < o → re' 4 j = re 4 j) ∧ re' 1 = re 1 ∧ re' 2 = re 2
theorem FT.tr {a b c : jZ} {k k' o o' : Nat} (h : FT a b k o) (g : FT b c k' o') (hk : k ≤ k') (ho : o ≤ o') : FT a c k o := ⟨fun j hj => (g.1 j (by omega)).trans (h.1 j hj), fun j hj => (g.2.1 j (by omega)).trans (h.2.1 j hj), g.2.2.1.trans h.2.2.1, g.2.2.2.trans h.2.2.2⟩
def FAIL (v : Nat) (re ta ru mo' : jZ) : Prop := mo' 32 0 ≠ 0 ∧ ∃ re' ta' ru', tLP v re ta ru = some (re', ta', ru', 0) ∧ re' 1 0 = mo' 32 0 ∧ re' 2 0 = mo' 33 0 ∧ (∀ q, q < 3 → ta' q = ta q)
def RK (k : Nat) : Int := if k = 5 then 7 else if k = 4 then 6 else if k = 3 then 5 else if k = 2 then 3 else if k = 1 then 2 else 1
def PK (k : Nat) : Int := if k = 5 then 7 else if k = 4 then 6 else if k = 3 then 5 else if k = 2 then 4 else if k = 1 then 2 else 1
def OUTC (k b o c : Nat) (v : Nat) (re ta ru mo : jZ) (m : Nat) (R : Option jZ) : Prop :=
  (∃ mf, R = some mf ∧ XR mo mf ∧ FAIL v re ta ru mf) ∨
  (∃ mo' re' ta' ru' v' c' t' s', R = some mo' ∧ tLP v re ta ru = tLP v' re' ta' ru' ∧ GD (RK k) k b o c' t' s' v' re' ta' ru' mo' ∧ FT re re' b o ∧ (3 ≤ k → re' 4 o = re 4 o) ∧ XR mo mo' ∧ phr mo mo' m (s' + (t' - b)) ∧ (∀ q, q < 3 → ta' q = ta q) ∧ c ≤ c')
def PRE (k b o c s v : Nat) (re ta ru mo : jZ) : Prop := ES b o c b s re ru mo ∧ T ta mo ∧ mo 32 0 = 0 ∧ re 8 0 = 1 ∧ (k ≤ 2 → re 9 0 = 1) ∧ (3 ≤ k → (ta 4 0 = 1 ∧ ta 5 0 = wv 9) → re 9 0 = 0) ∧ (b = 0 ∨ (rk (re 3 (b - 1))).toInt < PK k) ∧ (k ≤ 2 → re 4 o = 0) ∧ (v : Int) ≤ (mo 29 0).toInt
theorem knot_ok {mo : jZ} {c : Nat} (h0 : mo 32 0 = 0) (hc : mo 37 0 = nI c) (h : c < 64) : f_Mo_knot mo = some (up2 mo 37 0 (nI (c + 1))) := by
  have tc : (nI c).toInt = c := nI_toInt (by omega)
  have i64 : (64 : Int32).toInt = 64 := rfl
  unfold f_Mo_knot
  rw [if_pos h0, hc, if_neg (by rw [i_eq]; omega), nI_1]
theorem wrong_ok {mo : jZ} (h0 : mo 32 0 = 0) (x : Int32) : f_Mo_wrong mo x = some (up2 (up2 mo 32 0 x) 33 0 (mo 29 0)) := by
  unfold f_Mo_wrong; rw [if_pos h0]
theorem knot_bad {mo : jZ} (h0 : mo 32 0 = 0) (hc : mo 37 0 = nI 64) : f_Mo_knot mo = some (up2 (up2 mo 32 0 2) 33 0 (mo 29 0)) := by
  unfold f_Mo_knot
  rw [if_pos h0, hc, if_pos (by decide), wrong_ok h0, Option.bind_some]
theorem knot_f {mo : jZ} (h0 : ¬ mo 32 0 = 0) : f_Mo_knot mo = some mo := by unfold f_Mo_knot; rw [if_neg h0]
theorem puts_f {mo : jZ} (h0 : ¬ mo 32 0 = 0) (a x : Int32) : f_Mo_puts mo a x = some mo := by unfold f_Mo_puts; rw [if_neg h0]
theorem puts_ok {mo : jZ} {m : Nat} (h0 : mo 32 0 = 0) (h22 : mo 22 0 = nI m) (hm : m < 64) (a x : Int32) : f_Mo_puts mo a x = some (up2 (up2 (up2 mo 15 (64 + m) a) 16 (64 + m) x) 22 0 (nI (m + 1))) := by
  have i64 : (64 : Int32).toInt = 64 := rfl
  have tm : (nI m).toInt = m := nI_toInt (by omega)
  have s : (64 + nI m).toInt = ((64 + m : Nat) : Int) := by rw [i_add (by omega) (by omega), i64, tm]; omega
  unfold f_Mo_puts
  rw [if_pos h0, h22, ix_ok (by omega) (by omega), Option.bind_some, Option.bind_some, i_tn, s, Int.toNat_natCast, nI_1]
theorem pile_ok {re : jZ} (ta : jZ) {c t : Nat} (h7 : re 7 0 = nI c) (hc : c < 64) (h5 : re 5 0 = nI t) (ht : t < 72) (x : Int32) : f_Reader_putOnPile re ta x = some (up2 (up2 (up2 re 7 0 (nI (c + 1))) 3 t x) 5 0 (nI (t + 1)), 1) := by
  have tc : (nI c).toInt = c := nI_toInt (by omega)
  have tt : (nI t).toInt = t := nI_toInt (by omega)
  have i64 : (64 : Int32).toInt = 64 := rfl
  have i72 : (72 : Int32).toInt = 72 := rfl
  have i0 : (0 : Int32).toInt = 0 := rfl
  unfold f_Reader_putOnPile
  rw [h7, h5, if_neg (by rw [i_le]; omega), if_neg (by rw [i_lt]; omega), if_pos (by rw [i_lt]; omega), ix_ok (by omega) (by omega), Option.bind_some, i_tn, tt, Int.toNat_natCast, nI_1, nI_1]
theorem pile_bad {re : jZ} (ta : jZ) (h7 : re 7 0 = nI 64) (x : Int32) : f_Reader_putOnPile re ta x = some (up2 (up2 re 1 0 2) 2 0 (ta 6 0), 0) := by
  unfold f_Reader_putOnPile
  rw [h7, if_pos (by decide)]
  rfl
theorem kS40 {x va : Int32} (h : kStep x 2 va) : ¬ x = 40 := by
  rcases h with ⟨a, -⟩ | ⟨a, -⟩ | ⟨-, h⟩
  · exact absurd a (by decide)
  · exact absurd a (by decide)
  · rcases h with h | h | h | h | h | h | h | h | h | h | h | h | h <;> rw [h.2] <;> decide
/-- a two-place sign comes behind a value: the class's own turn -/
theorem SGc {b o c t s : Nat} {re ta ru mo : jZ} (e : ES b o c t s re ru mo) (r : Int) (hr1 : 1 ≤ r) (hrk : (rk (ta 5 0)).toInt = r) (hsrt : ta 4 0 = 3 ∨ (ta 4 0 = 1 ∧ (ta 5 0 = wv 8 ∨ ta 5 0 = wv 7))) (hcmp : r = 4 → re 4 o = 0) (hrank : ∀ j, b ≤ j → j < t → r ≤ (rk (re 3 j)).toInt) (hb : b = 0 ∨ (rk (re 3 (b - 1))).toInt < r) :
    ∃ re3 ru3, (f_Reader_readBehind re ta ru = if c = 64 then some (up2 (up2 re3 1 0 2) 2 0 (ta 6 0), ru3, 0) else some (re3, ru3, 1)) ∧ (¬ c = 64 → (re3 5 0 = nI (b + 1) ∧ re3 6 0 = nI o ∧ re3 7 0 = nI (c + 1) ∧ re3 8 0 = 1 ∧ re3 9 0 = (if 2 < r then 0 else 1) ∧ re3 3 b = ta 5 0 ∧ (∀ j, j ≠ b → re3 3 j = re 3 j) ∧ (∀ j, j ≠ o → re3 4 j = re 4 j) ∧ re3 4 o = (if 4 < r then re 4 o else if r = 4 then 1 else 0) ∧ re3 1 = re 1 ∧ re3 2 = re 2)) ∧ ru3 0 0 = nI (s + (t - b)) ∧ (∀ i, i < s → ru3 1 i = ru 1 i) ∧ (∀ j, j < t - b → ru3 1 (s + j) = re 3 (t - 1 - j)) := by
  obtain ⟨⟨e5, e6, -, e7, -⟩, ⟨hc, ho, hbt⟩, et, ent, es, esn, -⟩ := id e
  have i4 : (4 : Int32).toInt = 4 := rfl
  have i2 : (2 : Int32).toInt = 2 := rfl
  have i0 : (0 : Int32).toInt = 0 := rfl
  have i8 : (8 : Int32).toInt = 8 := rfl
  have to : (nI o).toInt = o := nI_toInt (by omega)
  obtain ⟨re1, ru1, g1, g2, g3, g4, g5, g6⟩ := ld_ok (rk (ta 5 0)) (t - b) FU re ru b t s (by omega) (by omega) (by unfold FU; omega) e5 es (by omega) (by rw [hrk]; exact hrank) (by rw [hrk]; exact hb)
  have L : f_Reader_layDown re ru (rk (ta 5 0)) = some (re1, ru1) := g1
  have n41 : ¬ (ta 4 0 = 3 ∧ ta 5 0 = 41) := fun z => by
    rw [z.2] at hrk
    have : (rk 41).toInt = 0 := by decide
    omega
  -- as far as the pile
  obtain ⟨re2, k0, k4⟩ : ∃ re2 : jZ, f_Reader_readBehind_127 ta re ru (rk (ta 5 0)) = f_Reader_readBehind_157 ta re2 ru1 (rk (ta 5 0)) ∧ ((∀ q, q ≠ 4 → re2 q = re1 q) ∧ (∀ j, j ≠ o → re2 4 j = re 4 j) ∧ re2 4 o = (if 4 < r then re 4 o else if r = 4 then 1 else 0)) := by
    unfold f_Reader_readBehind_127
    rw [L, Option.bind_some]
    dsimp only
    have e61 : re1 6 0 = nI o := by rw [g3 6 (by decide)]; exact e6
    have e41 : re1 4 = re 4 := g3 4 (by decide)
    rw [e61, ix_ok (by omega) (by omega), Option.bind_some, Option.bind_some, i_tn, to, Int.toNat_natCast]
    by_cases c4 : 4 < r
    · rw [if_pos (show (4 : Int32) < rk (ta 5 0) by rw [i_lt]; omega), if_pos c4]
      exact ⟨re1, rfl, fun _ _ => rfl, fun j _ => by rw [e41], by rw [e41]⟩
    · rw [if_neg (show ¬ (4 : Int32) < rk (ta 5 0) by rw [i_lt]; omega), if_neg c4]
      by_cases d4 : r = 4
      · rw [if_pos (show rk (ta 5 0) = 4 by rw [i_eq]; omega), if_pos d4]
        exact ⟨_, rfl, fun q hq => up2_k hq, fun j hj => by rw [up2_j hj, e41], up2_s⟩
      · rw [if_neg (show ¬ rk (ta 5 0) = 4 by rw [i_eq]; omega), if_neg d4]
        exact ⟨_, rfl, fun q hq => up2_k hq, fun j hj => by rw [up2_j hj, e41], up2_s⟩
  obtain ⟨k1, k2, k3⟩ := k4
  have A99 : f_Reader_readBehind_99 ta re ru (rk (ta 5 0)) = f_Reader_readBehind_157 ta re2 ru1 (rk (ta 5 0)) := by
    unfold f_Reader_readBehind_99
    rw [if_neg (show ¬ rk (ta 5 0) = 0 by rw [i_eq]; omega), k0]
    by_cases d4 : r = 4
    · rw [if_pos (show rk (ta 5 0) = 4 by rw [i_eq]; omega), e6, ix_ok (by omega) (by omega), Option.bind_some, i_tn, to, Int.toNat_natCast, if_pos (hcmp d4)]
    · rw [if_neg (show ¬ rk (ta 5 0) = 4 by rw [i_eq]; omega)]
  have A : f_Reader_readBehind re ta ru = f_Reader_readBehind_157 ta re2 ru1 (rk (ta 5 0)) := by
    unfold f_Reader_readBehind
    rw [csig, if_neg n41, Option.bind_some, if_pos rfl, e6, if_neg (show ¬ nI o < 0 by rw [i_lt]; omega), if_pos (show nI o ≤ 8 by rw [i_le]; omega), rk_eq, Option.bind_some, A99]
    rcases hsrt with h | ⟨h, h'⟩
    · rw [if_pos h]
    · rw [if_neg (by rw [h]; decide), cwrd, cwrd, Option.bind_some, Option.bind_some]
      rcases h' with h' | h'
      · rw [if_pos (show ta 4 0 = 1 ∧ ta 5 0 = 48365568 from ⟨h, h'⟩), if_neg (by decide)]
      · rw [if_neg (show ¬ (ta 4 0 = 1 ∧ ta 5 0 = 48365568) by rw [h']; rintro ⟨-, z⟩; exact absurd z (by decide)), if_pos rfl, if_pos (show ta 4 0 = 1 ∧ ta 5 0 = 522190848 from ⟨h, h'⟩), if_neg (by decide)]
  -- the pile
  obtain ⟨re4, z1, z2, z3, z4⟩ : ∃ re4 : jZ, f_Reader_readBehind_157 ta re2 ru1 (rk (ta 5 0)) = ((f_Reader_putOnPile re4 ta (ta 5 0)).bind fun q43 => (bz q43.2).bind fun _ => some (q43.1, ru1, q43.2)) ∧ (∀ q, q ≠ 8 → q ≠ 9 → re4 q = re2 q) ∧ re4 8 0 = 1 ∧ re4 9 0 = (if 2 < r then 0 else 1) := by
    unfold f_Reader_readBehind_157
    by_cases c2 : 2 < r
    · rw [if_pos (show (2 : Int32) < rk (ta 5 0) by rw [i_lt]; omega), if_pos c2]
      exact ⟨_, rfl, fun q a b => by rw [up2_k a, up2_k b], up2_s, by rw [up2_k (by decide), up2_s]⟩
    · rw [if_neg (show ¬ (2 : Int32) < rk (ta 5 0) by rw [i_lt]; omega), if_neg c2]
      exact ⟨_, rfl, fun q a b => by rw [up2_k a, up2_k b], up2_s, by rw [up2_k (by decide), up2_s]⟩
  have q7 : re4 7 0 = nI c := by rw [z2 7 (by decide) (by decide), k1 7 (by decide), g3 7 (by decide)]; exact e7
  have q5 : re4 5 0 = nI b := by rw [z2 5 (by decide) (by decide), k1 5 (by decide)]; exact g2
  rw [A, z1]
  by_cases h64 : c = 64
  · subst h64
    refine ⟨re4, ru1, ?_, fun e => absurd rfl e, by rw [g4], g5, g6⟩
    rw [pile_bad ta q7, Option.bind_some, if_pos rfl]
    dsimp only
    rw [bz_ok (Or.inl rfl), Option.bind_some]
  · have hbb : b < 72 := by omega
    refine ⟨up2 (up2 (up2 re4 7 0 (nI (c + 1))) 3 b (ta 5 0)) 5 0 (nI (b + 1)), ru1, (by
      rw [pile_ok ta q7 (by omega) q5 hbb, Option.bind_some, if_neg h64]
      dsimp only
      rw [bz_ok (Or.inr rfl), Option.bind_some]), fun _ => ⟨up2_s, ?_, ?_, ?_, ?_, ?_, ?_, ?_, ?_, ?_, ?_⟩, by rw [g4], g5, g6⟩
    · rw [up2_k (by decide), up2_k (by decide), up2_k (by decide), z2 6 (by decide) (by decide), k1 6 (by decide), g3 6 (by decide)]; exact e6
    · rw [up2_k (by decide), up2_k (by decide), up2_s]
    · rw [up2_k (by decide), up2_k (by decide), up2_k (by decide)]; exact z3
    · rw [up2_k (by decide), up2_k (by decide), up2_k (by decide)]; exact z4
    · rw [up2_k (by decide), up2_s]
    · intro j hj
      rw [up2_k (by decide), up2_j hj, up2_k (by decide), z2 3 (by decide) (by decide), k1 3 (by decide), g3 3 (by decide)]
    · intro j hj
      rw [up2_k (by decide), up2_k (by decide), up2_k (by decide), z2 4 (by decide) (by decide)]; exact k2 j hj
    · rw [up2_k (by decide), up2_k (by decide), up2_k (by decide), z2 4 (by decide) (by decide)]; exact k3
    · rw [up2_k (by decide), up2_k (by decide), up2_k (by decide), z2 1 (by decide) (by decide), k1 1 (by decide), g3 1 (by decide)]
    · rw [up2_k (by decide), up2_k (by decide), up2_k (by decide), z2 2 (by decide) (by decide), k1 2 (by decide), g3 2 (by decide)]
theorem puts_ES {b o c t s : Nat} {re ru mo : jZ} (e : ES (b + 1) o c t s re ru mo) {x va : Int32} (hx : re 3 b = x) (hk : kStep x 2 va) (m : Nat) (hm : m = s + (t - (b + 1))) : ES b o c t s re ru (up2 (up2 (up2 mo 15 (64 + m) 2) 16 (64 + m) va) 22 0 (nI (m + 1))) ∧ m < 64 := by
  obtain ⟨⟨e5, e6, m6, e7, m7⟩, ⟨hc, ho, hbt⟩, et, ent, es, esn, e22, o1, o2⟩ := e
  have n1 : np (re 3) (b + 1) = np (re 3) b + 1 := by rw [np, if_neg (by rw [hx]; exact kS40 hk)]
  refine ⟨⟨⟨e5, e6, by rw [up2_k (by decide), up2_k (by decide), up2_k (by decide)]; exact m6, e7, by rw [up2_k (by decide), up2_k (by decide), up2_k (by decide)]; exact m7⟩, ⟨hc, ho, by omega⟩, et, by omega, es, esn, by rw [up2_s, hm]; congr 1; omega, fun i hi => ?_, fun j hj => ?_⟩, by omega⟩
  · rw [up2_k (by decide), up2_k (by decide), up2_j (by omega), up2_k (by decide), up2_j (by omega)]
    exact o1 i hi
  · by_cases c1 : j = t - b - 1
    · subst c1
      rw [show 64 + s + (t - b - 1) = 64 + m by omega, show t - 1 - (t - b - 1) = b by omega, up2_k (by decide), up2_k (by decide), up2_s, up2_k (by decide), up2_s, hx]
      exact hk
    · rw [up2_k (by decide), up2_k (by decide), up2_j (by omega), up2_k (by decide), up2_j (by omega)]
      exact o2 j (by omega)
theorem tok_ne {ta mo : jZ} (hT : T ta mo) (h : ¬ ta 4 0 = 0) : (mo 29 0).toInt + 1 ≤ (mo 28 0).toInt := by have := hT.2.2.2.1 h; omega
theorem T_600 {ta mo : jZ} (hT : T ta mo) : (mo 29 0).toInt ≤ 600 := by
  have h1 := hT.2.2.1.2
  have h2 := hT.1.2.2.1
  omega
theorem tPos_cg {ta mo mo2 : jZ} (h : tPos ta mo) (h1 : mo2 1 = mo 1) (h27 : mo2 27 = mo 27) (h28 : mo2 28 = mo 28) : tPos ta mo2 := by
  unfold tPos at *; rw [h1, h27, h28]; exact h
/-- a two-place sign, and what stands behind it -/
theorem BS (G : Nat → jZ → Option jZ) (k1 o : Nat) (r : Int) (hr1 : 1 ≤ r) (hPK : r < PK k1) (hRK : r ≤ RK k1) (hlo : k1 ≤ 2 → r ≤ 2) (hhi : 3 ≤ k1 → 4 ≤ r) (cB : Nat)
    (H : ∀ b c s v m (re ta ru mo : jZ), cB < c → PRE k1 b o c s v re ta ru mo → m = s → OUTC k1 b o c v re ta ru mo m (G k1 mo))
    (HF : ∀ mf : jZ, ¬ mf 32 0 = 0 → G k1 mf = some mf) (K : jZ → Option jZ) {x va : Int32} (hkS : kStep x 2 va) (hva : ¬ va = 260) {n b c t s v : Nat} {re ta ru mo : jZ} (hcB : cB ≤ c)
    (g : GD r n b o c t s v re ta ru mo) (hx : ta 5 0 = x) (hrk : (rk x).toInt = r) (hsrt : ta 4 0 = 3 ∨ (ta 4 0 = 1 ∧ (x = wv 8 ∨ x = wv 7))) (hcmp : r = 4 → re 4 o = 0) (hb : b = 0 ∨ (rk (re 3 (b - 1))).toInt < r) :
    (∃ mf, ((f_Mo_knot mo).bind fun q => (if (q 32 0) = 0 then (f_Mo_next q).bind fun q1 => (G k1 q1).bind fun q2 => (f_Mo_puts q2 2 va).bind fun q3 => K q3 else (G k1 q).bind fun q2 => (f_Mo_puts q2 2 va).bind fun q3 => K q3)) = K mf ∧ XR mo mf ∧ FAIL v re ta ru mf) ∨
    (∃ mo3 re3 ta3 ru3 v3 c3 t3 s3, ((f_Mo_knot mo).bind fun q => (if (q 32 0) = 0 then (f_Mo_next q).bind fun q1 => (G k1 q1).bind fun q2 => (f_Mo_puts q2 2 va).bind fun q3 => K q3 else (G k1 q).bind fun q2 => (f_Mo_puts q2 2 va).bind fun q3 => K q3)) = K mo3 ∧ tLP v re ta ru = tLP v3 re3 ta3 ru3 ∧ GD r k1 b o c3 t3 s3 v3 re3 ta3 ru3 mo3 ∧ FT re re3 b o ∧ (4 < r → re3 4 o = re 4 o) ∧ (r = 4 → re3 4 o = 1) ∧ XR mo mo3 ∧ (∀ (mo0 : jZ) (m0 : Nat), phr mo0 mo m0 (s + (t - b)) → phr mo0 mo3 m0 (s3 + (t3 - b))) ∧ (∀ q, q < 3 → ta3 q = ta q) ∧ c < c3) := by
  obtain ⟨e, hT, h0, h8, hrank, hNS, hv⟩ := g
  subst hx
  obtain ⟨⟨e5, e6, m6, e7, m7⟩, ⟨hc, ho, hbt⟩, et, ent, es, esn, e22, o1, o2⟩ := id e
  obtain ⟨re3, ru3, A, B, r0, r1, r2⟩ := SGc e r hr1 hrk hsrt hcmp hrank hb
  have n0 : ¬ ta 4 0 = 0 := by rcases hsrt with h | ⟨h, -⟩ <;> rw [h] <;> decide
  have hv6 : v ≤ 600 := by have := T_600 hT; omega
  have hE : re 6 0 = 0 → ¬ (ta 4 0 = 3 ∧ ta 5 0 = 59) := fun _ z => by
    rw [z.2] at hrk
    have : (rk 59).toInt = 0 := by decide
    omega
  have LPe := tLP_beh (ru := ru) hv6 h8 hE
  rw [A] at LPe
  by_cases h64 : c = 64
  · left
    rw [if_pos h64, Option.bind_some] at LPe
    dsimp only at LPe
    rw [if_pos rfl] at LPe
    generalize hmf : up2 (up2 mo 32 0 2) 33 0 (mo 29 0) = mf
    have f32 : mf 32 0 = 2 := by rw [← hmf, up2_k (by decide), up2_s]
    have nf : ¬ mf 32 0 = 0 := by rw [f32]; decide
    refine ⟨mf, ?_, XR.bad nf (fun q hq => by rw [← hmf, up2_k (by omega), up2_k (by omega)]), nf, _, _, _, LPe, ?_, ?_, fun _ _ => rfl⟩
    · rw [knot_bad h0 (by rw [m7, h64]), hmf, Option.bind_some, if_neg nf, HF mf nf, Option.bind_some, puts_f nf, Option.bind_some]
    · rw [up2_k (by decide), up2_s, f32]
    · rw [up2_s, ← hmf, up2_s, hT.2.1]
  · obtain ⟨b5, b6, b7, b8, b9, b3, b3', b4', b4, bb1, bb2⟩ := B h64
    rw [if_neg h64, Option.bind_some] at LPe
    dsimp only at LPe
    rw [if_neg (by decide)] at LPe
    generalize hm1 : up2 mo 37 0 (nI (c + 1)) = m1
    have m1k : ∀ q, q ≠ 37 → m1 q = mo q := fun q hq => by rw [← hm1, up2_k hq]
    obtain ⟨ta1, mo1, s1, s2, s3, s4, s5, s6⟩ := step_ok (tPos_cg hT.1 (m1k 1 (by decide)) (m1k 27 (by decide)) (m1k 28 (by decide)))
    rw [s1, Option.bind_some] at LPe
    rw [m1k 28 (by decide)] at s4
    have pl := tok_ne hT n0
    have q15 : mo1 15 = mo 15 := by rw [s6 15 (by omega), m1k 15 (by decide)]
    have q16 : mo1 16 = mo 16 := by rw [s6 16 (by omega), m1k 16 (by decide)]
    have q22 : mo1 22 0 = nI (s + (t - b)) := by rw [s6 22 (by omega), m1k 22 (by decide)]; exact e22
    have nx40 : ¬ ta 5 0 = 40 := kS40 hkS
    have n1 : np (re3 3) (b + 1) = np (re 3) b + 1 := by rw [np, b3, if_neg nx40, np_cg (re3 3) (re 3) b (fun j hj => b3' j (by omega))]
    have pre : PRE k1 (b + 1) o (c + 1) (s + (t - b)) (v + 1) re3 ta1 ru3 mo1 := by
      refine ⟨⟨⟨b5, b6, by rw [s6 36 (by omega), m1k 36 (by decide)]; exact m6, b7, by rw [s6 37 (by omega), ← hm1, up2_s]⟩, ⟨by omega, ho, Nat.le_refl _⟩, by omega, by omega, r0, by omega, by rw [q22]; congr 1; omega, fun i hi => ?_, fun j hj => by omega⟩, s3, by rw [s6 32 (by omega), m1k 32 (by decide)]; exact h0, b8, fun hk => by rw [b9, if_neg (by have := hlo hk; omega)], fun hk _ => by rw [b9, if_pos (by have := hhi hk; omega)], Or.inr ?_, fun hk => ?_, by omega⟩
      · rw [q15, q16]
        by_cases d : i < s
        · rw [r1 i d]; exact o1 i d
        · have := o2 (i - s) (by omega)
          have z := r2 (i - s) (by omega)
          rw [show s + (i - s) = i by omega] at z
          rw [z, show 64 + i = 64 + s + (i - s) by omega]; exact this
      · rw [show b + 1 - 1 = b by omega, b3, hrk]; exact hPK
      · rw [b4, if_neg (by have := hlo hk; omega), if_neg (by have := hlo hk; omega)]
    have ref : (f_Mo_knot mo).bind (fun q => (if (q 32 0) = 0 then (f_Mo_next q).bind fun q1 => (G k1 q1).bind fun q2 => (f_Mo_puts q2 2 va).bind fun q3 => K q3 else (G k1 q).bind fun q2 => (f_Mo_puts q2 2 va).bind fun q3 => K q3)) = (G k1 mo1).bind fun q2 => (f_Mo_puts q2 2 va).bind fun q3 => K q3 := by
      rw [knot_ok h0 m7 (by omega), hm1, Option.bind_some, if_pos (by rw [m1k 32 (by decide)]; exact h0), s2, Option.bind_some]
    rw [ref]
    have X1 : XR mo mo1 := XR.of (fun q hq => by rw [s6 q (by omega), m1k q (by omega)])
    rcases H (b + 1) (c + 1) (s + (t - b)) (v + 1) (s + (t - b)) re3 ta1 ru3 mo1 (by omega) pre rfl with ⟨mf, f1, f2, f3, re4, ta4, ru4, f4, f5, f6, f7⟩ | ⟨mo', re', ta', ru', v', c', t', s', f1, f2, f3, f4, f5, f6, f7, f8, f9⟩
    · left
      refine ⟨mf, by rw [f1, Option.bind_some, puts_f f3, Option.bind_some], X1.tr f2, f3, re4, ta4, ru4, by rw [LPe, f4], f5, f6, fun q hq => (f7 q hq).trans (s5 q hq)⟩
    · right
      obtain ⟨e', hT', h0', h8', hrank', hNS', hv'⟩ := f3
      have x3 : re' 3 b = ta 5 0 := by rw [f4.1 b (by omega)]; exact b3
      have e22' := e'.2.2.2.2.2.2.1
      obtain ⟨P1, P2⟩ := puts_ES e' x3 hkS (s' + (t' - (b + 1))) rfl
      have hbt' := e'.2.1.2.2
      generalize hM : up2 (up2 (up2 mo' 15 (64 + (s' + (t' - (b + 1)))) 2) 16 (64 + (s' + (t' - (b + 1)))) va) 22 0 (nI ((s' + (t' - (b + 1))) + 1)) = M at P1
      have Mk : ∀ q, q ≠ 15 → q ≠ 16 → q ≠ 22 → M q = mo' q := fun q a b d => by rw [← hM, up2_k d, up2_k b, up2_k a]
      have M15 : ∀ j, j ≠ 64 + (s' + (t' - (b + 1))) → M 15 j = mo' 15 j := fun j hj => by rw [← hM, up2_k (by decide), up2_k (by decide), up2_j hj]
      have M16 : ∀ j, j ≠ 64 + (s' + (t' - (b + 1))) → M 16 j = mo' 16 j := fun j hj => by rw [← hM, up2_k (by decide), up2_j hj, up2_k (by decide)]
      refine ⟨M, re', ta', ru', v', c', t', s', by rw [f1, Option.bind_some, puts_ok h0' e22' P2, Option.bind_some, hM], by rw [LPe, f2], ⟨P1, ?_, by rw [Mk 32 (by decide) (by decide) (by decide)]; exact h0', h8', fun j a d => ?_, hNS', by rw [Mk 29 (by decide) (by decide) (by decide)]; exact hv'⟩, ⟨fun j hj => ?_, fun j hj => ?_, f4.2.2.1.trans bb1, f4.2.2.2.trans bb2⟩, fun h => ?_, fun h => ?_, ?_, fun mo0 m0 hp => ?_, fun q hq => (f8 q hq).trans (s5 q hq), by omega⟩
      · obtain ⟨y1, y2, y3, y4, y5⟩ := hT'
        refine ⟨tPos_cg y1 (Mk 1 (by decide) (by decide) (by decide)) (Mk 27 (by decide) (by decide) (by decide)) (Mk 28 (by decide) (by decide) (by decide)), ?_, ?_, ?_, ?_⟩
        · rw [Mk 29 (by decide) (by decide) (by decide)]; exact y2
        · rw [Mk 29 (by decide) (by decide) (by decide), Mk 28 (by decide) (by decide) (by decide)]; exact y3
        · rw [Mk 29 (by decide) (by decide) (by decide), Mk 28 (by decide) (by decide) (by decide)]; exact y4
        · rw [Mk 30 (by decide) (by decide) (by decide), Mk 31 (by decide) (by decide) (by decide)]; exact y5
      · by_cases z : j = b
        · rw [z, x3, hrk]; exact Int.le_refl _
        · have := hrank' j (by omega) d; omega
      · rw [f4.1 j (by omega)]; exact b3' j (by omega)
      · rw [f4.2.1 j hj]; exact b4' j (by omega)
      · rw [f5 (by
          by_cases z : 3 ≤ k1
          · exact z
          · have := hlo (by omega); omega), b4, if_pos h]
      · rw [f5 (by
          by_cases z : 3 ≤ k1
          · exact z
          · have := hlo (by omega); omega), b4, if_neg (by omega), if_pos h]
      · refine X1.tr (f6.tr ⟨fun q hq => Mk q (by omega) (by omega) (by omega), fun j hj => ⟨M15 j (by omega), M16 j (by omega)⟩, fun e => ⟨by rw [← Mk 32 (by omega) (by omega) (by omega)]; exact e, Mk 33 (by omega) (by omega) (by omega)⟩⟩)
      · have hb2 : phr mo0 M m0 ((s' + (t' - (b + 1))) + 1) := (hp.cg q15 q16).bin f7 (fun j hj => ⟨M15 j (by omega), M16 j (by omega)⟩) (by rw [← hM, up2_k (by decide), up2_k (by decide), up2_s]) (by rw [← hM, up2_k (by decide), up2_s]; exact hva)
        rw [show s' + (t' - b) = (s' + (t' - (b + 1))) + 1 by omega]
        exact hb2
