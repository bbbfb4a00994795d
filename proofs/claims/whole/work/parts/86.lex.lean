/-! ===== the two lexers ===== -/
theorem nn_toNat {x : Int32} (h : 0 ≤ x.toInt) : (x.toBitVec.toNat : Int) = x.toInt := by
  have e : x.toInt = x.toBitVec.toInt := rfl
  rw [e] at h ⊢
  rw [BitVec.toInt_eq_toNat_cond] at h ⊢
  have := x.toBitVec.isLt
  split at h
  · rename_i q; rw [if_pos q]
  · omega
theorem toInt_of_toNat {x : Int32} {n : Nat} (h : x.toBitVec.toNat = n) (hn : n < 2147483648) : x.toInt = n := by
  have e : x.toInt = x.toBitVec.toInt := rfl
  rw [e, BitVec.toInt_eq_toNat_cond, h, if_pos (by omega)]
theorem shl_toInt (y : Int32) (a s : Nat) (hy : y.toInt = a) (hs : s < 32) (hb : a * 2 ^ s < 2147483648) : (y <<< (nI s &&& 31)).toInt = ((a * 2 ^ s : Nat) : Int) := by
  have e : ∀ n, n < 32 → ((nI n &&& 31).toBitVec.smod 32).toNat = n := by decide
  apply toInt_of_toNat _ hb
  rw [Int32.toBitVec_shiftLeft]
  show (y.toBitVec <<< ((nI s &&& 31).toBitVec.smod 32).toNat).toNat = _
  have hy2 := nn_toNat (x := y) (by omega)
  rw [e s hs, BitVec.toNat_shiftLeft, Nat.shiftLeft_eq, show y.toBitVec.toNat = a by omega]
  exact Nat.mod_eq_of_lt (by omega)
theorem or_toInt (x z : Int32) (n k m : Nat) (hx : x.toInt = ((2 ^ n * k : Nat) : Int)) (hz : z.toInt = m) (hm : m < 2 ^ n) (hb : 2 ^ n * k + m < 2147483648) : (x ||| z).toInt = ((2 ^ n * k + m : Nat) : Int) := by
  apply toInt_of_toNat _ hb
  rw [Int32.toBitVec_or, BitVec.toNat_or]
  have h1 := nn_toNat (x := x) (by omega)
  have h2 := nn_toNat (x := z) (by omega)
  rw [show x.toBitVec.toNat = 2 ^ n * k by omega, show z.toBitVec.toNat = m by omega, Nat.two_pow_add_eq_or_of_lt hm]
theorem sb_toInt (x : Int32) (h0 : 0 ≤ x.toInt) (h1 : x.toInt ≤ 255) : (x.toInt ≤ 127 ∧ Int8.toInt32 (Int32.toInt8 x) = x) ∨ (128 ≤ x.toInt ∧ (Int8.toInt32 (Int32.toInt8 x)).toInt < 0) := by
  have e : (Int8.toInt32 (Int32.toInt8 x)).toInt = x.toInt.bmod (2 ^ 8) := by
    rw [Int8.toInt_toInt32, Int32.toInt_toInt8]
  rw [Int.bmod_def] at e
  by_cases c : x.toInt ≤ 127
  · left
    refine ⟨c, i_ext ?_⟩
    rw [e]; omega
  · right
    refine ⟨by omega, ?_⟩
    rw [e]; omega
/-- the same place on both tapes -/
def tPos (ta mo : jZ) : Prop := ta 3 0 = mo 28 0 ∧ ta 2 0 = mo 27 0 ∧ (0 ≤ (mo 28 0).toInt ∧ (mo 28 0).toInt ≤ (mo 27 0).toInt ∧ (mo 27 0).toInt ≤ 600) ∧ ∀ i : Nat, (i : Int) < (mo 27 0).toInt → ta 0 i = Int8.toInt32 (Int32.toInt8 (mo 1 i)) ∧ 0 ≤ (mo 1 i).toInt ∧ (mo 1 i).toInt ≤ 255
theorem tPos.mv {ta mo : jZ} (h : tPos ta mo) (ta2 mo2 : jZ) (v : Int32) (a3 : ta2 3 0 = v) (m28 : mo2 28 0 = v) (a0 : ta2 0 = ta 0) (a2 : ta2 2 = ta 2) (m1 : mo2 1 = mo 1) (m27 : mo2 27 = mo 27) (b0 : 0 ≤ v.toInt) (b1 : v.toInt ≤ (mo 27 0).toInt) : tPos ta2 mo2 := by
  obtain ⟨h1, h2, ⟨h3, h4, h5⟩, h6⟩ := h
  refine ⟨by rw [a3, m28], by rw [a2, m27]; exact h2, ⟨by rw [m28]; exact b0, by rw [m28, m27]; exact b1, by rw [m27]; exact h5⟩, ?_⟩
  rw [a0, m1, m27]; exact h6
theorem here_eq {ta mo : jZ} (h : tPos ta mo) : f_Mo_here mo = some (if (mo 28 0).toInt < (mo 27 0).toInt then mo 1 (mo 28 0).toInt.toNat else -1) := by
  obtain ⟨h1, h2, ⟨h3, h4, h5⟩, h6⟩ := h
  unfold f_Mo_here
  by_cases c : (mo 28 0).toInt < (mo 27 0).toInt
  · rw [if_neg (by rw [i_le]; omega), ix_ok (by omega) (by omega), Option.bind_some, i_tn, if_pos c]
  · rw [if_pos (by rw [i_le]; omega), if_neg c]
/-- behind the blanks -/
def nxA (mo_z : jZ) : Option jZ := (f_Mo_here (up2 mo_z 29 0 (mo_z 28 0))).bind fun q7 => (if q7 = (-1) then some (up2 (up2 mo_z 29 0 (mo_z 28 0)) 30 0 4)
    else (f_Mo_isSmall q7).bind fun q10 => (if q10 = 0 then (f_Mo_isDigit q7).bind fun q13 => (if q13 = 0 then (f_Mo_sign (up2 mo_z 29 0 (mo_z 28 0)) q7).bind fun q16 => some q16
    else f_Mo_next_162 FU (up2 (up2 (up2 mo_z 29 0 (mo_z 28 0)) 30 0 2) 31 0 0))
    else f_Mo_next_64 FU (up2 mo_z 29 0 (mo_z 28 0))))
theorem ws_loop : ∀ (n N1 N2 : Nat) (ta mo : jZ), tPos ta mo → (mo 28 0).toInt + n = (mo 27 0).toInt → n < N1 → n < N2 →
    ∃ ta2 mo2, f_Tape_step_0 N1 ta = f_Tape_step_59 ta2 ∧ f_Mo_next_0 N2 mo = nxA mo2 ∧ tPos ta2 mo2 ∧ (mo 28 0).toInt ≤ (mo2 28 0).toInt ∧ (∀ q, q ≠ 3 → ta2 q = ta q) ∧ (∀ q, q ≠ 28 → mo2 q = mo q) := by
  have i0 : (0 : Int32).toInt = 0 := rfl
  have i1 : (1 : Int32).toInt = 1 := rfl
  intro n
  induction n with
  | zero =>
    intro N1 N2 ta mo h hn hN1 hN2
    obtain ⟨N1, rfl⟩ : ∃ k, N1 = k + 1 := ⟨N1 - 1, by omega⟩
    obtain ⟨N2, rfl⟩ : ∃ k, N2 = k + 1 := ⟨N2 - 1, by omega⟩
    obtain ⟨h1, h2, ⟨h3, h4, h5⟩, h6⟩ := id h
    refine ⟨ta, mo, ?_, ?_, h, Int.le_refl _, fun _ _ => rfl, fun _ _ => rfl⟩
    · rw [f_Tape_step_0, h1, h2, if_neg (by rw [i_lt]; omega), if_pos (by rw [i_le]; omega)]
    · rw [f_Mo_next_0, here_eq h, if_neg (by omega), Option.bind_some, if_neg (by decide), Option.bind_some, if_neg (by decide)]
      rfl
  | succ n ih =>
    intro N1 N2 ta mo h hn hN1 hN2
    obtain ⟨N1, rfl⟩ : ∃ k, N1 = k + 1 := ⟨N1 - 1, by omega⟩
    obtain ⟨N2, rfl⟩ : ∃ k, N2 = k + 1 := ⟨N2 - 1, by omega⟩
    obtain ⟨h1, h2, ⟨h3, h4, h5⟩, h6⟩ := id h
    obtain ⟨c1, c2, c3⟩ := h6 (mo 28 0).toInt.toNat (by omega)
    have t1 : (mo 28 0 + 1).toInt = (mo 28 0).toInt + 1 := by rw [i_add (by omega) (by omega), i1]
    have step : ∃ ta2 mo2, f_Tape_step_0 N1 (up2 ta 3 0 (mo 28 0 + 1)) = f_Tape_step_59 ta2 ∧ f_Mo_next_0 N2 (up2 mo 28 0 (mo 28 0 + 1)) = nxA mo2 ∧ tPos ta2 mo2 ∧ (mo 28 0).toInt ≤ (mo2 28 0).toInt ∧ (∀ q, q ≠ 3 → ta2 q = ta q) ∧ (∀ q, q ≠ 28 → mo2 q = mo q) := by
      obtain ⟨ta2, mo2, e1, e2, e3, e4, e5, e6⟩ := ih N1 N2 (up2 ta 3 0 (mo 28 0 + 1)) (up2 mo 28 0 (mo 28 0 + 1)) (h.mv _ _ (mo 28 0 + 1) up2_s up2_s (up2_k (by decide)) (up2_k (by decide)) (up2_k (by decide)) (up2_k (by decide)) (by omega) (by omega)) (by rw [up2_s, up2_k (by decide)]; omega) (by omega) (by omega)
      rw [up2_s] at e4
      exact ⟨ta2, mo2, e1, e2, e3, by omega, fun q hq => by rw [e5 q hq, up2_k hq], fun q hq => by rw [e6 q hq, up2_k hq]⟩
    have A : f_Tape_step_0 (N1 + 1) ta = (if ta 0 (mo 28 0).toInt.toNat = 10 ∨ ta 0 (mo 28 0).toInt.toNat = 32 then f_Tape_step_0 N1 (up2 ta 3 0 (mo 28 0 + 1)) else f_Tape_step_59 ta) := by
      rw [f_Tape_step_0, h1, h2, if_neg (by rw [i_lt]; omega), if_neg (by rw [i_le]; omega), ix_ok (by omega) (by omega), Option.bind_some, Option.bind_some, i_tn]
      by_cases c : ta 0 (mo 28 0).toInt.toNat = 10
      · rw [if_pos c, if_pos (Or.inl c)]
      · rw [if_neg c]
        by_cases d : ta 0 (mo 28 0).toInt.toNat = 32
        · rw [if_pos d, if_pos (Or.inr d)]
        · rw [if_neg d, if_neg (by rintro (e | e); exact c e; exact d e)]
    have B : f_Mo_next_0 (N2 + 1) mo = (if mo 1 (mo 28 0).toInt.toNat = 10 ∨ mo 1 (mo 28 0).toInt.toNat = 32 then f_Mo_next_0 N2 (up2 mo 28 0 (mo 28 0 + 1)) else nxA mo) := by
      rw [f_Mo_next_0, here_eq h, if_pos (by omega), Option.bind_some, Option.bind_some]
      by_cases c : mo 1 (mo 28 0).toInt.toNat = 10
      · rw [if_pos c, if_pos (Or.inl c)]
      · rw [if_neg c]
        by_cases d : mo 1 (mo 28 0).toInt.toNat = 32
        · rw [if_pos d, if_pos (Or.inr d)]
        · rw [if_neg d, if_neg (by rintro (e | e); exact c e; exact d e)]; rfl
    have eqc : (ta 0 (mo 28 0).toInt.toNat = 10 ∨ ta 0 (mo 28 0).toInt.toNat = 32) ↔ (mo 1 (mo 28 0).toInt.toNat = 10 ∨ mo 1 (mo 28 0).toInt.toNat = 32) := by
      have i10 : (10 : Int32).toInt = 10 := rfl
      have i32 : (32 : Int32).toInt = 32 := rfl
      rw [c1]
      rcases sb_toInt _ c2 c3 with ⟨a, b⟩ | ⟨a, b⟩
      · rw [b]
      · simp only [i_eq]; omega
    rw [A, B]
    by_cases c : mo 1 (mo 28 0).toInt.toNat = 10 ∨ mo 1 (mo 28 0).toInt.toNat = 32
    · rw [if_pos (eqc.mpr c), if_pos c]; exact step
    · rw [if_neg (fun e => c (eqc.mp e)), if_neg c]
      exact ⟨ta, mo, rfl, rfl, h, Int.le_refl _, fun _ _ => rfl, fun _ _ => rfl⟩
/-! digits -/
def dR (v V : Int32) : Prop := (v = V ∧ 0 ≤ V.toInt ∧ V.toInt ≤ 999) ∨ (v = 1000 ∧ 1000 ≤ V.toInt ∧ V.toInt ≤ 9999)
theorem dg_loop : ∀ (n N1 N2 : Nat) (ta mo : jZ), tPos ta mo → (mo 28 0).toInt + n = (mo 27 0).toInt → n < N1 → n < N2 → dR (ta 5 0) (mo 31 0) →
    ∃ ta2 mo2, f_Tape_stepDigits_0 N1 ta = some (up2 ta2 4 0 2) ∧ f_Mo_next_162 N2 mo = some mo2 ∧ tPos ta2 mo2 ∧ (mo 28 0).toInt ≤ (mo2 28 0).toInt ∧ ((mo 28 0).toInt < (mo 27 0).toInt → 48 ≤ (mo 1 (mo 28 0).toInt.toNat).toInt → (mo 1 (mo 28 0).toInt.toNat).toInt ≤ 57 → (mo 28 0).toInt < (mo2 28 0).toInt) ∧ dR (ta2 5 0) (mo2 31 0) ∧ (∀ q, q ≠ 3 → q ≠ 5 → ta2 q = ta q) ∧ (∀ q, q ≠ 28 → q ≠ 31 → mo2 q = mo q) := by
  have i0 : (0 : Int32).toInt = 0 := rfl
  have i1 : (1 : Int32).toInt = 1 := rfl
  have i48 : (48 : Int32).toInt = 48 := rfl
  have i57 : (57 : Int32).toInt = 57 := rfl
  have i10 : (10 : Int32).toInt = 10 := rfl
  have i1000 : (1000 : Int32).toInt = 1000 := rfl
  have i999 : (999 : Int32).toInt = 999 := rfl
  have isd : ∀ x : Int32, f_Mo_isDigit x = some (if 48 ≤ x.toInt ∧ x.toInt ≤ 57 then 1 else 0) := fun x => by
    unfold f_Mo_isDigit
    simp only [i_lt, i48, i57]
    by_cases c : x.toInt < 48
    · rw [if_pos c, if_neg (by omega)]
    · by_cases d : 57 < x.toInt
      · rw [if_neg c, if_pos d, if_neg (by omega)]
      · rw [if_neg c, if_neg d, if_pos (by omega)]
  intro n
  induction n with
  | zero =>
    intro N1 N2 ta mo h hn hN1 hN2 hd
    obtain ⟨N1, rfl⟩ : ∃ k, N1 = k + 1 := ⟨N1 - 1, by omega⟩
    obtain ⟨N2, rfl⟩ : ∃ k, N2 = k + 1 := ⟨N2 - 1, by omega⟩
    obtain ⟨h1, h2, ⟨h3, h4, h5⟩, h6⟩ := id h
    refine ⟨ta, mo, ?_, ?_, h, Int.le_refl _, fun e => by omega, hd, fun _ _ _ => rfl, fun _ _ _ => rfl⟩
    · rw [f_Tape_stepDigits_0, h1, h2, if_neg (by rw [i_lt]; omega), if_pos (by rw [i_le]; omega)]
    · rw [f_Mo_next_162, here_eq h, if_neg (by omega), Option.bind_some, isd, if_neg (by decide), Option.bind_some, if_pos rfl]
  | succ n ih =>
    intro N1 N2 ta mo h hn hN1 hN2 hd
    obtain ⟨N1, rfl⟩ : ∃ k, N1 = k + 1 := ⟨N1 - 1, by omega⟩
    obtain ⟨N2, rfl⟩ : ∃ k, N2 = k + 1 := ⟨N2 - 1, by omega⟩
    obtain ⟨h1, h2, ⟨h3, h4, h5⟩, h6⟩ := id h
    obtain ⟨c1, c2, c3⟩ := h6 (mo 28 0).toInt.toNat (by omega)
    have t1 : (mo 28 0 + 1).toInt = (mo 28 0).toInt + 1 := by rw [i_add (by omega) (by omega), i1]
    generalize hC : mo 1 (mo 28 0).toInt.toNat = C at c1 c2 c3
    generalize hc : ta 0 (mo 28 0).toInt.toNat = c at c1
    have eqd : (48 ≤ c.toInt ∧ c.toInt ≤ 57) ↔ (48 ≤ C.toInt ∧ C.toInt ≤ 57) := by
      rw [c1]
      rcases sb_toInt _ c2 c3 with ⟨a, b⟩ | ⟨a, b⟩
      · rw [b]
      · omega
    have A : f_Tape_stepDigits_0 (N1 + 1) ta = (if 48 ≤ c.toInt ∧ c.toInt ≤ 57 then (if (((10 * (ta 5 0)) + c) - 48) ≤ 1000 then f_Tape_stepDigits_0 N1 (up2 (up2 ta 5 0 (((10 * (ta 5 0)) + c) - 48)) 3 0 (mo 28 0 + 1)) else f_Tape_stepDigits_0 N1 (up2 (up2 ta 5 0 1000) 3 0 (mo 28 0 + 1))) else some (up2 ta 4 0 2)) := by
      rw [f_Tape_stepDigits_0, h1, h2, if_neg (by rw [i_lt]; omega), if_neg (by rw [i_le]; omega), ix_ok (by omega) (by omega)]
      simp only [Option.bind_some, i_tn, hc]
      by_cases d : c < 48
      · rw [if_pos d]
        rw [i_lt] at d
        rw [if_neg (by omega)]
      · rw [if_neg d]
        rw [i_lt] at d
        by_cases e : 57 < c
        · rw [if_pos e]
          rw [i_lt] at e
          rw [if_neg (by omega)]
        · rw [if_neg e]
          rw [i_lt] at e
          rw [if_pos (show 48 ≤ c.toInt ∧ c.toInt ≤ 57 by omega)]
    have B : f_Mo_next_162 (N2 + 1) mo = (if 48 ≤ C.toInt ∧ C.toInt ≤ 57 then (if mo 31 0 ≤ 999 then f_Mo_next_162 N2 (up2 (up2 mo 31 0 (((10 * (mo 31 0)) + C) - 48)) 28 0 (mo 28 0 + 1)) else f_Mo_next_162 N2 (up2 (up2 mo 31 0 (mo 31 0)) 28 0 (mo 28 0 + 1))) else some mo) := by
      rw [f_Mo_next_162, here_eq h, if_pos (by omega), hC, Option.bind_some, isd, Option.bind_some, Option.bind_some]
      by_cases d : 48 ≤ C.toInt ∧ C.toInt ≤ 57
      · rw [if_pos d, if_neg (by decide), if_pos d]
      · rw [if_neg d, if_pos rfl, if_neg d]
    rw [A, B]
    by_cases d : 48 ≤ C.toInt ∧ C.toInt ≤ 57
    · rw [if_pos (eqd.mpr d), if_pos d]
      have cC : c = C := by
        rw [c1]
        rcases sb_toInt _ c2 c3 with ⟨a, b⟩ | ⟨a, b⟩
        · exact b
        · omega
      have G : ∀ v V : Int32, dR v V → ∃ ta2 mo2, f_Tape_stepDigits_0 N1 (up2 (up2 ta 5 0 v) 3 0 (mo 28 0 + 1)) = some (up2 ta2 4 0 2) ∧ f_Mo_next_162 N2 (up2 (up2 mo 31 0 V) 28 0 (mo 28 0 + 1)) = some mo2 ∧ tPos ta2 mo2 ∧ (mo 28 0).toInt ≤ (mo2 28 0).toInt ∧ ((mo 28 0).toInt < (mo 27 0).toInt → 48 ≤ C.toInt → C.toInt ≤ 57 → (mo 28 0).toInt < (mo2 28 0).toInt) ∧ dR (ta2 5 0) (mo2 31 0) ∧ (∀ q, q ≠ 3 → q ≠ 5 → ta2 q = ta q) ∧ (∀ q, q ≠ 28 → q ≠ 31 → mo2 q = mo q) := fun v V hv => by
        obtain ⟨ta2, mo2, e1, e2, e3, e4, -, e6, e7, e8⟩ := ih N1 N2 (up2 (up2 ta 5 0 v) 3 0 (mo 28 0 + 1)) (up2 (up2 mo 31 0 V) 28 0 (mo 28 0 + 1)) (h.mv _ _ (mo 28 0 + 1) up2_s up2_s (by rw [up2_k (by decide), up2_k (by decide)]) (by rw [up2_k (by decide), up2_k (by decide)]) (by rw [up2_k (by decide), up2_k (by decide)]) (by rw [up2_k (by decide), up2_k (by decide)]) (by omega) (by omega)) (by rw [up2_s, up2_k (by decide), up2_k (by decide)]; omega) (by omega) (by omega) (by rw [up2_k (by decide), up2_s, up2_k (by decide), up2_s]; exact hv)
        rw [up2_s] at e4
        exact ⟨ta2, mo2, e1, e2, e3, by omega, fun _ _ _ => by omega, e6, fun q a b => by rw [e7 q a b, up2_k a, up2_k b], fun q a b => by rw [e8 q a b, up2_k a, up2_k b]⟩
      rcases hd with ⟨v1, v2, v3⟩ | ⟨v1, v2, v3⟩
      · have m1 : (10 * mo 31 0).toInt = 10 * (mo 31 0).toInt := by rw [i_mul (by rw [i10]; omega) (by rw [i10]; omega), i10]
        have m2 : (10 * mo 31 0 + C).toInt = 10 * (mo 31 0).toInt + C.toInt := by rw [i_add (by omega) (by omega), m1]
        have m3 : (10 * mo 31 0 + C - 48).toInt = 10 * (mo 31 0).toInt + C.toInt - 48 := by rw [i_sub (by omega) (by omega), m2, i48]
        rw [v1, cC, if_pos (show mo 31 0 ≤ 999 by rw [i_le]; omega)]
        by_cases e : 10 * mo 31 0 + C - 48 ≤ 1000
        · rw [if_pos e]
          rw [i_le, m3, i1000] at e
          refine G _ _ ?_
          by_cases f : (10 * mo 31 0 + C - 48).toInt ≤ 999
          · exact Or.inl ⟨rfl, by omega, f⟩
          · exact Or.inr ⟨i_ext (by rw [i1000]; omega), by omega, by omega⟩
        · rw [if_neg e]
          rw [i_le, m3, i1000] at e
          exact G _ _ (Or.inr ⟨rfl, by omega, by omega⟩)
      · have m1 : (10 * (1000 : Int32)).toInt = 10000 := by decide
        have m2 : (10 * (1000 : Int32) + C).toInt = 10000 + C.toInt := by rw [i_add (by omega) (by omega), m1]
        have m3 : (10 * (1000 : Int32) + C - 48).toInt = 10000 + C.toInt - 48 := by rw [i_sub (by omega) (by omega), m2, i48]
        rw [v1, cC, if_neg (show ¬ 10 * (1000 : Int32) + C - 48 ≤ 1000 by rw [i_le, m3, i1000]; omega), if_neg (show ¬ mo 31 0 ≤ 999 by rw [i_le]; omega)]
        exact G _ _ (Or.inr ⟨rfl, v2, v3⟩)
    · rw [if_neg (fun e => d (eqd.mp e)), if_neg d]
      exact ⟨ta, mo, rfl, rfl, h, Int.le_refl _, fun _ a b => absurd ⟨a, b⟩ d, hd, fun _ _ _ => rfl, fun _ _ _ => rfl⟩
