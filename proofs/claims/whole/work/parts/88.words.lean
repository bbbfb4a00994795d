/-! letters packed -/
def Kp (e : Nat → Nat) : Nat → Nat
  | 0 => 0
  | j + 1 => 32 * Kp e j + e j
theorem Kp_lt (e : Nat → Nat) : ∀ j, (∀ i, i < j → e i < 32) → Kp e j < 2 ^ (5 * j)
  | 0, _ => by show 0 < 2 ^ (5 * 0); decide
  | j + 1, h => by
    have := Kp_lt e j (fun i hi => h i (by omega))
    have hj := h j (by omega)
    rw [Kp, show 5 * (j + 1) = 5 * j + 5 by omega, Nat.pow_add]
    omega
theorem Kp_cg (e f : Nat → Nat) : ∀ j, (∀ i, i < j → e i = f i) → Kp e j = Kp f j
  | 0, _ => rfl
  | j + 1, h => by rw [Kp, Kp, Kp_cg e f j (fun i hi => h i (by omega)), h j (by omega)]
theorem Kp_0 (e : Nat → Nat) (L : Nat) (h : ∀ i, L ≤ i → e i = 0) : ∀ m, Kp e (L + m) = Kp e L * 2 ^ (5 * m)
  | 0 => by simp
  | m + 1 => by
    rw [← Nat.add_assoc, Kp, Kp_0 e L h m, h (L + m) (by omega), show 5 * (m + 1) = 5 * m + 5 by omega, Nat.pow_add, Nat.add_zero, Nat.mul_comm 32, Nat.mul_assoc]
def isL (x : Int32) : Prop := 97 ≤ x.toInt ∧ x.toInt ≤ 122
def lt (mo : jZ) (P i : Nat) : Nat := ((mo 1 (P + i)).toInt - 96).toNat
theorem small_eq (x : Int32) : f_Mo_isSmall x = some (if 97 ≤ x.toInt ∧ x.toInt ≤ 122 then 1 else 0) := by
  have i97 : (97 : Int32).toInt = 97 := rfl
  have i122 : (122 : Int32).toInt = 122 := rfl
  unfold f_Mo_isSmall
  simp only [i_lt, i97, i122]
  by_cases c : x.toInt < 97
  · rw [if_pos c, if_neg (by omega)]
  · by_cases d : 122 < x.toInt
    · rw [if_neg c, if_pos d, if_neg (by omega)]
    · rw [if_neg c, if_neg d, if_pos (by omega)]
def wEnd (mo_z : jZ) : Option jZ := (f_Mo_word mo_z).bind fun q31 => (if q31 = (-1) then (if ((mo_z 28 0) - (mo_z 29 0)) ≤ 6 then (f_Mo_name (up2 (up2 mo_z 31 0 q31) 30 0 1)).bind fun q35 => some q35
    else some (up2 (up2 mo_z 31 0 q31) 30 0 5))
    else some (up2 (up2 mo_z 31 0 q31) 30 0 0))
theorem s5 : ∀ j, j < 6 → (5 * (6 - (nI j + 1))) = nI (5 * (5 - j)) := by decide
theorem wd_loop (P : Nat) : ∀ (n N1 N2 j : Nat) (ta mo : jZ), tPos ta mo → (mo 28 0).toInt + n = (mo 27 0).toInt → n < N1 → n < N2 → (mo 28 0).toInt = ((P + j : Nat) : Int) → (∀ i, i < j → isL (mo 1 (P + i))) → (j ≤ 6 → (ta 5 0).toInt = ((2 ^ (5 * (6 - j)) * Kp (lt mo P) j : Nat) : Int)) →
    ∃ (ta2 mo2 : jZ) (L : Nat), f_Tape_stepWord_2 N1 ta (nI j) = some (up2 ta2 4 0 (if 6 < L then 4 else 1)) ∧ f_Mo_next_64 N2 mo = wEnd mo2 ∧ tPos ta2 mo2 ∧ j ≤ L ∧ (mo2 28 0).toInt = ((P + L : Nat) : Int) ∧ (∀ i, i < L → isL (mo 1 (P + i))) ∧ ((mo 28 0).toInt < (mo 27 0).toInt → isL (mo 1 (P + j)) → j < L) ∧ (L ≤ 6 → (ta2 5 0).toInt = ((2 ^ (5 * (6 - L)) * Kp (lt mo P) L : Nat) : Int)) ∧ (∀ q, q ≠ 3 → q ≠ 5 → ta2 q = ta q) ∧ (∀ q, q ≠ 28 → mo2 q = mo q) := by
  have i0 : (0 : Int32).toInt = 0 := rfl
  have i1 : (1 : Int32).toInt = 1 := rfl
  have i6 : (6 : Int32).toInt = 6 := rfl
  have i96 : (96 : Int32).toInt = 96 := rfl
  have i97 : (97 : Int32).toInt = 97 := rfl
  have i122 : (122 : Int32).toInt = 122 := rfl
  intro n
  induction n with
  | zero =>
    intro N1 N2 j ta mo h hn hN1 hN2 hj hl hv
    obtain ⟨N1, rfl⟩ : ∃ k, N1 = k + 1 := ⟨N1 - 1, by omega⟩
    obtain ⟨N2, rfl⟩ : ∃ k, N2 = k + 1 := ⟨N2 - 1, by omega⟩
    obtain ⟨h1, h2, ⟨h3, h4, h5⟩, h6⟩ := id h
    have tj : (nI j).toInt = j := nI_toInt (by omega)
    refine ⟨ta, mo, j, ?_, ?_, h, Nat.le_refl _, hj, hl, fun e => by omega, hv, fun _ _ _ => rfl, fun _ _ => rfl⟩
    · rw [f_Tape_stepWord_2, h1, h2, if_neg (by rw [i_lt]; omega), if_pos (by rw [i_le]; omega)]
      by_cases c : 6 < j
      · rw [if_pos (by rw [i_lt]; omega), if_pos c]
      · rw [if_neg (by rw [i_lt]; omega), if_neg c]
    · rw [f_Mo_next_64, here_eq h, if_neg (by omega), Option.bind_some, small_eq, if_neg (by decide), Option.bind_some, if_pos rfl]
      rfl
  | succ n ih =>
    intro N1 N2 j ta mo h hn hN1 hN2 hj hl hv
    obtain ⟨N1, rfl⟩ : ∃ k, N1 = k + 1 := ⟨N1 - 1, by omega⟩
    obtain ⟨N2, rfl⟩ : ∃ k, N2 = k + 1 := ⟨N2 - 1, by omega⟩
    obtain ⟨h1, h2, ⟨h3, h4, h5⟩, h6⟩ := id h
    have tj : (nI j).toInt = j := nI_toInt (by omega)
    have hP : (mo 28 0).toInt.toNat = P + j := by omega
    obtain ⟨c1, c2, c3⟩ := h6 (P + j) (by omega)
    have t1 : (mo 28 0 + 1).toInt = (mo 28 0).toInt + 1 := by rw [i_add (by omega) (by omega), i1]
    have tj1 : (nI j + 1).toInt = (j : Int) + 1 := by rw [i_add (by omega) (by omega), i1, tj]
    generalize hC : mo 1 (P + j) = C at c1 c2 c3
    generalize hc : ta 0 (P + j) = c at c1
    have eqd : (97 ≤ c.toInt ∧ c.toInt ≤ 122) ↔ (97 ≤ C.toInt ∧ C.toInt ≤ 122) := by
      rw [c1]
      rcases sb_toInt _ c2 c3 with ⟨a, b⟩ | ⟨a, b⟩
      · rw [b]
      · omega
    have A : f_Tape_stepWord_2 (N1 + 1) ta (nI j) = (if 97 ≤ c.toInt ∧ c.toInt ≤ 122 then (if 6 < j + 1 then f_Tape_stepWord_2 N1 (up2 ta 3 0 (mo 28 0 + 1)) (nI (j + 1)) else f_Tape_stepWord_2 N1 (up2 (up2 ta 5 0 ((ta 5 0) ||| ((c - 96) <<< ((5 * (6 - (nI j + 1))) &&& 31)))) 3 0 (mo 28 0 + 1)) (nI (j + 1))) else some (up2 ta 4 0 (if 6 < j then 4 else 1))) := by
      rw [f_Tape_stepWord_2, h1, h2, if_neg (by rw [i_lt]; omega), if_neg (by rw [i_le]; omega), ix_ok (by omega) (by omega)]
      simp only [Option.bind_some, i_tn, hP, hc]
      have E : (if 6 < nI j then some (up2 ta 4 0 4) else some (up2 ta 4 0 1)) = some (up2 ta 4 0 (if 6 < j then 4 else 1)) := by
        by_cases e : 6 < j
        · rw [if_pos (by rw [i_lt]; omega), if_pos e]
        · rw [if_neg (by rw [i_lt]; omega), if_neg e]
      rw [E]
      by_cases d : c < 97
      · rw [if_pos d]
        rw [i_lt] at d
        rw [if_neg (show ¬ (97 ≤ c.toInt ∧ c.toInt ≤ 122) by omega)]
      · rw [if_neg d]
        rw [i_lt] at d
        by_cases e : 122 < c
        · rw [if_pos e]
          rw [i_lt] at e
          rw [if_neg (show ¬ (97 ≤ c.toInt ∧ c.toInt ≤ 122) by omega)]
        · rw [if_neg e]
          rw [i_lt] at e
          rw [if_pos (show 97 ≤ c.toInt ∧ c.toInt ≤ 122 by omega)]
          by_cases f : 6 < j + 1
          · rw [if_pos (show (6 : Int32) < nI j + 1 by rw [i_lt]; omega), if_pos f, nI_1]
          · rw [if_neg (show ¬ (6 : Int32) < nI j + 1 by rw [i_lt]; omega), if_neg f, nI_1]
    have B : f_Mo_next_64 (N2 + 1) mo = (if 97 ≤ C.toInt ∧ C.toInt ≤ 122 then f_Mo_next_64 N2 (up2 mo 28 0 (mo 28 0 + 1)) else wEnd mo) := by
      rw [f_Mo_next_64, here_eq h, if_pos (by omega), hP, hC, Option.bind_some, small_eq, Option.bind_some]
      by_cases d : 97 ≤ C.toInt ∧ C.toInt ≤ 122
      · rw [if_pos d, if_neg (by decide), if_pos d]
      · rw [if_neg d, if_pos rfl, if_neg d]; rfl
    rw [A, B]
    by_cases d : 97 ≤ C.toInt ∧ C.toInt ≤ 122
    · rw [if_pos (eqd.mpr d), if_pos d]
      have cC : c = C := by
        rw [c1]
        rcases sb_toInt _ c2 c3 with ⟨a, b⟩ | ⟨a, b⟩
        · exact b
        · omega
      have hl' : ∀ i, i < j + 1 → isL (mo 1 (P + i)) := fun i hi => by
        by_cases e : i = j
        · rw [e, hC]; exact d
        · exact hl i (by omega)
      have elt : ∀ m2 : jZ, m2 1 = mo 1 → lt m2 P = lt mo P := fun m2 e => by funext i; unfold lt; rw [e]
      have G : ∀ ta', (∀ q, q ≠ 3 → q ≠ 5 → ta' q = ta q) → ta' 3 0 = mo 28 0 + 1 → (j + 1 ≤ 6 → (ta' 5 0).toInt = ((2 ^ (5 * (6 - (j + 1))) * Kp (lt mo P) (j + 1) : Nat) : Int)) → ∃ (ta2 mo2 : jZ) (L : Nat), f_Tape_stepWord_2 N1 ta' (nI (j + 1)) = some (up2 ta2 4 0 (if 6 < L then 4 else 1)) ∧ f_Mo_next_64 N2 (up2 mo 28 0 (mo 28 0 + 1)) = wEnd mo2 ∧ tPos ta2 mo2 ∧ j ≤ L ∧ (mo2 28 0).toInt = ((P + L : Nat) : Int) ∧ (∀ i, i < L → isL (mo 1 (P + i))) ∧ ((mo 28 0).toInt < (mo 27 0).toInt → isL C → j < L) ∧ (L ≤ 6 → (ta2 5 0).toInt = ((2 ^ (5 * (6 - L)) * Kp (lt mo P) L : Nat) : Int)) ∧ (∀ q, q ≠ 3 → q ≠ 5 → ta2 q = ta q) ∧ (∀ q, q ≠ 28 → mo2 q = mo q) := fun ta' k1 k3 k5 => by
        obtain ⟨ta2, mo2, L, e1, e2, e3, e4, e5, e6, -, e8, e9, e10⟩ := ih N1 N2 (j + 1) ta' (up2 mo 28 0 (mo 28 0 + 1)) (h.mv _ _ (mo 28 0 + 1) k3 up2_s (k1 0 (by decide) (by decide)) (k1 2 (by decide) (by decide)) (up2_k (by decide)) (up2_k (by decide)) (by omega) (by omega)) (by rw [up2_s, up2_k (by decide)]; omega) (by omega) (by omega) (by rw [up2_s, t1]; omega) (by rw [up2_k (by decide)]; exact hl') (by rw [elt _ (up2_k (by decide))]; exact k5)
        rw [up2_k (by decide)] at e6
        rw [elt _ (up2_k (by decide))] at e8
        exact ⟨ta2, mo2, L, e1, e2, e3, by omega, e5, e6, fun _ _ => by omega, e8, fun q a b => (e9 q a b).trans (k1 q a b), fun q a => by rw [e10 q a, up2_k a]⟩
      by_cases f : 6 < j + 1
      · rw [if_pos f]
        exact G _ (fun q a _ => up2_k a) up2_s (fun e => by omega)
      · rw [if_neg f]
        refine G _ (fun q a b => by rw [up2_k a, up2_k b]) up2_s (fun _ => ?_)
        rw [up2_k (by decide), up2_s, s5 j (by omega), cC]
        have e32 : ∀ i, i < j → lt mo P i < 32 := fun i hi => by
          have := hl i hi
          unfold isL at this
          unfold lt; omega
        have hlj : lt mo P j = (C.toInt - 96).toNat := by unfold lt; rw [hC]
        have y : (C - 96).toInt = ((lt mo P j : Nat) : Int) := by rw [i_sub (by omega) (by omega), i96, hlj]; omega
        have kb := Kp_lt (lt mo P) j e32
        have p30 : (2 : Nat) ^ 30 = 1073741824 := by decide
        have pj : 2 ^ (5 * (6 - j)) = 2 ^ (5 * (5 - j)) * 32 := by
          rw [show 5 * (6 - j) = 5 * (5 - j) + 5 by omega, Nat.pow_add]
        have pp : 2 ^ (5 * j) * 2 ^ (5 * (6 - j)) = 2 ^ 30 := by rw [← Nat.pow_add]; congr 1; omega
        have sm1 : lt mo P j < 32 := by rw [hlj]; omega
        have sm2 : lt mo P j * 2 ^ (5 * (5 - j)) < 2 ^ (5 * (6 - j)) := by
          rw [pj, Nat.mul_comm]; exact Nat.mul_lt_mul_of_pos_left sm1 (Nat.two_pow_pos _)
        have tot : 2 ^ (5 * (6 - j)) * Kp (lt mo P) j + lt mo P j * 2 ^ (5 * (5 - j)) < 2147483648 := by
          have q1 : 2 ^ (5 * (6 - j)) * (Kp (lt mo P) j + 1) ≤ 2 ^ (5 * (6 - j)) * 2 ^ (5 * j) := Nat.mul_le_mul_left _ kb
          rw [Nat.mul_comm _ (2 ^ (5 * j)), pp, Nat.mul_add, Nat.mul_one] at q1
          omega
        have sh := shl_toInt (C - 96) (lt mo P j) (5 * (5 - j)) y (by omega) (by omega)
        rw [or_toInt _ _ (5 * (6 - j)) (Kp (lt mo P) j) _ (hv (by omega)) sh sm2 tot, show 6 - (j + 1) = 5 - j by omega, Kp, pj]
        congr 1
        rw [Nat.mul_add, Nat.mul_assoc, Nat.mul_comm (lt mo P j)]
    · rw [if_neg (fun e => d (eqd.mp e)), if_neg d]
      exact ⟨ta, mo, j, rfl, rfl, h, Nat.le_refl _, hj, hl, fun _ e => absurd e d, hv, fun _ _ _ => rfl, fun _ _ => rfl⟩
/-! the reference's own pack -/
theorem nm_loop (P L : Nat) (hP : P + L ≤ 600) : ∀ (n j N : Nat) (mo : jZ), j + n = 6 → n < N → (mo 28 0).toInt = ((P + L : Nat) : Int) → (mo 29 0).toInt = (P : Int) → (∀ i, i < L → isL (mo 1 (P + i))) → (mo 31 0).toInt = ((Kp (fun i => if i < L then lt mo P i else 0) j : Nat) : Int) →
    ∃ mo2, f_Mo_name_7 N mo (nI j) = some mo2 ∧ (mo2 31 0).toInt = ((Kp (fun i => if i < L then lt mo P i else 0) 6 : Nat) : Int) ∧ (∀ q, q ≠ 31 → mo2 q = mo q) := by
  have i6 : (6 : Int32).toInt = 6 := rfl
  have i1 : (1 : Int32).toInt = 1 := rfl
  have i97 : (97 : Int32).toInt = 97 := rfl
  have i0 : (0 : Int32).toInt = 0 := rfl
  intro n
  induction n with
  | zero =>
    intro j N mo hj hN h28 h29 hl hv
    obtain ⟨N, rfl⟩ : ∃ k, N = k + 1 := ⟨N - 1, by omega⟩
    have : j = 6 := by omega
    subst this
    exact ⟨mo, by rw [f_Mo_name_7, if_pos (by decide)], hv, fun _ _ => rfl⟩
  | succ n ih =>
    intro j N mo hj hN h28 h29 hl hv
    obtain ⟨N, rfl⟩ : ∃ k, N = k + 1 := ⟨N - 1, by omega⟩
    have tj : (nI j).toInt = j := nI_toInt (by omega)
    have a : (mo 29 0 + nI j).toInt = ((P + j : Nat) : Int) := by rw [i_add (by omega) (by omega), h29, tj]; omega
    have e32 : ∀ i, i < 6 → (fun i => if i < L then lt mo P i else 0) i < 32 := fun i _ => by
      dsimp only
      by_cases e : i < L
      · rw [if_pos e]
        have := hl i e
        unfold isL at this
        unfold lt; omega
      · rw [if_neg e]; omega
    have kb := Kp_lt (fun i => if i < L then lt mo P i else 0) j (fun i hi => e32 i (by omega))
    have p25 : 2 ^ (5 * j) ≤ 2 ^ 25 := Nat.pow_le_pow_right (by decide) (by omega)
    have p25' : (2 : Nat) ^ 25 = 33554432 := by decide
    have p5 : (2 : Nat) ^ 5 = 32 := by decide
    have sh := shl_toInt (mo 31 0) (Kp (fun i => if i < L then lt mo P i else 0) j) 5 hv (by omega) (by omega)
    have sh' : (mo 31 0 <<< (5 &&& 31)).toInt = ((2 ^ 5 * Kp (fun i => if i < L then lt mo P i else 0) j : Nat) : Int) := by
      rw [show (5 : Int32) = nI 5 from rfl, sh, Nat.mul_comm]
    have G : ∀ z : Int32, z.toInt = (((fun i => if i < L then lt mo P i else 0) j : Nat) : Int) → ∃ mo2, f_Mo_name_7 N (up2 mo 31 0 ((mo 31 0 <<< (5 &&& 31)) ||| z)) (nI (j + 1)) = some mo2 ∧ (mo2 31 0).toInt = ((Kp (fun i => if i < L then lt mo P i else 0) 6 : Nat) : Int) ∧ (∀ q, q ≠ 31 → mo2 q = mo q) := fun z hz => by
      have ej := e32 j (by omega)
      have o := or_toInt _ z 5 _ _ sh' hz (by omega) (by omega)
      have elt : lt (up2 mo 31 0 ((mo 31 0 <<< (5 &&& 31)) ||| z)) P = lt mo P := by funext i; unfold lt; rw [up2_k (by decide)]
      obtain ⟨mo2, e1, e2, e3⟩ := ih (j + 1) N (up2 mo 31 0 ((mo 31 0 <<< (5 &&& 31)) ||| z)) (by omega) (by omega) (by rw [up2_k (by decide)]; exact h28) (by rw [up2_k (by decide)]; exact h29) (by rw [up2_k (by decide)]; exact hl) (by rw [elt, up2_s, o, Kp, p5])
      rw [elt] at e2
      exact ⟨mo2, e1, e2, fun q hq => by rw [e3 q hq, up2_k hq]⟩
    rw [f_Mo_name_7, if_neg (by rw [i_le]; omega)]
    by_cases c : j < L
    · rw [if_neg (by rw [i_le]; omega), ix_ok (by omega) (by omega), Option.bind_some, i_tn, a, Int.toNat_natCast, nI_1]
      have hlj := hl j c
      unfold isL at hlj
      refine G _ ?_
      dsimp only
      rw [if_pos c]
      have s1 : (mo 1 (P + j) - 97).toInt = (mo 1 (P + j)).toInt - 97 := by rw [i_sub (by omega) (by omega), i97]
      rw [i_add (by omega) (by omega), s1, i1]
      unfold lt; omega
    · rw [if_pos (by rw [i_le]; omega), nI_1]
      refine G 0 ?_
      dsimp only
      rw [if_neg c]; rfl
/-! the words of the language -/
def wo (n : Nat) : Nat := [0, 5, 11, 16, 22, 26, 30, 36, 39, 43, 47, 51, 55, 61, 65, 70, 76, 83].getD n 83
def wl (n : Nat) : Nat := [4, 5, 4, 5, 3, 3, 5, 2, 3, 3, 3, 3, 5, 3, 4, 5, 6].getD n 0
def wv (n : Nat) : Int32 := [378998784, 549489824, 672502784, 639309408, 419037184, 83623936, 788082272, 522190848, 48365568, 486146048, 518160384, 695697408, 680072352, 659980288, 452579328, 407948928, 117095065].getD n 0
def wd (n i : Nat) : Nat := if i < wl n then ((strC 2 (wo n + i)).toInt - 96).toNat else 0
theorem wtab : ∀ n, n < 17 → wo n + wl n + 1 = wo (n + 1) ∧ wl n ≤ 6 ∧ wo (n + 1) ≤ 83 ∧ 1 ≤ wl n ∧ strC 2 (wo n + wl n) = 32 ∧ (∀ i, i < wl n → ¬ strC 2 (wo n + i) = 32 ∧ 97 ≤ (strC 2 (wo n + i)).toInt ∧ (strC 2 (wo n + i)).toInt ≤ 122) ∧ (wv n).toInt = ((Kp (wd n) 6 : Nat) : Int) := by decide +kernel
def mW (mo : jZ) (P L n : Nat) : Prop := L = wl n ∧ ∀ i, i < wl n → mo 1 (P + i) = strC 2 (wo n + i)
theorem w_97 (mo : jZ) (k4 : Int32 → Int32 → Option Int32) (v1 : Int32) (n : Nat) (hn : n < 17) : ∀ (m i N : Nat), i + m = wl n → m < N → f_Mo_word_97 mo k4 N v1 (nI (wo n + i)) = k4 (v1 + 1) (nI (wo (n + 1))) := by
  obtain ⟨t1, t2, t3, t4, t5, t6, -⟩ := wtab n hn
  intro m
  induction m with
  | zero =>
    intro i N hi hN
    obtain ⟨N, rfl⟩ : ∃ k, N = k + 1 := ⟨N - 1, by omega⟩
    have ti : (nI (wo n + i)).toInt = ((wo n + i : Nat) : Int) := nI_toInt (by omega)
    rw [f_Mo_word_97, ix_ok (by omega) (by omega), Option.bind_some, i_tn, ti, Int.toNat_natCast, show i = wl n by omega, if_pos t5, nI_1, ← t1]
  | succ m ih =>
    intro i N hi hN
    obtain ⟨N, rfl⟩ : ∃ k, N = k + 1 := ⟨N - 1, by omega⟩
    have ti : (nI (wo n + i)).toInt = ((wo n + i : Nat) : Int) := nI_toInt (by omega)
    rw [f_Mo_word_97, ix_ok (by omega) (by omega), Option.bind_some, i_tn, ti, Int.toNat_natCast, if_neg (t6 i (by omega)).1, nI_1]
    exact ih (i + 1) N (by omega) (by omega)
theorem w_15 (mo : jZ) (k4 : Int32 → Int32 → Option Int32) (P L : Nat) (hPL : P + L ≤ 600) (h28 : (mo 28 0).toInt = ((P + L : Nat) : Int)) (h29 : (mo 29 0).toInt = (P : Int)) (n : Nat) (hn : n < 17) (v1 : Int32) : ∀ (m i N : Nat), i + m = wl n → m < N → i ≤ L → (∀ j, j < i → mo 1 (P + j) = strC 2 (wo n + j)) → (mW mo P L n ∧ f_Mo_word_15 mo k4 N v1 (nI (wo n)) (nI i) = some v1) ∨ (¬ mW mo P L n ∧ f_Mo_word_15 mo k4 N v1 (nI (wo n)) (nI i) = k4 (v1 + 1) (nI (wo (n + 1)))) := by
  obtain ⟨t1, t2, t3, t4, t5, t6, -⟩ := wtab n hn
  have two : (nI (wo n)).toInt = ((wo n : Nat) : Int) := nI_toInt (by omega)
  have skip : f_Mo_word_97 mo k4 FU v1 (nI (wo n)) = k4 (v1 + 1) (nI (wo (n + 1))) := w_97 mo k4 v1 n hn (wl n) 0 FU (by omega) (by unfold FU; omega)
  have E69 : ∀ i, i ≤ wl n → f_Mo_word_69 mo k4 v1 (nI (wo n)) (nI i) = if i = wl n ∧ i = L then some v1 else k4 (v1 + 1) (nI (wo (n + 1))) := fun i hi => by
    have ti : (nI i).toInt = (i : Int) := nI_toInt (by omega)
    have s : (nI (wo n) + nI i).toInt = ((wo n + i : Nat) : Int) := by rw [i_add (by omega) (by omega)]; omega
    have s2 : (mo 29 0 + nI i).toInt = ((P + i : Nat) : Int) := by rw [i_add (by omega) (by omega)]; omega
    unfold f_Mo_word_69
    rw [ix_ok (by omega) (by omega), Option.bind_some, i_tn, s, Int.toNat_natCast, skip]
    by_cases c : i = wl n
    · rw [c, if_pos t5]
      rw [c] at s2
      by_cases d : wl n = L
      · rw [if_pos (by rw [i_eq]; omega), if_pos ⟨rfl, d⟩]
      · rw [if_neg (by rw [i_eq]; omega), if_neg (fun e => d e.2)]
    · rw [if_neg (t6 i (by omega)).1, if_neg (fun e => c e.1)]
  intro m
  induction m with
  | zero =>
    intro i N hi hN hiL heq
    obtain ⟨N, rfl⟩ : ∃ k, N = k + 1 := ⟨N - 1, by omega⟩
    have hi' : i = wl n := by omega
    have ti : (nI i).toInt = (i : Int) := nI_toInt (by omega)
    have s : (nI (wo n) + nI i).toInt = ((wo n + i : Nat) : Int) := by rw [i_add (by omega) (by omega)]; omega
    rw [f_Mo_word_15, ix_ok (by omega) (by omega), Option.bind_some, i_tn, s, Int.toNat_natCast, if_pos (by rw [hi']; exact t5), E69 i (by omega)]
    by_cases d : i = L
    · rw [if_pos ⟨hi', d⟩]
      exact Or.inl ⟨⟨by omega, fun j hj => heq j (by omega)⟩, rfl⟩
    · rw [if_neg (fun e => d e.2)]
      exact Or.inr ⟨fun e => d (by rw [hi', e.1]), rfl⟩
  | succ m ih =>
    intro i N hi hN hiL heq
    obtain ⟨N, rfl⟩ : ∃ k, N = k + 1 := ⟨N - 1, by omega⟩
    have ti : (nI i).toInt = (i : Int) := nI_toInt (by omega)
    have s : (nI (wo n) + nI i).toInt = ((wo n + i : Nat) : Int) := by rw [i_add (by omega) (by omega)]; omega
    have s2 : (mo 29 0 + nI i).toInt = ((P + i : Nat) : Int) := by rw [i_add (by omega) (by omega)]; omega
    rw [f_Mo_word_15, ix_ok (show 0 ≤ (nI (wo n) + nI i).toInt by omega) (by omega), Option.bind_some, i_tn, s, Int.toNat_natCast, if_neg (t6 i (by omega)).1]
    by_cases c : i < L
    · rw [if_neg (by rw [i_le]; omega), ix_ok (by omega) (by omega), Option.bind_some, Option.bind_some, i_tn, s2, Int.toNat_natCast]
      by_cases d : mo 1 (P + i) = strC 2 (wo n + i)
      · rw [if_pos d, nI_1]
        exact ih (i + 1) N (by omega) (by omega) (by omega) (fun j hj => by
          by_cases e : j = i
          · rw [e]; exact d
          · exact heq j (by omega))
      · rw [if_neg d, E69 i (by omega), if_neg (fun e => by omega)]
        exact Or.inr ⟨fun e => d (e.2 i (by omega)), rfl⟩
    · rw [if_pos (by rw [i_le]; omega), E69 i (by omega), if_neg (fun e => by omega)]
      exact Or.inr ⟨fun e => by have := e.1; omega, rfl⟩
theorem w_4 (mo : jZ) (P L : Nat) (hPL : P + L ≤ 600) (h28 : (mo 28 0).toInt = ((P + L : Nat) : Int)) (h29 : (mo 29 0).toInt = (P : Int)) : ∀ (m n N : Nat), n + m = 17 → m < N → (∃ k, k < 17 ∧ mW mo P L k ∧ f_Mo_word_4 mo N (nI n) (nI (wo n)) = some (nI k)) ∨ ((∀ k, n ≤ k → k < 17 → ¬ mW mo P L k) ∧ f_Mo_word_4 mo N (nI n) (nI (wo n)) = some (-1)) := by
  have i83 : (83 : Int32).toInt = 83 := rfl
  intro m
  induction m with
  | zero =>
    intro n N hn hN
    obtain ⟨N, rfl⟩ : ∃ k, N = k + 1 := ⟨N - 1, by omega⟩
    have : n = 17 := by omega
    subst this
    right
    exact ⟨fun k h1 h2 => by omega, by rw [f_Mo_word_4, if_pos (by decide)]⟩
  | succ m ih =>
    intro n N hn hN
    obtain ⟨N, rfl⟩ : ∃ k, N = k + 1 := ⟨N - 1, by omega⟩
    obtain ⟨t1, t2, t3, t4, t5, t6, -⟩ := wtab n (by omega)
    have two : (nI (wo n)).toInt = ((wo n : Nat) : Int) := nI_toInt (by omega)
    rw [f_Mo_word_4, if_neg (by rw [i_le]; omega)]
    rcases w_15 mo (fun v1 v2 => f_Mo_word_4 mo N v1 v2) P L hPL h28 h29 n (by omega) (nI n) (wl n) 0 FU (by omega) (by unfold FU; omega) (by omega) (fun j hj => by omega) with ⟨a, b⟩ | ⟨a, b⟩
    · exact Or.inl ⟨n, by omega, a, b⟩
    · rw [nI_1] at b
      rw [show f_Mo_word_15 mo (fun v1 v2 => f_Mo_word_4 mo N v1 v2) FU (nI n) (nI (wo n)) 0 = _ from b]
      rcases ih (n + 1) N (by omega) (by omega) with c | ⟨c, d⟩
      · exact Or.inl c
      · refine Or.inr ⟨fun k h1 h2 => ?_, d⟩
        by_cases e : k = n
        · rw [e]; exact a
        · exact c k (by omega) h2
