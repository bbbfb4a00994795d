def nx (s : Int32) : Int32 := ((s * 1103515245) + 12345) &&& 2147483647
theorem nx_rng (s : Int32) : 0 ≤ (nx s).toInt ∧ (nx s).toInt ≤ 2147483647 := by
  unfold nx
  generalize (s * 1103515245) + 12345 = y
  have e : (y &&& 2147483647).toBitVec.toNat ≤ 2147483647 := by
    rw [Int32.toBitVec_and, BitVec.toNat_and]
    exact Nat.and_le_right
  have e2 : (y &&& 2147483647).toInt = (y &&& 2147483647).toBitVec.toInt := rfl
  rw [e2, BitVec.toInt_eq_toNat_cond]
  rw [if_pos (by omega)]
  omega
theorem shr_toInt (x : Int32) (n : Nat) (h : n < 32) : (x >>> (nI n &&& 31)).toInt = x.toInt / 2 ^ n := by
  have e : ∀ n, n < 32 → ((nI n &&& 31).toBitVec.smod 32).toNat = n := by decide
  have e2 : (x >>> (nI n &&& 31)).toInt = (x >>> (nI n &&& 31)).toBitVec.toInt := rfl
  rw [e2, Int32.toBitVec_shiftRight]
  show (x.toBitVec.sshiftRight ((nI n &&& 31).toBitVec.smod 32).toNat).toInt = _
  rw [BitVec.toInt_sshiftRight, e n h, Int.shiftRight_eq_div_pow]
  rfl
theorem nx_shr (s : Int32) : nx s >>> (16 &&& 31) = nx s / 65536 := by
  have r := nx_rng s
  have h := shr_toInt (nx s) 16 (by decide)
  have i65 : (65536 : Int32).toInt = 65536 := rfl
  apply i_ext
  rw [show nx s >>> (16 &&& 31) = nx s >>> (nI 16 &&& 31) from rfl, h, i_div (by rw [i65]; decide) r.1, i65, show (2 : Int) ^ 16 = 65536 by decide]
theorem nv_rng (s : Int32) : 0 ≤ (nx s / 65536).toInt := by
  have r := nx_rng s
  have i65 : (65536 : Int32).toInt = 65536 := rfl
  rw [i_div (by rw [i65]; decide) r.1, i65]
  exact Int.ediv_nonneg r.1 (by decide)
theorem mod_i {x y : Int32} (hx : 0 ≤ x.toInt) (hy : 0 < y.toInt) : (x - x / y * y).toInt = x.toInt % y.toInt := by
  have d := i_div hy hx
  have h1 := i_hi x
  have e := Int.ediv_mul_add_emod x.toInt y.toInt
  have e3 := Int.emod_nonneg x.toInt (show y.toInt ≠ 0 by omega)
  have q0 : 0 ≤ x.toInt / y.toInt := Int.ediv_nonneg hx (by omega)
  have q1 : 0 ≤ x.toInt / y.toInt * y.toInt := Int.mul_nonneg q0 (by omega)
  have m : (x / y * y).toInt = x.toInt / y.toInt * y.toInt := by rw [i_mul (by rw [d]; omega) (by rw [d]; omega), d]
  rw [i_sub (by omega) (by omega), m]; omega
theorem kb_23 {ki mo m2 : jZ} (hk : iKinds ki mo) (h6 : m2 6 = mo 6) (x1 s1 s2 s3 : Int32) (k88 : jZ → jY → Int32 → Int32 → Int32 → Int32 → Option (jZ × jY × Int32)) (moy : jY) (v4 v5 v6 v7 rest : Int32) (hr0 : 0 ≤ rest.toInt) (hr1 : rest.toInt < sm (mo 6) 0 (mo 3 0).toInt.toNat) : ∀ (n k N1 N2 : Nat) (tg lf : Int32), (k : Int) + n = (mo 3 0).toInt → n < N1 → n < N2 → tg.toInt = sm (mo 6) 0 k → 0 ≤ tg.toInt → tg.toInt ≤ 99 * k → lf.toInt = rest.toInt - tg.toInt → tg.toInt ≤ rest.toInt →
    ∃ j : Nat, (j : Int) < (mo 3 0).toInt ∧ f_Luck_kindBy_23 ki x1 N1 rest tg (nI k) = some (nI j) ∧ f_Mo_draws_105 s1 s2 s3 k88 N2 m2 moy v4 v5 v6 v7 lf (nI k) = f_Mo_draws_141 s1 s2 s3 k88 FU m2 moy v4 v5 v6 v7 (nI j) 0 0 := by
  have K5 := hk.2.2.1
  have i5 : (5 : Int32).toInt = 5 := rfl
  intro n
  induction n with
  | zero =>
    intro k N1 N2 tg lf hi hN1 hN2 ht t0 t1 hl hle
    have hkK : k = (mo 3 0).toInt.toNat := by omega
    rw [← hkK] at hr1
    omega
  | succ n ih =>
    intro k N1 N2 tg lf hi hN1 hN2 ht t0 t1 hl hle
    obtain ⟨N1, rfl⟩ : ∃ k, N1 = k + 1 := ⟨N1 - 1, by omega⟩
    obtain ⟨N2, rfl⟩ : ∃ k, N2 = k + 1 := ⟨N2 - 1, by omega⟩
    have tk : (nI k).toInt = k := nI_toInt (by omega)
    obtain ⟨-, w3, W1, W99, -⟩ := hk.2.2.2.2 k (by omega)
    have a1 : (tg + mo 6 k).toInt = tg.toInt + (mo 6 k).toInt := i_add (by omega) (by omega)
    have a2 : (lf - mo 6 k).toInt = lf.toInt - (mo 6 k).toInt := i_sub (by have := i_hi rest; omega) (by have := i_hi rest; omega)
    have A : f_Luck_kindBy_23 ki x1 (N1 + 1) rest tg (nI k) = if tg + mo 6 k ≤ rest then f_Luck_kindBy_23 ki x1 N1 rest (tg + mo 6 k) (nI (k + 1)) else some (nI k) := by
      rw [f_Luck_kindBy_23, hk.1, if_neg (by rw [i_le]; omega), if_neg (by rw [i_le]; omega), ix_ok (by omega) (by omega), Option.bind_some, i_tn, tk, Int.toNat_natCast, w3, nI_1]
    have B : f_Mo_draws_105 s1 s2 s3 k88 (N2 + 1) m2 moy v4 v5 v6 v7 lf (nI k) = if lf < mo 6 k then f_Mo_draws_141 s1 s2 s3 k88 FU m2 moy v4 v5 v6 v7 (nI k) 0 0 else f_Mo_draws_105 s1 s2 s3 k88 N2 m2 moy v4 v5 v6 v7 (lf - mo 6 k) (nI (k + 1)) := by
      rw [f_Mo_draws_105, ix_ok (by omega) (by omega), Option.bind_some, Option.bind_some, i_tn, tk, Int.toNat_natCast, h6, nI_1]
    rw [A, B]
    by_cases c : tg.toInt + (mo 6 k).toInt ≤ rest.toInt
    · rw [if_pos (by rw [i_le]; omega), if_neg (by rw [i_lt]; omega)]
      exact ih (k + 1) N1 N2 _ _ (by omega) (by omega) (by omega) (by rw [a1, sm, Nat.zero_add]; omega) (by omega) (by omega) (by omega) (by omega)
    · rw [if_neg (by rw [i_le]; omega), if_pos (by rw [i_lt]; omega)]
      exact ⟨k, by omega, rfl, rfl⟩
def sg (f : Nat → Int32) : Nat → Int
  | 0 => 0
  | n + 1 => sg f n + (if n < 3 then (f n).toInt else -(f n).toInt)
theorem face_p {ki mo : jZ} (hk : iKinds ki mo) (j : Nat) (hj : (j : Int) < (mo 3 0).toInt) (v : Int32) (d : Nat) (hd : d < 10) (hv : v.toInt = d) : f_Kinds_faceAt ki (nI j) v = some (mo 7 (10 * j + d)) := by
  have K5 := hk.2.2.1
  have i0 : (0 : Int32).toInt = 0 := rfl
  have i5 : (5 : Int32).toInt = 5 := rfl
  have i10 : (10 : Int32).toInt = 10 := rfl
  have tj : (nI j).toInt = j := nI_toInt (by omega)
  obtain ⟨-, -, -, -, F, -⟩ := hk.2.2.2.2 j hj
  unfold f_Kinds_faceAt
  rw [if_neg (by rw [i_lt]; omega), if_neg (by rw [i_le]; omega), if_neg (by rw [i_lt]; omega), if_neg (by rw [i_le]; omega)]
  unfold f_Kinds_faceAt_24
  have m : (nI j * 10).toInt = (j : Int) * 10 := by rw [i_mul (by rw [tj, i10]; omega) (by rw [tj, i10]; omega), tj, i10]
  have a : (nI j * 10 + v).toInt = ((10 * j + d : Nat) : Int) := by rw [i_add (by omega) (by omega), m, hv]; omega
  rw [if_neg (by decide), ix_ok (by omega) (by omega), Option.bind_some, i_tn, a, Int.toNat_natCast, (F d hd).1]
theorem do_14 {ki ru mo mB : jZ} (hk : iKinds ki mo) (hR : iRule ru mo) (r3 : mRelA mo mB) (s1 s2 s3 : Int32) (k88 : jZ → jY → Int32 → Int32 → Int32 → Int32 → Option (jZ × jY × Int32)) (moy : jY) (ruy : jY) (v4 v5 v6 v7 : Int32) (j : Nat) (hj : (j : Int) < (mo 3 0).toInt) : ∀ (n i N1 N2 : Nat) (lu m2 : jZ) (v10 : Int32), i + n = 6 → n < N1 → n < N2 → (∀ q, q ≠ 48 → q ≠ 49 → q ≠ 57 → m2 q = mB q) → lu 4 0 = m2 57 0 → (∀ q, q < i → q < 3 → m2 49 q = lu 5 q) → (∀ q, q < i → 0 ≤ (lu 5 q).toInt ∧ (lu 5 q).toInt ≤ 9) → v10.toInt = sg (lu 5) i → lu 6 0 = v5 → lu 7 0 = v6 →
    ∃ (lu2 ru2 : jZ) (ruy2 : jY) (m3 : jZ) (my3 : jY) (w5 w6 : Int32), f_Luck_dealOnce_14 ki N1 lu ru ruy (nI j) (nI i) = some (lu2, ru2, ruy2) ∧ f_Mo_draws_141 s1 s2 s3 k88 N2 m2 moy v4 v5 v6 v7 (nI j) v10 (nI i) = k88 m3 my3 v4 w5 w6 (v7 + 1) ∧ (∀ q, q ≠ 48 → q ≠ 49 → q ≠ 57 → m3 q = mB q) ∧ lu2 4 0 = m3 57 0 ∧ lu2 6 0 = w5 ∧ lu2 7 0 = w6 ∧ lu2 0 = lu 0 ∧ ru2 0 = ru 0 ∧ ru2 1 = ru 1 := by
  have K5 := hk.2.2.1
  have tj : (nI j).toInt = j := nI_toInt (by omega)
  have i6 : (6 : Int32).toInt = 6 := rfl
  have i3 : (3 : Int32).toInt = 3 := rfl
  have i10 : (10 : Int32).toInt = 10 := rfl
  obtain ⟨-, -, -, -, F, -⟩ := hk.2.2.2.2 j hj
  intro n
  induction n with
  | zero =>
    intro i N1 N2 lu m2 v10 hi hN1 hN2 hB h4 h49 hr h10 h6 h7
    obtain ⟨N1, rfl⟩ : ∃ k, N1 = k + 1 := ⟨N1 - 1, by omega⟩
    obtain ⟨N2, rfl⟩ : ∃ k, N2 = k + 1 := ⟨N2 - 1, by omega⟩
    have : i = 6 := by omega
    subst this
    have y0 : ix 0 6 = some 0 := rfl
    have y1 : ix 1 6 = some 1 := rfl
    have y2 : ix 2 6 = some 2 := rfl
    have y3 : ix 3 6 = some 3 := rfl
    have y4 : ix 4 6 = some 4 := rfl
    have y5 : ix 5 6 = some 5 := rfl
    have c0 : (0 : Int32).toNatClampNeg = 0 := rfl
    have c1 : (1 : Int32).toNatClampNeg = 1 := rfl
    have c2 : (2 : Int32).toNatClampNeg = 2 := rfl
    have c3 : (3 : Int32).toNatClampNeg = 3 := rfl
    have c4 : (4 : Int32).toNatClampNeg = 4 := rfl
    have c5 : (5 : Int32).toNatClampNeg = 5 := rfl
    obtain ⟨ru2, ruy2, m3, my3, e1, e2, e3, e4, e5, e6⟩ := takes_det (m2 := m2) hR (by rw [hB 15 (by decide) (by decide) (by decide)]; exact r3 15 (by omega)) (by rw [hB 16 (by decide) (by decide) (by decide)]; exact r3 16 (by omega)) (by rw [hB 17 (by decide) (by decide) (by decide)]; exact r3 17 (by omega)) ruy moy (lu 5 0) (lu 5 1) (lu 5 2) 0 (h49 0 (by decide) (by decide)) (h49 1 (by decide) (by decide)) (h49 2 (by decide) (by decide))
    have k3 : ∀ q, q ≠ 48 → q ≠ 49 → q ≠ 57 → m3 q = mB q := fun q a b c => (e6 q a).trans (hB q a b c)
    have m57 : m3 57 = m2 57 := e6 57 (by decide)
    rw [f_Luck_dealOnce_14, f_Mo_draws_141, if_pos (by decide), if_pos (by decide), y0, y1, y2, y3, y4, y5, c0, c1, c2, c3, c4, c5, e2]
    simp only [Option.bind_some]
    rw [e1, Option.bind_some]
    dsimp only
    by_cases d : TK mo (lu 5 0) (lu 5 1) (lu 5 2) 0 = 0
    · rw [if_pos d, if_pos d]
      exact ⟨_, _, _, m3, my3, v5, v6, rfl, rfl, k3, by rw [m57]; exact h4, h6, h7, rfl, e4, e5⟩
    · rw [if_neg d, if_neg d]
      have q0 := hr 0 (by decide)
      have q1 := hr 1 (by decide)
      have q2 := hr 2 (by decide)
      have q3 := hr 3 (by decide)
      have q4 := hr 4 (by decide)
      have q5 := hr 5 (by decide)
      have t1 : (lu 5 0 + lu 5 1).toInt = (lu 5 0).toInt + (lu 5 1).toInt := i_add (by omega) (by omega)
      have t2 : (lu 5 0 + lu 5 1 + lu 5 2).toInt = (lu 5 0).toInt + (lu 5 1).toInt + (lu 5 2).toInt := by rw [i_add (by omega) (by omega), t1]
      have t3 : (lu 5 0 + lu 5 1 + lu 5 2 - lu 5 3).toInt = (lu 5 0).toInt + (lu 5 1).toInt + (lu 5 2).toInt - (lu 5 3).toInt := by rw [i_sub (by omega) (by omega), t2]
      have t4 : (lu 5 0 + lu 5 1 + lu 5 2 - lu 5 3 - lu 5 4).toInt = (lu 5 0).toInt + (lu 5 1).toInt + (lu 5 2).toInt - (lu 5 3).toInt - (lu 5 4).toInt := by rw [i_sub (by omega) (by omega), t3]
      have t5 : (lu 5 0 + lu 5 1 + lu 5 2 - lu 5 3 - lu 5 4 - lu 5 5).toInt = (lu 5 0).toInt + (lu 5 1).toInt + (lu 5 2).toInt - (lu 5 3).toInt - (lu 5 4).toInt - (lu 5 5).toInt := by rw [i_sub (by omega) (by omega), t4]
      have hE : lu 5 0 + lu 5 1 + lu 5 2 - lu 5 3 - lu 5 4 - lu 5 5 = v10 := by
        apply i_ext
        rw [t5, h10]
        simp only [sg]
        simp
        omega
      rw [hE]
      refine ⟨_, _, _, m3, my3, v5 + 1, v6 + v10, rfl, rfl, k3, ?_, ?_, ?_, ?_, e4, e5⟩
      · rw [up2_k (by decide), up2_k (by decide), m57]; exact h4
      · rw [up2_k (by decide), up2_s, h6]
      · rw [up2_s, h7]
      · rw [up2_k (by decide), up2_k (by decide)]
  | succ n ih =>
    intro i N1 N2 lu m2 v10 hi hN1 hN2 hB h4 h49 hr h10 h6 h7
    obtain ⟨N1, rfl⟩ : ∃ k, N1 = k + 1 := ⟨N1 - 1, by omega⟩
    obtain ⟨N2, rfl⟩ : ∃ k, N2 = k + 1 := ⟨N2 - 1, by omega⟩
    have ti : (nI i).toInt = i := nI_toInt (by omega)
    have dv := nv_rng (m2 57 0)
    generalize hV : nx (m2 57 0) / 65536 = V at dv
    have md : (V - V / 10 * 10).toInt = V.toInt % 10 := by rw [mod_i dv (by rw [i10]; decide), i10]
    generalize hD : (V.toInt % 10).toNat = d
    have hd : d < 10 := by omega
    have md' : (V - V / 10 * 10).toInt = (d : Int) := by omega
    have hface := face_p hk j hj _ d hd md'
    have q10 : (10 * nI j + (V - V / 10 * 10)).toInt = ((10 * j + d : Nat) : Int) := by
      have m : (10 * nI j).toInt = 10 * (j : Int) := by rw [i_mul (by rw [tj, i10]; omega) (by rw [tj, i10]; omega), tj, i10]
      rw [i_add (by omega) (by omega), m, md']; omega
    have A : f_Luck_dealOnce_14 ki (N1 + 1) lu ru ruy (nI j) (nI i) = f_Luck_dealOnce_14 ki N1 (up2 (up2 lu 4 0 (nx (m2 57 0))) 5 i (mo 7 (10 * j + d))) ru ruy (nI j) (nI (i + 1)) := by
      rw [f_Luck_dealOnce_14, if_neg (by rw [i_le]; omega)]
      unfold f_Luck_next
      rw [h4, Option.bind_some]
      dsimp only
      rw [show ((m2 57 0 * 1103515245) + 12345) &&& 2147483647 = nx (m2 57 0) from rfl, hV, hface, Option.bind_some, ix_ok (by omega) (by omega), Option.bind_some, i_tn, ti, Int.toNat_natCast, nI_1]
    have m7 : m2 7 = mo 7 := (hB 7 (by decide) (by decide) (by decide)).trans (r3 7 (by omega))
    have hdr : f_Mo_draw m2 10 = some (up2 m2 57 0 (nx (m2 57 0)), V - V / 10 * 10) := by
      unfold f_Mo_draw
      rw [nz_ok (by rw [i10]; omega), Option.bind_some, show ((m2 57 0 * 1103515245) + 12345) &&& 2147483647 = nx (m2 57 0) from rfl, nx_shr, hV]
    have Ff := (F d hd).2
    generalize hf : mo 7 (10 * j + d) = f at A Ff
    have B : f_Mo_draws_141 s1 s2 s3 k88 (N2 + 1) m2 moy v4 v5 v6 v7 (nI j) v10 (nI i) = (if i < 3 then f_Mo_draws_141 s1 s2 s3 k88 N2 (up2 (up2 m2 57 0 (nx (m2 57 0))) 49 i f) moy v4 v5 v6 v7 (nI j) (v10 + f) (nI (i + 1)) else f_Mo_draws_141 s1 s2 s3 k88 N2 (up2 m2 57 0 (nx (m2 57 0))) moy v4 v5 v6 v7 (nI j) (v10 + (-f)) (nI (i + 1))) := by
      rw [f_Mo_draws_141, if_neg (by rw [i_le]; omega), hdr, Option.bind_some]
      dsimp only
      rw [ix_ok (by omega) (by omega), Option.bind_some, i_tn, q10, Int.toNat_natCast, show up2 m2 57 0 (nx (m2 57 0)) 7 = mo 7 by rw [up2_k (by decide)]; exact m7, hf]
      unfold f_Mo_draws_182
      by_cases c : i < 3
      · rw [if_pos c, if_neg (by rw [i_le]; omega), ix_ok (by omega) (by omega), Option.bind_some, if_neg (by rw [i_le]; omega), i_tn, ti, Int.toNat_natCast, nI_1]
      · rw [if_neg c, if_pos (by rw [i_le]; omega), if_pos (by rw [i_le]; omega), nI_1]
    rw [A, B]
    generalize hL : up2 (up2 lu 4 0 (nx (m2 57 0))) 5 i f = L
    have L4 : L 4 0 = nx (m2 57 0) := by rw [← hL, up2_k (by decide), up2_s]
    have L5 : ∀ q, L 5 q = if q = i then f else lu 5 q := fun q => by
      rw [← hL]
      by_cases c : q = i
      · rw [if_pos c, c, up2_s]
      · rw [if_neg c, up2_j c, up2_k (by decide)]
    have Lk : ∀ q, q ≠ 4 → q ≠ 5 → L q = lu q := fun q a b => by rw [← hL, up2_k b, up2_k a]
    have sgc : ∀ n, n ≤ i → sg (L 5) n = sg (lu 5) n := by
      intro n
      induction n with
      | zero => intro _; rfl
      | succ n ihn => intro hn; rw [sg, sg, ihn (by omega), L5 n, if_neg (show ¬ n = i by omega)]
    have sgb : ∀ n, n ≤ i → -9 * (n : Int) ≤ sg (lu 5) n ∧ sg (lu 5) n ≤ 9 * n := by
      intro n
      induction n with
      | zero => intro _; simp [sg]
      | succ n ihn =>
        intro hn
        have := ihn (by omega)
        have := hr n (by omega)
        rw [sg]
        split <;> omega
    have sb := sgb i (Nat.le_refl i)
    have hr' : ∀ q, q < i + 1 → 0 ≤ (L 5 q).toInt ∧ (L 5 q).toInt ≤ 9 := fun q hq => by
      rw [L5]
      by_cases c : q = i
      · rw [if_pos c]; exact Ff
      · rw [if_neg c]; exact hr q (by omega)
    have fin : ∀ (M : jZ) (v : Int32), (∀ q, q ≠ 48 → q ≠ 49 → q ≠ 57 → M q = mB q) → M 57 0 = nx (m2 57 0) → (∀ q, q < i + 1 → q < 3 → M 49 q = L 5 q) → v.toInt = sg (L 5) (i + 1) → ∃ (lu2 ru2 : jZ) (ruy2 : jY) (m3 : jZ) (my3 : jY) (w5 w6 : Int32), f_Luck_dealOnce_14 ki N1 L ru ruy (nI j) (nI (i + 1)) = some (lu2, ru2, ruy2) ∧ f_Mo_draws_141 s1 s2 s3 k88 N2 M moy v4 v5 v6 v7 (nI j) v (nI (i + 1)) = k88 m3 my3 v4 w5 w6 (v7 + 1) ∧ (∀ q, q ≠ 48 → q ≠ 49 → q ≠ 57 → m3 q = mB q) ∧ lu2 4 0 = m3 57 0 ∧ lu2 6 0 = w5 ∧ lu2 7 0 = w6 ∧ lu2 0 = lu 0 ∧ ru2 0 = ru 0 ∧ ru2 1 = ru 1 := fun M v hM h57 h49' hv => by
      obtain ⟨lu2, ru2, ruy2, m3, my3, w5, w6, z1, z2, z3, z4, z5, z6, z7, z8, z9⟩ := ih (i + 1) N1 N2 L M v (by omega) (by omega) (by omega) hM (by rw [L4, h57]) h49' hr' hv (by rw [Lk 6 (by decide) (by decide)]; exact h6) (by rw [Lk 7 (by decide) (by decide)]; exact h7)
      exact ⟨lu2, ru2, ruy2, m3, my3, w5, w6, z1, z2, z3, z4, z5, z6, by rw [z7, Lk 0 (by decide) (by decide)], z8, z9⟩
    have S1 : sg (L 5) (i + 1) = sg (lu 5) i + (if i < 3 then f.toInt else -f.toInt) := by
      rw [sg, sgc i (Nat.le_refl i), L5, if_pos rfl]
    by_cases c : i < 3
    · rw [if_pos c] at S1 ⊢
      refine fin _ _ (fun q a b c => by rw [up2_k b, up2_k c]; exact hB q a b c) (by rw [up2_k (by decide), up2_s]) (fun q hq h3 => ?_) (by rw [S1, i_add (by omega) (by omega), h10])
      rw [L5]
      by_cases e : q = i
      · rw [if_pos e, e, up2_s]
      · rw [if_neg e, up2_j e, up2_k (by decide)]; exact h49 q (by omega) h3
    · rw [if_neg c] at S1 ⊢
      have ng : (-f).toInt = -f.toInt := by
        have i0 : (0 : Int32).toInt = 0 := rfl
        have e : -f = 0 - f := by simp
        rw [e, i_sub (by omega) (by omega), i0]; omega
      refine fin _ _ (fun q a b c => by rw [up2_k c]; exact hB q a b c) up2_s (fun q hq h3 => ?_) (by rw [S1, i_add (by omega) (by omega), h10, ng])
      rw [L5, if_neg (by omega), up2_k (by decide)]
      exact h49 q (by omega) h3
