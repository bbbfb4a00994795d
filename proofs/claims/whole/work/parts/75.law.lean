theorem dig {i : Nat} (h : i < 1000) : nI i / 100 = nI (i / 100) ∧ nI i / 10 - nI i / 10 / 10 * 10 = nI (i / 10 % 10) ∧ nI i - nI i / 10 * 10 = nI (i % 10) := by
  have i10 : (10 : Int32).toInt = 10 := rfl
  have i100 : (100 : Int32).toInt = 100 := rfl
  have ti : (nI i).toInt = i := nI_toInt (by omega)
  have d1 : (nI i / 100).toInt = ((i / 100 : Nat) : Int) := by rw [i_div (by rw [i100]; omega) (by omega), ti, i100]; omega
  have d2 : (nI i / 10).toInt = ((i / 10 : Nat) : Int) := by rw [i_div (by rw [i10]; omega) (by omega), ti, i10]; omega
  have d3 : (nI i / 10 / 10).toInt = ((i / 10 / 10 : Nat) : Int) := by rw [i_div (by rw [i10]; omega) (by omega), d2, i10]; omega
  have m3 : (nI i / 10 / 10 * 10).toInt = ((i / 10 / 10 : Nat) : Int) * 10 := by rw [i_mul (by rw [d3, i10]; omega) (by rw [d3, i10]; omega), d3, i10]
  have m2 : (nI i / 10 * 10).toInt = ((i / 10 : Nat) : Int) * 10 := by rw [i_mul (by rw [d2, i10]; omega) (by rw [d2, i10]; omega), d2, i10]
  refine ⟨i_ext ?_, i_ext ?_, i_ext ?_⟩
  · rw [d1, nI_toInt (by omega)]
  · rw [i_sub (by omega) (by omega), d2, m3, nI_toInt (by omega)]; omega
  · rw [i_sub (by omega) (by omega), ti, m2, nI_toInt (by omega)]; omega
theorem t10 {k d : Nat} (hk : k < 10) (hd : d < 10) : (10 * nI k + nI d).toInt = ((10 * k + d : Nat) : Int) := by
  have i10 : (10 : Int32).toInt = 10 := rfl
  have tk : (nI k).toInt = k := nI_toInt (by omega)
  have td : (nI d).toInt = d := nI_toInt (by omega)
  have m : (10 * nI k).toInt = 10 * (k : Int) := by rw [i_mul (by rw [tk, i10]; omega) (by rw [tk, i10]; omega), tk, i10]
  rw [i_add (by omega) (by omega), m, td]; omega
theorem nI_bk {x : Int32} (h0 : 0 ≤ x.toInt) (h1 : x.toInt ≤ 2000000000) : nI x.toInt.toNat = x := i_ext (by rw [nI_toInt (by omega)]; omega)
theorem ml_54 {ki ru mo mB : jZ} (hk : iKinds ki mo) (hR : iRule ru mo) (r3 : mRelA mo mB) (x1 x2 : Int32) (k42 : jZ → jY → Int64 → Int64 → Int64 → Int64 → Int32 → Option (jZ × jY × Int64)) (k : Nat) (hk1 : (k : Int) < (mo 3 0).toInt) (t3 t5 t7 t9 : Int) (u3 : 0 ≤ t3 ∧ t3 ≤ 1000000000000) (u5 : 0 ≤ t5 ∧ t5 ≤ 1000000000000) (u7 : 0 ≤ t7 ∧ t7 ≤ 1000000000000) (u9 : 0 ≤ t9 ∧ t9 ≤ 1000000000000) : ∀ (n i N : Nat) (m2 : jZ) (moy : jY) (v3 v5 v7 v9 : Int64), i + n = 1000 → n < N → (∀ j, j ≠ 48 → j ≠ 49 → m2 j = mB j) → v3.toInt = t3 + sI (lwR (hT mo x1) (mo 7) k) i → v5.toInt = t5 + (mo 6 k).toInt * i → v7.toInt = t7 + sI (lwR (hH mo x1) (mo 7) k) i → v9.toInt = t9 + sI (lwR (hS mo x1) (mo 7) k) i →
    ∃ (m3 : jZ) (my3 : jY) (w3 w5 w7 w9 : Int64), f_Mo_law_54 x1 x2 k42 N m2 moy v3 v5 v7 v9 (nI k) (nI i) = k42 m3 my3 w3 w5 w7 w9 (nI (k + 1)) ∧ (∀ j, j ≠ 48 → j ≠ 49 → m3 j = mB j) ∧ w3.toInt = t3 + sI (lwR (hT mo x1) (mo 7) k) 1000 ∧ w5.toInt = t5 + (mo 6 k).toInt * 1000 ∧ w7.toInt = t7 + sI (lwR (hH mo x1) (mo 7) k) 1000 ∧ w9.toInt = t9 + sI (lwR (hS mo x1) (mo 7) k) 1000 := by
  have K5 := hk.2.2.1
  obtain ⟨-, -, W1, W99, F, SM, -⟩ := hk.2.2.2.2 k hk1
  have hF : ∀ d, d < 10 → 0 ≤ (mo 7 (10 * k + d)).toInt ∧ (mo 7 (10 * k + d)).toInt ≤ 9 := fun d hd => (F d hd).2
  have tk : (nI k).toInt = k := nI_toInt (by omega)
  have x0 : ix 0 3 = some 0 := rfl
  have x1' : ix 1 3 = some 1 := rfl
  have x2' : ix 2 3 = some 2 := rfl
  have c0 : (0 : Int32).toNatClampNeg = 0 := rfl
  have c1 : (1 : Int32).toNatClampNeg = 1 := rfl
  have c2 : (2 : Int32).toNatClampNeg = 2 := rfl
  have i1000 : (1000 : Int32).toInt = 1000 := rfl
  have B : ∀ i, (0 ≤ lwR (hT mo x1) (mo 7) k i ∧ lwR (hT mo x1) (mo 7) k i ≤ 99) ∧ (0 ≤ lwR (hH mo x1) (mo 7) k i ∧ lwR (hH mo x1) (mo 7) k i ≤ 99 * 27 ∨ ¬ i < 1000) ∧ (0 ≤ lwR (hS mo x1) (mo 7) k i ∧ lwR (hS mo x1) (mo 7) k i ≤ 297 * 90) := fun i => by
    have km := mean_ok (m2 := mo) hk rfl (nI k) k tk hk1
    rw [SM] at km
    refine ⟨?_, ?_, ?_⟩
    · unfold lwR hT; split <;> omega
    · by_cases c : i < 1000
      · left
        have f1 := hF (i / 100) (by omega)
        have f2 := hF (i / 10 % 10) (by omega)
        have f3 := hF (i % 10) (by omega)
        unfold lwR hH
        split
        · omega
        · have := mul_bd (a := (mo 6 k).toInt) (b := (((mo 7 (10 * k + i / 100)).toInt.toNat : Nat) : Int) + (((mo 7 (10 * k + i / 10 % 10)).toInt.toNat : Nat) : Int) + (((mo 7 (10 * k + i % 10)).toInt.toNat : Nat) : Int)) (c := 99) (d := 27) (by omega) W99 (by omega) (by omega)
          exact this
      · exact Or.inr c
    · unfold lwR hS
      split
      · omega
      · exact mul_bd (by omega) (by omega) km.2.1 km.2.2
  have SB : ∀ i, i ≤ 1000 → (0 ≤ sI (lwR (hT mo x1) (mo 7) k) i ∧ sI (lwR (hT mo x1) (mo 7) k) i ≤ 99 * i) ∧ (0 ≤ sI (lwR (hH mo x1) (mo 7) k) i ∧ sI (lwR (hH mo x1) (mo 7) k) i ≤ 99 * 27 * i) ∧ (0 ≤ sI (lwR (hS mo x1) (mo 7) k) i ∧ sI (lwR (hS mo x1) (mo 7) k) i ≤ 297 * 90 * i) := fun i hi => ⟨sI_bd i (fun j _ => (B j).1), sI_bd i (fun j hj => (B j).2.1.resolve_right (fun e => e (by omega))), sI_bd i (fun j _ => (B j).2.2)⟩
  intro n
  induction n with
  | zero =>
    intro i N m2 moy v3 v5 v7 v9 hi hN hB h3 h5 h7 h9
    obtain ⟨N, rfl⟩ : ∃ k, N = k + 1 := ⟨N - 1, by omega⟩
    have : i = 1000 := by omega
    subst this
    refine ⟨m2, moy, v3, v5, v7, v9, ?_, hB, h3, h5, h7, h9⟩
    rw [f_Mo_law_54, if_pos (by decide), nI_1]
  | succ n ih =>
    intro i N m2 moy v3 v5 v7 v9 hi hN hB h3 h5 h7 h9
    obtain ⟨N, rfl⟩ : ∃ k, N = k + 1 := ⟨N - 1, by omega⟩
    have ti : (nI i).toInt = i := nI_toInt (by omega)
    obtain ⟨g1, g2, g3⟩ := dig (i := i) (by omega)
    obtain ⟨s3, s7, s9⟩ := SB i (by omega)
    obtain ⟨b3, b7, b9⟩ := B i
    have b7 := b7.resolve_right (fun e => e (by omega))
    have f1 := hF (i / 100) (by omega)
    have f2 := hF (i / 10 % 10) (by omega)
    have f3 := hF (i % 10) (by omega)
    have q1 := t10 (k := k) (d := i / 100) (by omega) (by omega)
    have q2 := t10 (k := k) (d := i / 10 % 10) (by omega) (by omega)
    have q3 := t10 (k := k) (d := i % 10) (by omega) (by omega)
    have m7 : m2 7 = mo 7 := (hB 7 (by decide) (by decide)).trans (r3 7 (by omega))
    have m6 : m2 6 = mo 6 := (hB 6 (by decide) (by decide)).trans (r3 6 (by omega))
    rw [f_Mo_law_54, if_neg (by rw [i_le]; omega), g1, g2, g3, x0, x1', x2', ix_ok (by omega) (by omega), ix_ok (by omega) (by omega), ix_ok (by omega) (by omega), ix_ok (by omega) (by omega)]
    simp only [Option.bind_some, i_tn, q1, q2, q3, tk, Int.toNat_natCast, m7, m6]
    have z0 : (0 : Int32).toInt.toNat = 0 := rfl
    have z1 : (1 : Int32).toInt.toNat = 1 := rfl
    have z2 : (2 : Int32).toInt.toNat = 2 := rfl
    rw [z0, z1, z2]
    generalize hA : mo 7 (10 * k + i / 100) = A at f1
    generalize hBb : mo 7 (10 * k + i / 10 % 10) = Bb at f2
    generalize hC : mo 7 (10 * k + i % 10) = C at f3
    obtain ⟨ru2, ruy2, m3, my3, e1, e2, e3, e4, e5, e6⟩ := takes_det (m2 := up2 (up2 (up2 m2 49 0 A) 49 1 Bb) 49 2 C) hR (by rw [up2_k (by decide), up2_k (by decide), up2_k (by decide), hB 15 (by decide) (by decide)]; exact r3 15 (by omega)) (by rw [up2_k (by decide), up2_k (by decide), up2_k (by decide), hB 16 (by decide) (by decide)]; exact r3 16 (by omega)) (by rw [up2_k (by decide), up2_k (by decide), up2_k (by decide), hB 17 (by decide) (by decide)]; exact r3 17 (by omega)) (fun _ _ => 0) moy A Bb C x1 (by rw [up2_j (by decide), up2_j (by decide), up2_s]) (by rw [up2_j (by decide), up2_s]) up2_s
    rw [e2, Option.bind_some]
    dsimp only
    have k3 : ∀ j, j ≠ 48 → j ≠ 49 → m3 j = mB j := fun j j8 j9 => by rw [e6 j j8, up2_k j9, up2_k j9, up2_k j9]; exact hB j j8 j9
    have n6 : m3 6 = mo 6 := (k3 6 (by decide) (by decide)).trans (r3 6 (by omega))
    have n7 : m3 7 = mo 7 := (k3 7 (by decide) (by decide)).trans (r3 7 (by omega))
    have n490 : m3 49 0 = A := by rw [e6 49 (by decide), up2_j (by decide), up2_j (by decide), up2_s]
    have n491 : m3 49 1 = Bb := by rw [e6 49 (by decide), up2_j (by decide), up2_s]
    have n492 : m3 49 2 = C := by rw [e6 49 (by decide), up2_s]
    have L3 : lwR (hT mo x1) (mo 7) k i = if TK mo A Bb C x1 = 0 then 0 else (mo 6 k).toInt := by
      unfold lwR hT; rw [hA, hBb, hC, nI_bk f1.1 (by omega), nI_bk f2.1 (by omega), nI_bk f3.1 (by omega)]
    have L7 : lwR (hH mo x1) (mo 7) k i = if TK mo A Bb C x1 = 0 then 0 else (mo 6 k).toInt * (A.toInt + Bb.toInt + C.toInt) := by
      unfold lwR hH
      rw [hA, hBb, hC, nI_bk f1.1 (by omega), nI_bk f2.1 (by omega), nI_bk f3.1 (by omega), Int.toNat_of_nonneg f1.1, Int.toNat_of_nonneg f2.1, Int.toNat_of_nonneg f3.1]
    have L9 : lwR (hS mo x1) (mo 7) k i = if TK mo A Bb C x1 = 0 then 0 else 3 * (mo 6 k).toInt * sm (mo 7) (10 * k) 10 := by
      unfold lwR hS; rw [hA, hBb, hC, nI_bk f1.1 (by omega), nI_bk f2.1 (by omega), nI_bk f3.1 (by omega)]
    have wi : (mo 6 k).toInt * (i : Int) ≤ 99 * 1000 ∧ 0 ≤ (mo 6 k).toInt * (i : Int) := (mul_bd (by omega) W99 (by omega) (by omega)).symm
    have a5 : (v5 + Int32.toInt64 (mo 6 k)).toInt = t5 + (mo 6 k).toInt * ((i + 1 : Nat) : Int) := by
      rw [l_add (by rw [i2l]; omega) (by rw [i2l]; omega), i2l, h5, Int.natCast_add, Int.mul_add]; omega
    have S1 : ∀ f : Nat → Int, sI f (i + 1) = sI f i + f i := fun f => rfl
    by_cases d : TK mo A Bb C x1 = 0
    · rw [if_pos d] at L3 L7 L9
      rw [if_pos d, nI_1]
      exact ih (i + 1) N m3 my3 v3 _ v7 v9 (by omega) (by omega) k3 (by rw [S1, L3, h3]; omega) a5 (by rw [S1, L7, h7]; omega) (by rw [S1, L9, h9]; omega)
    · rw [if_neg d] at L3 L7 L9
      obtain ⟨km, km0, km9⟩ := mean_ok (m2 := m3) hk n7 (nI k) k tk hk1
      rw [if_neg d, km, nI_1, n6, n490, n491, n492, Option.bind_some]
      have ab : (A + Bb).toInt = A.toInt + Bb.toInt := i_add (by omega) (by omega)
      have abc : (A + Bb + C).toInt = A.toInt + Bb.toInt + C.toInt := by rw [i_add (by omega) (by omega), ab]
      have pw := mul_bd (a := (mo 6 k).toInt) (b := A.toInt + Bb.toInt + C.toInt) (c := 99) (d := 27) (by omega) W99 (by omega) (by omega)
      have m1 : (mo 6 k * (A + Bb + C)).toInt = (mo 6 k).toInt * (A.toInt + Bb.toInt + C.toInt) := by rw [i_mul (by rw [abc]; omega) (by rw [abc]; omega), abc]
      have l3 : (3 : Int64).toInt = 3 := rfl
      have m3' : (3 * Int32.toInt64 (mo 6 k)).toInt = 3 * (mo 6 k).toInt := by rw [l_mul (by rw [l3, i2l]; omega) (by rw [l3, i2l]; omega), l3, i2l]
      have pq := mul_bd (a := 3 * (mo 6 k).toInt) (b := (ki 4 k).toInt) (c := 297) (d := 90) (by omega) (by omega) km0 km9
      have m4 : (3 * Int32.toInt64 (mo 6 k) * Int32.toInt64 (ki 4 k)).toInt = 3 * (mo 6 k).toInt * sm (mo 7) (10 * k) 10 := by rw [l_mul (by rw [m3', i2l]; omega) (by rw [m3', i2l]; omega), m3', i2l, SM]
      refine ih (i + 1) N m3 my3 _ _ _ _ (by omega) (by omega) k3 ?_ a5 ?_ ?_
      · rw [l_add (by rw [i2l]; omega) (by rw [i2l]; omega), i2l, h3, S1, L3]; omega
      · rw [l_add (by rw [i2l, m1]; omega) (by rw [i2l, m1]; omega), i2l, m1, h7, S1, L7]; omega
      · rw [l_add (by rw [m4]; omega) (by rw [m4]; omega), m4, h9, S1, L9]; omega
theorem ml_42 {ki ru mo mB : jZ} (hk : iKinds ki mo) (hR : iRule ru mo) (r3 : mRelA mo mB) (x1 x2 : Int32) : ∀ (n k N : Nat) (m2 : jZ) (moy : jY) (v3 v5 v7 v9 : Int64), (k : Int) + n = (mo 3 0).toInt → n < N → (∀ j, j ≠ 48 → j ≠ 49 → m2 j = mB j) → v3.toInt = sI (fun k => sI (lwR (hT mo x1) (mo 7) k) 1000) k → v5.toInt = 1000 * sm (mo 6) 0 k → v7.toInt = sI (fun k => sI (lwR (hH mo x1) (mo 7) k) 1000) k → v9.toInt = sI (fun k => sI (lwR (hS mo x1) (mo 7) k) 1000) k → 0 ≤ v3.toInt → v3.toInt ≤ 99000 * k → 0 ≤ v5.toInt → v5.toInt ≤ 99000 * k → 0 ≤ v7.toInt → v7.toInt ≤ 2673000 * k → 0 ≤ v9.toInt → v9.toInt ≤ 26730000 * k →
    ∃ (m3 : jZ) (my3 : jY) (w3 w5 w7 w9 : Int64), f_Mo_law_42 x1 x2 N m2 moy v3 v5 v7 v9 (nI k) = (if x2 = 0 then some (m3, my3, w3) else (if x2 = 1 then some (m3, my3, w5) else (if x2 = 2 then some (m3, my3, w7) else (if x2 = 3 then some (m3, my3, w9) else (if (lg_cmp w7 0) = 0 then some (m3, my3, 0) else (nzl (10 * w7)).bind fun _ => some (m3, my3, ((100 * ((10 * w7) - w9)) / (10 * w7)))))))) ∧ (∀ j, j ≠ 48 → j ≠ 49 → m3 j = mB j) ∧ w3.toInt = LW (hT mo x1) mo ∧ w5.toInt = 1000 * sm (mo 6) 0 (mo 3 0).toInt.toNat ∧ w7.toInt = LW (hH mo x1) mo ∧ w9.toInt = LW (hS mo x1) mo ∧ 0 ≤ w7.toInt ∧ w7.toInt ≤ 20000000 := by
  have K5 := hk.2.2.1
  intro n
  induction n with
  | zero =>
    intro k N m2 moy v3 v5 v7 v9 hi hN hB h3 h5 h7 h9 b1 b2 b3 b4 b5 b6 b7 b8
    obtain ⟨N, rfl⟩ : ∃ k, N = k + 1 := ⟨N - 1, by omega⟩
    have tk : (nI k).toInt = k := nI_toInt (by omega)
    have hkK : k = (mo 3 0).toInt.toNat := by omega
    have m3 : m2 3 = mo 3 := (hB 3 (by decide) (by decide)).trans (r3 3 (by omega))
    refine ⟨m2, moy, v3, v5, v7, v9, ?_, hB, by unfold LW; rw [← hkK]; exact h3, by rw [← hkK]; exact h5, by unfold LW; rw [← hkK]; exact h7, by unfold LW; rw [← hkK]; exact h9, b5, by omega⟩
    rw [f_Mo_law_42, m3, if_pos (by rw [i_le]; omega)]
  | succ n ih =>
    intro k N m2 moy v3 v5 v7 v9 hi hN hB h3 h5 h7 h9 b1 b2 b3 b4 b5 b6 b7 b8
    obtain ⟨N, rfl⟩ : ∃ k, N = k + 1 := ⟨N - 1, by omega⟩
    have tk : (nI k).toInt = k := nI_toInt (by omega)
    have m3 : m2 3 = mo 3 := (hB 3 (by decide) (by decide)).trans (r3 3 (by omega))
    obtain ⟨-, -, W1, W99, F, SM, -⟩ := hk.2.2.2.2 k (by omega)
    obtain ⟨m3', my3, w3, w5, w7, w9, g1, g2, g3, g5, g7, g9⟩ := ml_54 hk hR r3 x1 x2 (fun mo_z mo_y v3 v5 v7 v9 v11 => f_Mo_law_42 x1 x2 N mo_z mo_y v3 v5 v7 v9 v11) k (by omega) v3.toInt v5.toInt v7.toInt v9.toInt (by omega) (by omega) (by omega) (by omega) 1000 0 FU m2 moy v3 v5 v7 v9 rfl (by decide) hB (by simp [sI]) (by simp) (by simp [sI]) (by simp [sI])
    rw [f_Mo_law_42, m3, if_neg (by rw [i_le]; omega), show f_Mo_law_54 x1 x2 (fun mo_z mo_y v3 v5 v7 v9 v11 => f_Mo_law_42 x1 x2 N mo_z mo_y v3 v5 v7 v9 v11) FU m2 moy v3 v5 v7 v9 (nI k) 0 = _ from g1]
    have hF : ∀ d, d < 10 → 0 ≤ (mo 7 (10 * k + d)).toInt ∧ (mo 7 (10 * k + d)).toInt ≤ 9 := fun d hd => (F d hd).2
    have km := mean_ok (m2 := mo) hk rfl (nI k) k tk (by omega)
    rw [SM] at km
    have s3 := sI_bd (f := lwR (hT mo x1) (mo 7) k) (c := 99) 1000 (fun i _ => by unfold lwR hT; split <;> omega)
    have s7 := sI_bd (f := lwR (hH mo x1) (mo 7) k) (c := 2673) 1000 (fun i hi => by
      have f1 := hF (i / 100) (by omega)
      have f2 := hF (i / 10 % 10) (by omega)
      have f3 := hF (i % 10) (by omega)
      unfold lwR hH
      split
      · omega
      · exact mul_bd (a := (mo 6 k).toInt) (b := (((mo 7 (10 * k + i / 100)).toInt.toNat : Nat) : Int) + (((mo 7 (10 * k + i / 10 % 10)).toInt.toNat : Nat) : Int) + (((mo 7 (10 * k + i % 10)).toInt.toNat : Nat) : Int)) (c := 99) (d := 27) (by omega) W99 (by omega) (by omega))
    have s9 := sI_bd (f := lwR (hS mo x1) (mo 7) k) (c := 26730) 1000 (fun i _ => by
      unfold lwR hS
      split
      · omega
      · exact mul_bd (c := 297) (d := 90) (by omega) (by omega) km.2.1 km.2.2)
    refine ih (k + 1) N m3' my3 w3 w5 w7 w9 (by omega) (by omega) g2 ?_ ?_ ?_ ?_ (by omega) (by omega) (by omega) (by omega) (by omega) (by omega) (by omega) (by omega)
    · exact g3.trans (by rw [h3]; rfl)
    · rw [g5, h5, sm, Nat.zero_add]; omega
    · exact g7.trans (by rw [h7]; rfl)
    · exact g9.trans (by rw [h9]; rfl)
