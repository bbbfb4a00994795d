def wtC (mo : jZ) (a b c k : Nat) : Int := (mo 6 k).toInt * (cnt (mo 7) (10 * k) a 10 : Int) * (cnt (mo 7) (10 * k) b 10 : Int) * (cnt (mo 7) (10 * k) c 10 : Int)
def wsC (mo : jZ) (a b c k : Nat) : Int := wtC mo a b c k * 3 * sm (mo 7) (10 * k) 10
theorem wtC_rng {ki mo : jZ} (hk : iKinds ki mo) (a b c k : Nat) (hk1 : (k : Int) < (mo 3 0).toInt) : 0 ≤ wtC mo a b c k ∧ wtC mo a b c k ≤ 99000 := by
  obtain ⟨-, -, W1, W99, -⟩ := hk.2.2.2.2 k hk1
  have c1 := cnt_le (mo 7) (10 * k) a 10
  have c2 := cnt_le (mo 7) (10 * k) b 10
  have c3 := cnt_le (mo 7) (10 * k) c 10
  unfold wtC
  have p1 := mul_bd (a := (mo 6 k).toInt) (b := (cnt (mo 7) (10 * k) a 10 : Int)) (c := 99) (d := 10) (by omega) W99 (by omega) (by omega)
  have p2 := mul_bd (b := (cnt (mo 7) (10 * k) b 10 : Int)) (d := 10) p1.1 p1.2 (by omega) (by omega)
  exact mul_bd (b := (cnt (mo 7) (10 * k) c 10 : Int)) (d := 10) p2.1 p2.2 (by omega) (by omega)
theorem wsC_rng {ki mo : jZ} (hk : iKinds ki mo) (a b c k : Nat) (hk1 : (k : Int) < (mo 3 0).toInt) : 0 ≤ wsC mo a b c k ∧ wsC mo a b c k ≤ 270 * wtC mo a b c k := by
  have K5 := hk.2.2.1
  obtain ⟨-, -, -, -, -, SM, -⟩ := hk.2.2.2.2 k hk1
  have km := mean_ok (m2 := mo) hk rfl (nI k) k (nI_toInt (by omega)) hk1
  rw [SM] at km
  have w := wtC_rng hk a b c k hk1
  unfold wsC
  have p := mul_bd (a := wtC mo a b c k * 3) (b := sm (mo 7) (10 * k) 10) (c := wtC mo a b c k * 3) (d := 90) (by omega) (Int.le_refl _) km.2.1 km.2.2
  omega
theorem how_p {ki mo : jZ} (hk : iKinds ki mo) (k a : Nat) (hk1 : (k : Int) < (mo 3 0).toInt) (ha : a < 10) : ∃ q : Int32, f_Kinds_howManyAre ki (nI k) (nI a) = some q ∧ q.toInt = (cnt (mo 7) (10 * k) a 10 : Int) := by
  have K5 := hk.2.2.1
  have tk : (nI k).toInt = k := nI_toInt (by omega)
  have ta : (nI a).toInt = a := nI_toInt (by omega)
  obtain ⟨-, -, -, -, -, -, C⟩ := hk.2.2.2.2 k hk1
  refine ⟨_, how_eq ki (nI k) (nI a) (by omega) (by omega) (by omega) (by omega), ?_⟩
  rw [tk, ta, show (10 * (k : Int) + (a : Int)).toNat = 10 * k + a by omega]
  exact C a ha
theorem at_15 {ki mo : jZ} (hk : iKinds ki mo) (a b c : Nat) (ha : a < 10) (hb : b < 10) (hc : c < 10) (lu : jZ) (luy : jY) (ru : jZ) (ruy : jY) : ∀ (n k N : Nat) (v6 v8 : Int64), (k : Int) + n = (mo 3 0).toInt → n < N → v6.toInt = sI (wtC mo a b c) k → v8.toInt = sI (wsC mo a b c) k → 0 ≤ v6.toInt → v6.toInt ≤ 99000 * k → 0 ≤ v8.toInt → v8.toInt ≤ 26730000 * k →
    ∃ r s : Int64, f_Luck_addThree_15 lu ki (nI a) (nI b) (nI c) N luy ru ruy v6 v8 (nI k) = f_Luck_addThree_119 lu ki (nI a) (nI b) (nI c) luy ru ruy r s ∧ r.toInt = sI (wtC mo a b c) (mo 3 0).toInt.toNat ∧ s.toInt = sI (wsC mo a b c) (mo 3 0).toInt.toNat := by
  have K5 := hk.2.2.1
  have i5 : (5 : Int32).toInt = 5 := rfl
  intro n
  induction n with
  | zero =>
    intro k N v6 v8 hi hN h6 h8 b1 b2 b3 b4
    obtain ⟨N, rfl⟩ : ∃ k, N = k + 1 := ⟨N - 1, by omega⟩
    have tk : (nI k).toInt = k := nI_toInt (by omega)
    have hkK : k = (mo 3 0).toInt.toNat := by omega
    refine ⟨v6, v8, ?_, by rw [← hkK]; exact h6, by rw [← hkK]; exact h8⟩
    rw [f_Luck_addThree_15, hk.1, if_pos (by rw [i_le]; omega)]
  | succ n ih =>
    intro k N v6 v8 hi hN h6 h8 b1 b2 b3 b4
    obtain ⟨N, rfl⟩ : ∃ k, N = k + 1 := ⟨N - 1, by omega⟩
    have tk : (nI k).toInt = k := nI_toInt (by omega)
    obtain ⟨-, w3, W1, W99, -, SM, -⟩ := hk.2.2.2.2 k (by omega)
    obtain ⟨q1, e1, f1⟩ := how_p hk k a (by omega) ha
    obtain ⟨q2, e2, f2⟩ := how_p hk k b (by omega) hb
    obtain ⟨q3, e3, f3⟩ := how_p hk k c (by omega) hc
    have c1 := cnt_le (mo 7) (10 * k) a 10
    have c2 := cnt_le (mo 7) (10 * k) b 10
    have c3 := cnt_le (mo 7) (10 * k) c 10
    have p1 := mul_bd (a := (mo 6 k).toInt) (b := (cnt (mo 7) (10 * k) a 10 : Int)) (c := 99) (d := 10) (by omega) W99 (by omega) (by omega)
    have p2 := mul_bd (b := (cnt (mo 7) (10 * k) b 10 : Int)) (d := 10) p1.1 p1.2 (by omega) (by omega)
    have wr := wtC_rng hk a b c k (by omega)
    have sr := wsC_rng hk a b c k (by omega)
    have l3 : (3 : Int64).toInt = 3 := rfl
    have m1 : (Int32.toInt64 (mo 6 k) * Int32.toInt64 q1).toInt = (mo 6 k).toInt * (cnt (mo 7) (10 * k) a 10 : Int) := by rw [l_mul (by rw [i2l, i2l, f1]; omega) (by rw [i2l, i2l, f1]; omega), i2l, i2l, f1]
    have m2 : (Int32.toInt64 (mo 6 k) * Int32.toInt64 q1 * Int32.toInt64 q2).toInt = (mo 6 k).toInt * (cnt (mo 7) (10 * k) a 10 : Int) * (cnt (mo 7) (10 * k) b 10 : Int) := by rw [l_mul (by rw [m1, i2l, f2]; omega) (by rw [m1, i2l, f2]; omega), m1, i2l, f2]
    have m3 : (Int32.toInt64 (mo 6 k) * Int32.toInt64 q1 * Int32.toInt64 q2 * Int32.toInt64 q3).toInt = wtC mo a b c k := by
      have : wtC mo a b c k = (mo 6 k).toInt * (cnt (mo 7) (10 * k) a 10 : Int) * (cnt (mo 7) (10 * k) b 10 : Int) * (cnt (mo 7) (10 * k) c 10 : Int) := rfl
      rw [l_mul (by rw [m2, i2l, f3, ← this]; omega) (by rw [m2, i2l, f3, ← this]; omega), m2, i2l, f3, this]
    generalize hW : Int32.toInt64 (mo 6 k) * Int32.toInt64 q1 * Int32.toInt64 q2 * Int32.toInt64 q3 = W at m3
    have m4 : (W * 3).toInt = wtC mo a b c k * 3 := by rw [l_mul (by rw [m3, l3]; omega) (by rw [m3, l3]; omega), m3, l3]
    have m5 : (W * 3 * Int32.toInt64 (ki 4 k)).toInt = wsC mo a b c k := by
      have : wsC mo a b c k = wtC mo a b c k * 3 * sm (mo 7) (10 * k) 10 := rfl
      rw [l_mul (by rw [m4, i2l, SM, ← this]; omega) (by rw [m4, i2l, SM, ← this]; omega), m4, i2l, SM, this]
    rw [f_Luck_addThree_15, hk.1, if_neg (by rw [i_le]; omega), if_neg (by rw [i_le]; omega), ix_ok (by omega) (by omega), e1, e2, e3]
    simp only [Option.bind_some, i_tn, tk, Int.toNat_natCast, w3, nI_1]
    rw [hW]
    have a6 : (v6 + W).toInt = v6.toInt + wtC mo a b c k := by rw [l_add (by rw [m3]; omega) (by rw [m3]; omega), m3]
    have a8 : (v8 + W * 3 * Int32.toInt64 (ki 4 k)).toInt = v8.toInt + wsC mo a b c k := by rw [l_add (by rw [m5]; omega) (by rw [m5]; omega), m5]
    exact ih (k + 1) N _ _ (by omega) (by omega) (by rw [a6, h6]; rfl) (by rw [a8, h8]; rfl) (by omega) (by omega) (by omega) (by omega)
def cT (mo : jZ) (q : Int32) (i : Nat) : Int := if TK mo (nI (i / 100)) (nI (i / 10 % 10)) (nI (i % 10)) q = 0 then 0 else sI (wtC mo (i / 100) (i / 10 % 10) (i % 10)) (mo 3 0).toInt.toNat
def cH (mo : jZ) (q : Int32) (i : Nat) : Int := if TK mo (nI (i / 100)) (nI (i / 10 % 10)) (nI (i % 10)) q = 0 then 0 else sI (wtC mo (i / 100) (i / 10 % 10) (i % 10)) (mo 3 0).toInt.toNat * (((i / 100 : Nat) : Int) + ((i / 10 % 10 : Nat) : Int) + ((i % 10 : Nat) : Int))
def cS (mo : jZ) (q : Int32) (i : Nat) : Int := if TK mo (nI (i / 100)) (nI (i / 10 % 10)) (nI (i % 10)) q = 0 then 0 else sI (wsC mo (i / 100) (i / 10 % 10) (i % 10)) (mo 3 0).toInt.toNat
theorem law_c {ki mo : jZ} (hk : iKinds ki mo) (q : Int32) : sI (cT mo q) 1000 = LW (hT mo q) mo ∧ sI (cH mo q) 1000 = LW (hH mo q) mo ∧ sI (cS mo q) 1000 = LW (hS mo q) mo := by
  have hf : ∀ k, k < (mo 3 0).toInt.toNat → ∀ j, j < 10 → 0 ≤ (mo 7 (10 * k + j)).toInt ∧ (mo 7 (10 * k + j)).toInt ≤ 9 := fun k hk' j hj => by
    obtain ⟨-, -, -, -, F, -⟩ := hk.2.2.2.2 k (by omega)
    exact (F j hj).2
  refine ⟨?_, ?_, ?_⟩
  · have := law_sum (mo 7) (mo 3 0).toInt.toNat hf (hT mo q)
    refine Eq.trans ?_ this.symm
    refine sI_cong 1000 (fun i _ => ?_)
    unfold cT
    by_cases c : TK mo (nI (i / 100)) (nI (i / 10 % 10)) (nI (i % 10)) q = 0
    · rw [if_pos c]
      exact (sI_zero _ (fun k => by unfold hT; rw [if_pos c]; simp)).symm
    · rw [if_neg c]
      refine sI_cong _ (fun k _ => ?_)
      unfold wtC hT
      rw [if_neg c]
      ac_rfl
  · have := law_sum (mo 7) (mo 3 0).toInt.toNat hf (hH mo q)
    refine Eq.trans ?_ this.symm
    refine sI_cong 1000 (fun i _ => ?_)
    unfold cH
    by_cases c : TK mo (nI (i / 100)) (nI (i / 10 % 10)) (nI (i % 10)) q = 0
    · rw [if_pos c]
      exact (sI_zero _ (fun k => by unfold hH; rw [if_pos c]; simp)).symm
    · rw [if_neg c, ← sI_mulr]
      refine sI_cong _ (fun k _ => ?_)
      unfold wtC hH
      rw [if_neg c]
      generalize ((i / 100 : Nat) : Int) + ((i / 10 % 10 : Nat) : Int) + ((i % 10 : Nat) : Int) = S
      ac_rfl
  · have := law_sum (mo 7) (mo 3 0).toInt.toNat hf (hS mo q)
    refine Eq.trans ?_ this.symm
    refine sI_cong 1000 (fun i _ => ?_)
    unfold cS
    by_cases c : TK mo (nI (i / 100)) (nI (i / 10 % 10)) (nI (i % 10)) q = 0
    · rw [if_pos c]
      exact (sI_zero _ (fun k => by unfold hS; rw [if_pos c]; simp)).symm
    · rw [if_neg c]
      refine sI_cong _ (fun k _ => ?_)
      unfold wsC wtC hS
      rw [if_neg c]
      ac_rfl
theorem sI_bd2 {f : Nat → Int} {c : Int} (K n : Nat) (h : ∀ k, k < K → 0 ≤ f k ∧ f k ≤ c) (hn : n ≤ K) : 0 ≤ sI f n ∧ sI f n ≤ c * n := sI_bd n (fun k hk => h k (by omega))
theorem sI_le2 {f g : Nat → Int} {c : Int} : ∀ n, (∀ k, k < n → f k ≤ c * g k) → sI f n ≤ c * sI g n
  | 0, _ => by simp [sI]
  | n + 1, h => by
    have := sI_le2 n (fun k hk => h k (by omega))
    have h2 := h n (by omega)
    rw [sI, sI, Int.mul_add]; omega
theorem la_31 {ki mo : jZ} (hk : iKinds ki mo) (lu : jZ) (q : Int32) (hq : lu 0 0 = q) : ∀ (n i N : Nat) (luy : jY) (ru : jZ) (ruy : jY), i + n = 1000 → n < N → iRule ru mo → (luy 1 0).toInt = sI (cT mo q) i → (luy 2 0).toInt = sI (cH mo q) i → (luy 3 0).toInt = sI (cS mo q) i → 0 ≤ (luy 1 0).toInt → (luy 1 0).toInt ≤ 495000 * i → 0 ≤ (luy 2 0).toInt → (luy 2 0).toInt ≤ 13365000 * i → 0 ≤ (luy 3 0).toInt → (luy 3 0).toInt ≤ 133650000 * i →
    ∃ (luy2 : jY) (ru2 : jZ) (ruy2 : jY), f_Luck_applyLaw_31 ki q N lu luy ru ruy (nI i) = some (lu, luy2, ru2, ruy2) ∧ (luy2 1 0).toInt = sI (cT mo q) 1000 ∧ (luy2 2 0).toInt = sI (cH mo q) 1000 ∧ (luy2 3 0).toInt = sI (cS mo q) 1000 ∧ ru2 0 = ru 0 ∧ ru2 1 = ru 1 := by
  have K5 := hk.2.2.1
  have K0 := hk.2.1
  have i1000 : (1000 : Int32).toInt = 1000 := rfl
  intro n
  induction n with
  | zero =>
    intro i N luy ru ruy hi hN hR h1 h2 h3 b1 b2 b3 b4 b5 b6
    obtain ⟨N, rfl⟩ : ∃ k, N = k + 1 := ⟨N - 1, by omega⟩
    have : i = 1000 := by omega
    subst this
    exact ⟨luy, ru, ruy, by rw [f_Luck_applyLaw_31, if_pos (by decide)], h1, h2, h3, rfl, rfl⟩
  | succ n ih =>
    intro i N luy ru ruy hi hN hR h1 h2 h3 b1 b2 b3 b4 b5 b6
    obtain ⟨N, rfl⟩ : ∃ k, N = k + 1 := ⟨N - 1, by omega⟩
    have ti : (nI i).toInt = i := nI_toInt (by omega)
    obtain ⟨g1, g2, g3⟩ := dig (i := i) (by omega)
    obtain ⟨r, s, e1, e2, e3⟩ := at_15 hk (i / 100) (i / 10 % 10) (i % 10) (by omega) (by omega) (by omega) lu luy ru ruy (mo 3 0).toInt.toNat 0 FU 0 0 (by omega) (by unfold FU; omega) rfl rfl (by decide) (by decide) (by decide) (by decide)
    have e1' : f_Luck_addThree lu luy ki ru ruy (nI (i / 100)) (nI (i / 10 % 10)) (nI (i % 10)) = f_Luck_addThree_119 lu ki (nI (i / 100)) (nI (i / 10 % 10)) (nI (i % 10)) luy ru ruy r s := e1
    have rb := sI_bd2 (f := wtC mo (i / 100) (i / 10 % 10) (i % 10)) (c := 99000) (mo 3 0).toInt.toNat _ (fun k hk' => wtC_rng hk _ _ _ k (by omega)) (Nat.le_refl _)
    have sl := sI_le2 (f := wsC mo (i / 100) (i / 10 % 10) (i % 10)) (g := wtC mo (i / 100) (i / 10 % 10) (i % 10)) (c := 270) (mo 3 0).toInt.toNat (fun k hk' => (wsC_rng hk _ _ _ k (by omega)).2)
    have sb := sI_bd2 (f := wsC mo (i / 100) (i / 10 % 10) (i % 10)) (c := 26730000) (mo 3 0).toInt.toNat _ (fun k hk' => by
      have h1 := wsC_rng hk (i / 100) (i / 10 % 10) (i % 10) k (by omega)
      have h2 := wtC_rng hk (i / 100) (i / 10 % 10) (i % 10) k (by omega)
      omega) (Nat.le_refl _)
    rw [← e2] at rb sl
    rw [← e3] at sl sb
    have S1 : ∀ f : Nat → Int, sI f (i + 1) = sI f i + f i := fun f => rfl
    have rb5 : r.toInt ≤ 495000 := by omega
    rw [f_Luck_applyLaw_31, if_neg (by rw [i_le]; omega), g1, g2, g3, e1']
    unfold f_Luck_addThree_119
    obtain ⟨ru2, ruy2, m3, my3, w1, w2, w3, w4, w5, w6⟩ := takes_det (m2 := up2 (up2 (up2 mo 49 0 (nI (i / 100))) 49 1 (nI (i / 10 % 10))) 49 2 (nI (i % 10))) hR (by rw [up2_k (by decide), up2_k (by decide), up2_k (by decide)]) (by rw [up2_k (by decide), up2_k (by decide), up2_k (by decide)]) (by rw [up2_k (by decide), up2_k (by decide), up2_k (by decide)]) ruy (fun _ _ => 0) (nI (i / 100)) (nI (i / 10 % 10)) (nI (i % 10)) q (by rw [up2_j (by decide), up2_j (by decide), up2_s]) (by rw [up2_j (by decide), up2_s]) up2_s
    have E0 : ∀ (ru' : jZ) (ruy' : jY), ru' 0 = ru 0 → ru' 1 = ru 1 → cT mo q i = 0 → cH mo q i = 0 → cS mo q i = 0 → ∃ (luy2 : jY) (ru2 : jZ) (ruy2 : jY), f_Luck_applyLaw_31 ki q N lu luy ru' ruy' (nI (i + 1)) = some (lu, luy2, ru2, ruy2) ∧ (luy2 1 0).toInt = sI (cT mo q) 1000 ∧ (luy2 2 0).toInt = sI (cH mo q) 1000 ∧ (luy2 3 0).toInt = sI (cS mo q) 1000 ∧ ru2 0 = ru 0 ∧ ru2 1 = ru 1 := fun ru' ruy' q0 q1 z1 z2 z3 => by
      obtain ⟨l2, r2, ry2, y1, y2, y3, y4, y5, y6⟩ := ih (i + 1) N luy ru' ruy' (by omega) (by omega) (hR.ru q0 q1) (by rw [S1, z1, h1]; omega) (by rw [S1, z2, h2]; omega) (by rw [S1, z3, h3]; omega) b1 (by omega) b3 (by omega) b5 (by omega)
      exact ⟨l2, r2, ry2, y1, y2, y3, y4, y5.trans q0, y6.trans q1⟩
    by_cases c : lg_cmp r 0 = 0
    · rw [if_pos c, Option.bind_some, nI_1]
      rw [lc_eq, l0] at c
      refine E0 ru ruy rfl rfl ?_ ?_ ?_
      · unfold cT; split
        · rfl
        · rw [← e2]; exact c
      · unfold cH; split
        · rfl
        · rw [← e2, c, Int.zero_mul]
      · unfold cS; split
        · rfl
        · rw [← e3]; omega
    · rw [if_neg c, hq, w1, Option.bind_some]
      dsimp only
      by_cases d : TK mo (nI (i / 100)) (nI (i / 10 % 10)) (nI (i % 10)) q = 0
      · rw [if_pos d, Option.bind_some, nI_1]
        refine E0 ru2 ruy2 w4 w5 ?_ ?_ ?_
        · unfold cT; rw [if_pos d]
        · unfold cH; rw [if_pos d]
        · unfold cS; rw [if_pos d]
      · rw [if_neg d, Option.bind_some, nI_1]
        dsimp only
        have ta : (nI (i / 100)).toInt = ((i / 100 : Nat) : Int) := nI_toInt (by omega)
        have tb : (nI (i / 10 % 10)).toInt = ((i / 10 % 10 : Nat) : Int) := nI_toInt (by omega)
        have tc : (nI (i % 10)).toInt = ((i % 10 : Nat) : Int) := nI_toInt (by omega)
        have tab : (nI (i / 100) + nI (i / 10 % 10)).toInt = ((i / 100 : Nat) : Int) + ((i / 10 % 10 : Nat) : Int) := by rw [i_add (by omega) (by omega), ta, tb]
        have tabc : (nI (i / 100) + nI (i / 10 % 10) + nI (i % 10)).toInt = ((i / 100 : Nat) : Int) + ((i / 10 % 10 : Nat) : Int) + ((i % 10 : Nat) : Int) := by rw [i_add (by omega) (by omega), tab, tc]
        have pb := mul_bd (a := r.toInt) (b := ((i / 100 : Nat) : Int) + ((i / 10 % 10 : Nat) : Int) + ((i % 10 : Nat) : Int)) (c := 495000) (d := 27) (by omega) rb5 (by omega) (by omega)
        have mr : (r * Int32.toInt64 (nI (i / 100) + nI (i / 10 % 10) + nI (i % 10))).toInt = r.toInt * (((i / 100 : Nat) : Int) + ((i / 10 % 10 : Nat) : Int) + ((i % 10 : Nat) : Int)) := by rw [l_mul (by rw [i2l, tabc]; omega) (by rw [i2l, tabc]; omega), i2l, tabc]
        have c1 : cT mo q i = r.toInt := by unfold cT; rw [if_neg d, e2]
        have c2 : cH mo q i = r.toInt * (((i / 100 : Nat) : Int) + ((i / 10 % 10 : Nat) : Int) + ((i % 10 : Nat) : Int)) := by unfold cH; rw [if_neg d, e2]
        have c3 : cS mo q i = s.toInt := by unfold cS; rw [if_neg d, e3]
        have a1 : (luy 1 0 + r).toInt = (luy 1 0).toInt + r.toInt := l_add (by omega) (by omega)
        have a2 : (luy 2 0 + r * Int32.toInt64 (nI (i / 100) + nI (i / 10 % 10) + nI (i % 10))).toInt = (luy 2 0).toInt + r.toInt * (((i / 100 : Nat) : Int) + ((i / 10 % 10 : Nat) : Int) + ((i % 10 : Nat) : Int)) := by rw [l_add (by omega) (by omega), mr]
        have a3 : (luy 3 0 + s).toInt = (luy 3 0).toInt + s.toInt := l_add (by omega) (by omega)
        generalize hL : up2 (up2 (up2 luy 1 0 (luy 1 0 + r)) 2 0 (luy 2 0 + r * Int32.toInt64 (nI (i / 100) + nI (i / 10 % 10) + nI (i % 10)))) 3 0 (luy 3 0 + s) = L
        have l1 : (L 1 0).toInt = (luy 1 0).toInt + r.toInt := by rw [← hL, up2_k (by decide), up2_k (by decide), up2_s, a1]
        have l2 : (L 2 0).toInt = (luy 2 0).toInt + r.toInt * (((i / 100 : Nat) : Int) + ((i / 10 % 10 : Nat) : Int) + ((i % 10 : Nat) : Int)) := by rw [← hL, up2_k (by decide), up2_s, a2]
        have l3 : (L 3 0).toInt = (luy 3 0).toInt + s.toInt := by rw [← hL, up2_s, a3]
        obtain ⟨l2', r2, ry2, y1, y2, y3, y4, y5, y6⟩ := ih (i + 1) N L ru2 ruy2 (by omega) (by omega) (hR.ru w4 w5) (by rw [S1, c1, l1, h1]) (by rw [S1, c2, l2, h2]) (by rw [S1, c3, l3, h3]) (by omega) (by omega) (by omega) (by omega) (by omega) (by omega)
        exact ⟨l2', r2, ry2, y1, y2, y3, y4, y5.trans w4, y6.trans w5⟩
