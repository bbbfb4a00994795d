def TK (mo : jZ) (a b c q : Int32) : Int32 := match f_Mo_takes (up2 (up2 (up2 mo 49 0 a) 49 1 b) 49 2 c) (fun _ _ => 0) q with
  | some z => z.2.2
  | none => 0
/-- the rule's answer, whatever stands in the scratch rows -/
theorem takes_det {ru mo m2 : jZ} (hR : iRule ru mo) (h15 : m2 15 = mo 15) (h16 : m2 16 = mo 16) (h17 : m2 17 = mo 17) (ruy moy : jY) (a b c q : Int32) (h0 : m2 49 0 = a) (h1 : m2 49 1 = b) (h2 : m2 49 2 = c) :
    ∃ ru2 ruy2 m3 my3, f_Rule_takes ru ruy a b c q = some (ru2, ruy2, TK mo a b c q) ∧ f_Mo_takes m2 moy q = some (m3, my3, TK mo a b c q) ∧ (TK mo a b c q = 0 ∨ TK mo a b c q = 1) ∧ ru2 0 = ru 0 ∧ ru2 1 = ru 1 ∧ (∀ k, k ≠ 48 → m3 k = m2 k) := by
  have hR1 : iRule ru (up2 (up2 (up2 mo 49 0 a) 49 1 b) 49 2 c) := by
    unfold iRule; rw [up2_k (by decide), up2_k (by decide), up2_k (by decide), up2_k (by decide), up2_k (by decide), up2_k (by decide), up2_k (by decide), up2_k (by decide), up2_k (by decide)]; exact hR
  have hR2 : iRule ru m2 := by unfold iRule; rw [h15, h16, h17]; exact hR
  obtain ⟨ru2, ruy2, m3, my3, r, e1, e2, e3, e4, e5, e6⟩ := takes_ok hR1 ruy (fun _ _ => 0) a b c q (by rw [up2_j (by decide), up2_j (by decide), up2_s]) (by rw [up2_j (by decide), up2_s]) up2_s
  have hr : TK mo a b c q = r := by unfold TK; rw [e2]
  obtain ⟨ru3, ruy3, m4, my4, r2, f1, f2, f3, f4, f5, f6⟩ := takes_ok hR2 ruy moy a b c q h0 h1 h2
  rw [e1] at f1
  obtain ⟨rfl, f1'⟩ := Prod.mk.inj (Option.some.inj f1)
  obtain ⟨rfl, rfl⟩ := Prod.mk.inj f1'
  rw [hr]
  exact ⟨ru2, ruy2, m4, my4, e1, f2, e3, e4, e5, f6⟩
/-- does the rule take place p in year y -/
def tkAt (no mo : jZ) (p y : Nat) : Int32 := if no 7 (9 * p + (y - 3)) = -1 ∨ no 7 (9 * p + (y - 2)) = -1 ∨ no 7 (9 * p + (y - 1)) = -1 then 0 else TK mo (no 7 (9 * p + (y - 3))) (no 7 (9 * p + (y - 2))) (no 7 (9 * p + (y - 1))) (mo 9 p)
theorem at_p (no : jZ) (x1 x2 : Int32) (p y : Nat) (e1 : x1.toInt = p) (e2 : x2.toInt = y) (hp : p < 12) (hy : y < 9) : f_Notes_at no x1 x2 = some (no 7 (9 * p + y)) := by
  rw [at_eq, if_pos (by omega)]
  congr 2
  omega
theorem isTaken_ok {ru no mo m2 : jZ} (hR : iRule ru mo) (h15 : m2 15 = mo 15) (h16 : m2 16 = mo 16) (h17 : m2 17 = mo 17) (h9 : m2 9 = mo 9) (ht : ∀ j, j < 108 → m2 44 j = no 7 j) (x1 x2 : Int32) (p y : Nat) (e1 : x1.toInt = p) (e2 : x2.toInt = y) (hp : p < 12) (h3 : 3 ≤ y) (h9' : y ≤ 9) (moy : jY) :
    ∃ m3 my3, f_Mo_isTaken m2 moy x1 x2 = some (m3, my3, tkAt no mo p y) ∧ (∀ k, k ≠ 48 → k ≠ 49 → m3 k = m2 k) := by
  have i0 : (0 : Int32).toInt = 0 := rfl
  have i1 : (1 : Int32).toInt = 1 := rfl
  have i2 : (2 : Int32).toInt = 2 := rfl
  have i3 : (3 : Int32).toInt = 3 := rfl
  have t3 : (x2 - 3).toInt = (y : Int) - 3 := by rw [i_sub (by omega) (by omega), i3]; omega
  have t30 : (x2 - 3 + 0).toInt = ((y - 3 : Nat) : Int) := by rw [i_add (by omega) (by omega), i0, t3]; omega
  have t31 : (x2 - 3 + 1).toInt = ((y - 2 : Nat) : Int) := by rw [i_add (by omega) (by omega), i1, t3]; omega
  have t32 : (x2 - 3 + 2).toInt = ((y - 1 : Nat) : Int) := by rw [i_add (by omega) (by omega), i2, t3]; omega
  have S : ∀ (m : jZ) (N k : Nat) (v : Int32) (z : Nat), (∀ j, j < 108 → m 44 j = no 7 j) → k < 3 → v = nI k → (x2 - 3 + v).toInt = (z : Int) → z < 9 → f_Mo_isTaken_2 x1 x2 (N + 1) m moy v = if no 7 (9 * p + z) = -1 then some (up2 m 49 k (no 7 (9 * p + z)), moy, 0) else f_Mo_isTaken_2 x1 x2 N (up2 m 49 k (no 7 (9 * p + z))) moy (nI (k + 1)) := fun m N k v z hm hk hv hz hz9 => by
    subst hv
    have tk : (nI k).toInt = k := nI_toInt (by omega)
    rw [f_Mo_isTaken_2, if_neg (by rw [i_le]; omega), countOf_eq hm x1 _ (by omega) (by omega), at_p no x1 _ p z e1 hz hp hz9, Option.bind_some, ix_ok (by omega) (by omega), Option.bind_some, Option.bind_some, i_tn, tk, Int.toNat_natCast, up2_s, nI_1]
  unfold f_Mo_isTaken
  have hF : FU = (FU - 4) + 1 + 1 + 1 + 1 := by decide
  rw [hF, S m2 _ 0 0 (y - 3) ht (by decide) rfl t30 (by omega)]
  unfold tkAt
  by_cases c0 : no 7 (9 * p + (y - 3)) = -1
  · rw [if_pos c0, if_pos (Or.inl c0)]
    exact ⟨_, _, rfl, fun k _ k9 => up2_k k9⟩
  · rw [if_neg c0]
    have hm1 : ∀ j, j < 108 → up2 m2 49 0 (no 7 (9 * p + (y - 3))) 44 j = no 7 j := fun j hj => by rw [up2_k (by decide)]; exact ht j hj
    rw [S _ _ 1 (nI (0 + 1)) (y - 2) hm1 (by decide) rfl t31 (by omega)]
    by_cases c1 : no 7 (9 * p + (y - 2)) = -1
    · rw [if_pos c1, if_pos (Or.inr (Or.inl c1))]
      exact ⟨_, _, rfl, fun k _ k9 => by rw [up2_k k9, up2_k k9]⟩
    · rw [if_neg c1]
      have hm2 : ∀ j, j < 108 → up2 (up2 m2 49 0 (no 7 (9 * p + (y - 3)))) 49 1 (no 7 (9 * p + (y - 2))) 44 j = no 7 j := fun j hj => by rw [up2_k (by decide)]; exact hm1 j hj
      rw [S _ _ 2 (nI (1 + 1)) (y - 1) hm2 (by decide) rfl t32 (by omega)]
      by_cases c2 : no 7 (9 * p + (y - 1)) = -1
      · rw [if_pos c2, if_pos (Or.inr (Or.inr c2))]
        exact ⟨_, _, rfl, fun k _ k9 => by rw [up2_k k9, up2_k k9, up2_k k9]⟩
      · rw [if_neg c2, if_neg (by rintro (h | h | h); exact c0 h; exact c1 h; exact c2 h)]
        generalize hM : up2 (up2 (up2 m2 49 0 (no 7 (9 * p + (y - 3)))) 49 1 (no 7 (9 * p + (y - 2)))) 49 2 (no 7 (9 * p + (y - 1))) = M
        have Mk : ∀ k, k ≠ 49 → M k = m2 k := fun k k9 => by rw [← hM, up2_k k9, up2_k k9, up2_k k9]
        obtain ⟨ru2, ruy2, m3, my3, g1, g2, g3, g4, g5, g6⟩ := takes_det (m2 := M) hR (by rw [Mk 15 (by decide)]; exact h15) (by rw [Mk 16 (by decide)]; exact h16) (by rw [Mk 17 (by decide)]; exact h17) (fun _ _ => 0) moy (no 7 (9 * p + (y - 3))) (no 7 (9 * p + (y - 2))) (no 7 (9 * p + (y - 1))) (mo 9 p) (by rw [← hM, up2_j (by decide), up2_j (by decide), up2_s]) (by rw [← hM, up2_j (by decide), up2_s]) (by rw [← hM, up2_s])
        rw [f_Mo_isTaken_2, if_pos (by decide), ix_ok (by omega) (by omega), Option.bind_some, i_tn, e1, Int.toNat_natCast, Mk 9 (by decide), h9, g2, Option.bind_some]
        dsimp only
        rw [bz_ok g3, Option.bind_some]
        exact ⟨_, _, rfl, fun k k8 k9 => (g6 k k8).trans (Mk k k9)⟩
/-- places as bits -/
def ob (f : Nat → Prop) [∀ i, Decidable (f i)] : Nat → Int32
  | 0 => 0
  | n + 1 => if f n then ob f n ||| (1 <<< (nI n &&& 31)) else ob f n
theorem ti_4 {ro ru no mo : jZ} (hp : iPlaces ro mo) (x1 : Int32) (y : Nat) (e1 : x1.toInt = y) (h3 : 3 ≤ y) (h9 : y ≤ 9) : ∀ (n i N : Nat) (ru : jZ) (ruy : jY), iRule ru mo → (i : Int) + n = (mo 4 0).toInt → n < N → ∃ ru2 ruy2, f_Road_takenIn_4 ro no x1 N ru ruy (ob (fun p => ¬ tkAt no mo p y = 0) i) (nI i) = some (ru2, ruy2, ob (fun p => ¬ tkAt no mo p y = 0) (i + n)) ∧ ru2 0 = ru 0 ∧ ru2 1 = ru 1 := by
  have P0 := hp.2.1
  have P12 := hp.2.2.1
  have i1 : (1 : Int32).toInt = 1 := rfl
  have i2 : (2 : Int32).toInt = 2 := rfl
  have i3 : (3 : Int32).toInt = 3 := rfl
  have i12 : (12 : Int32).toInt = 12 := rfl
  have t3 : (x1 - 3).toInt = ((y - 3 : Nat) : Int) := by rw [i_sub (by omega) (by omega), i3]; omega
  have t2 : (x1 - 2).toInt = ((y - 2 : Nat) : Int) := by rw [i_sub (by omega) (by omega), i2]; omega
  have t1 : (x1 - 1).toInt = ((y - 1 : Nat) : Int) := by rw [i_sub (by omega) (by omega), i1]; omega
  intro n
  induction n with
  | zero =>
    intro i N ru ruy hR hi hN
    obtain ⟨N, rfl⟩ : ∃ k, N = k + 1 := ⟨N - 1, by omega⟩
    have ti : (nI i).toInt = i := nI_toInt (by omega)
    refine ⟨ru, ruy, ?_, rfl, rfl⟩
    rw [f_Road_takenIn_4]
    by_cases c : 12 ≤ nI i
    · rw [if_pos c, Nat.add_zero]
    · rw [if_neg c, has_is hp, isPlace_eq, if_neg (by rw [ti]; omega), Option.bind_some, if_pos rfl, Nat.add_zero]
  | succ n ih =>
    intro i N ru ruy hR hi hN
    obtain ⟨N, rfl⟩ : ∃ k, N = k + 1 := ⟨N - 1, by omega⟩
    have ti : (nI i).toInt = i := nI_toInt (by omega)
    obtain ⟨-, ⟨g9, -⟩, -⟩ := hp.2.2.2.2.2.2.2 i (by omega)
    rw [f_Road_takenIn_4, if_neg (by rw [i_le]; omega), has_is hp, isPlace_eq, if_pos (by rw [ti]; omega), Option.bind_some, if_neg (by decide), at_p no (nI i) _ i _ ti t3 (by omega) (by omega), at_p no (nI i) _ i _ ti t2 (by omega) (by omega), at_p no (nI i) _ i _ ti t1 (by omega) (by omega)]
    simp only [Option.bind_some]
    have Z : ∀ (a b c : Int32), f_Road_takenIn_80 ro no x1 (fun ru_z ru_y v2 v3 => f_Road_takenIn_4 ro no x1 N ru_z ru_y v2 v3) ru ruy (ob (fun p => ¬ tkAt no mo p y = 0) i) (nI i) a b c 0 = f_Road_takenIn_4 ro no x1 N ru ruy (ob (fun p => ¬ tkAt no mo p y = 0) i) (nI (i + 1)) := fun a b c => by
      unfold f_Road_takenIn_80; rw [if_pos rfl, nI_1]
    have ob1 : ob (fun p => ¬ tkAt no mo p y = 0) (i + 1) = if ¬ tkAt no mo i y = 0 then ob (fun p => ¬ tkAt no mo p y = 0) i ||| (1 <<< (nI i &&& 31)) else ob (fun p => ¬ tkAt no mo p y = 0) i := rfl
    have E : ∀ r2 ry2, r2 0 = ru 0 → r2 1 = ru 1 → ∃ ru2 ruy2, f_Road_takenIn_4 ro no x1 N r2 ry2 (ob (fun p => ¬ tkAt no mo p y = 0) (i + 1)) (nI (i + 1)) = some (ru2, ruy2, ob (fun p => ¬ tkAt no mo p y = 0) (i + (n + 1))) ∧ ru2 0 = ru 0 ∧ ru2 1 = ru 1 := fun r2 ry2 q0 q1 => by
      obtain ⟨ru2, ruy2, w1, w2, w3⟩ := ih (i + 1) N r2 ry2 (hR.ru q0 q1) (by omega) (by omega)
      exact ⟨ru2, ruy2, by rw [w1]; congr 4; omega, w2.trans q0, w3.trans q1⟩
    have z0 : ∀ h : tkAt no mo i y = 0, ob (fun p => ¬ tkAt no mo p y = 0) (i + 1) = ob (fun p => ¬ tkAt no mo p y = 0) i := fun h => by rw [ob1, if_neg (fun e => e h)]
    by_cases c0 : no 7 (9 * i + (y - 3)) = -1
    · rw [if_pos c0, Z, ← z0 (by unfold tkAt; rw [if_pos (Or.inl c0)])]
      exact E ru ruy rfl rfl
    · rw [if_neg c0]
      by_cases c1 : no 7 (9 * i + (y - 2)) = -1
      · rw [if_pos c1, Z, ← z0 (by unfold tkAt; rw [if_pos (Or.inr (Or.inl c1))])]
        exact E ru ruy rfl rfl
      · rw [if_neg c1]
        by_cases c2 : no 7 (9 * i + (y - 1)) = -1
        · rw [if_pos c2, Z, ← z0 (by unfold tkAt; rw [if_pos (Or.inr (Or.inr c2))])]
          exact E ru ruy rfl rfl
        · rw [if_neg c2]
          unfold f_Road_takenIn_80
          obtain ⟨ru2, ruy2, m3, my3, g1, g2, g3, g4, g5, g6⟩ := takes_det (m2 := up2 (up2 (up2 mo 49 0 (no 7 (9 * i + (y - 3)))) 49 1 (no 7 (9 * i + (y - 2)))) 49 2 (no 7 (9 * i + (y - 1)))) hR (by rw [up2_k (by decide), up2_k (by decide), up2_k (by decide)]) (by rw [up2_k (by decide), up2_k (by decide), up2_k (by decide)]) (by rw [up2_k (by decide), up2_k (by decide), up2_k (by decide)]) ruy (fun _ _ => 0) (no 7 (9 * i + (y - 3))) (no 7 (9 * i + (y - 2))) (no 7 (9 * i + (y - 1))) (mo 9 i) (by rw [up2_j (by decide), up2_j (by decide), up2_s]) (by rw [up2_j (by decide), up2_s]) up2_s
          rw [if_neg (by decide), ix_ok (by omega) (by omega), Option.bind_some, i_tn, ti, Int.toNat_natCast, g9, g1, Option.bind_some, nI_1]
          dsimp only
          have tk : tkAt no mo i y = TK mo (no 7 (9 * i + (y - 3))) (no 7 (9 * i + (y - 2))) (no 7 (9 * i + (y - 1))) (mo 9 i) := by
            unfold tkAt; rw [if_neg (by rintro (h | h | h); exact c0 h; exact c1 h; exact c2 h)]
          rw [← tk]
          by_cases d : tkAt no mo i y = 0
          · rw [if_pos d, ← z0 d]
            exact E ru2 ruy2 g4 g5
          · rw [if_neg d]
            rw [if_pos d] at ob1
            rw [← ob1]
            exact E ru2 ruy2 g4 g5
theorem takenIn_ok {ro ru no mo : jZ} (hp : iPlaces ro mo) (hR : iRule ru mo) (ruy : jY) (x1 : Int32) (y : Nat) (e1 : x1.toInt = y) (h3 : 3 ≤ y) (h9 : y ≤ 9) : ∃ ru2 ruy2, f_Road_takenIn ro ru ruy no x1 = some (ru2, ruy2, ob (fun p => ¬ tkAt no mo p y = 0) (mo 4 0).toInt.toNat) ∧ ru2 0 = ru 0 ∧ ru2 1 = ru 1 := by
  have P0 := hp.2.1
  have P12 := hp.2.2.1
  obtain ⟨ru2, ruy2, w1, w2, w3⟩ := ti_4 (ru := ru) (no := no) hp x1 y e1 h3 h9 (mo 4 0).toInt.toNat 0 FU ru ruy hR (by omega) (by unfold FU; omega)
  rw [Nat.zero_add] at w1
  exact ⟨ru2, ruy2, w1, w2, w3⟩
theorem mt_26 {ru no mo mB : jZ} (hR : iRule ru mo) (hP12 : (mo 4 0).toInt ≤ 12) (r3 : mRelA mo mB) (ht : ∀ j, j < 108 → mB 44 j = no 7 j) (x1 : Int32) (y : Nat) (e1 : x1.toInt = y) (h3 : 3 ≤ y) (h9 : y ≤ 9) : ∀ (n i N : Nat) (m2 : jZ) (moy : jY), (i : Int) + n = (mo 4 0).toInt → n < N → (∀ k, k ≠ 48 → k ≠ 49 → m2 k = mB k) → ∃ m3 my3, f_Mo_taken_26 x1 N m2 moy (ob (fun p => ¬ tkAt no mo p y = 0) i) (nI i) = some (m3, my3, ob (fun p => ¬ tkAt no mo p y = 0) (i + n)) ∧ (∀ k, k ≠ 48 → k ≠ 49 → m3 k = mB k) := by
  intro n
  induction n with
  | zero =>
    intro i N m2 moy hi hN hB
    obtain ⟨N, rfl⟩ : ∃ k, N = k + 1 := ⟨N - 1, by omega⟩
    have ti : (nI i).toInt = i := nI_toInt (by omega)
    refine ⟨m2, moy, ?_, hB⟩
    rw [f_Mo_taken_26, hB 4 (by decide) (by decide), r3 4 (by omega), if_pos (by rw [i_le]; omega), Nat.add_zero]
  | succ n ih =>
    intro i N m2 moy hi hN hB
    obtain ⟨N, rfl⟩ : ∃ k, N = k + 1 := ⟨N - 1, by omega⟩
    have ti : (nI i).toInt = i := nI_toInt (by omega)
    obtain ⟨m3, my3, g1, g2⟩ := isTaken_ok (no := no) (m2 := m2) hR (by rw [hB 15 (by decide) (by decide)]; exact r3 15 (by omega)) (by rw [hB 16 (by decide) (by decide)]; exact r3 16 (by omega)) (by rw [hB 17 (by decide) (by decide)]; exact r3 17 (by omega)) (by rw [hB 9 (by decide) (by decide)]; exact r3 9 (by omega)) (fun j hj => by rw [hB 44 (by decide) (by decide)]; exact ht j hj) (nI i) x1 i y ti e1 (by omega) h3 h9 moy
    rw [f_Mo_taken_26, hB 4 (by decide) (by decide), r3 4 (by omega), if_neg (by rw [i_le]; omega), g1, Option.bind_some]
    dsimp only
    have ob1 : ob (fun p => ¬ tkAt no mo p y = 0) (i + 1) = if ¬ tkAt no mo i y = 0 then ob (fun p => ¬ tkAt no mo p y = 0) i ||| (1 <<< (nI i &&& 31)) else ob (fun p => ¬ tkAt no mo p y = 0) i := rfl
    obtain ⟨m4, my4, w1, w2⟩ := ih (i + 1) N m3 my3 (by omega) (by omega) (fun k k8 k9 => (g2 k k8 k9).trans (hB k k8 k9))
    have w1' : f_Mo_taken_26 x1 N m3 my3 (ob (fun p => ¬ tkAt no mo p y = 0) (i + 1)) (nI (i + 1)) = some (m4, my4, ob (fun p => ¬ tkAt no mo p y = 0) (i + (n + 1))) := by rw [w1]; congr 4; omega
    rw [nI_1]
    by_cases d : tkAt no mo i y = 0
    · rw [if_pos d]
      rw [if_neg (fun e => e d)] at ob1
      rw [← ob1, w1']
      exact ⟨m4, my4, rfl, w2⟩
    · rw [if_neg d]
      rw [if_pos d] at ob1
      rw [← ob1, w1']
      exact ⟨m4, my4, rfl, w2⟩
/-- taken -/
theorem op_taken {ro ru no mo : jZ} {ruy my : jY} (hp : iPlaces ro mo) (hn : iNotes no mo) (hR : iRule ru mo) (x1 : Int32) : ∃ ru2 ruy2 m2 my2 r, f_WP_taken ro ru ruy no x1 = some (ru2, ruy2, r) ∧ f_Mo_taken mo my x1 = some (m2, my2, r) ∧ mRel mo m2 ∧ ru2 0 = ru 0 ∧ ru2 1 = ru 1 := by
  have i3 : (3 : Int32).toInt = 3 := rfl
  have i9 : (9 : Int32).toInt = 9 := rfl
  have P0 := hp.2.1
  have P12 := hp.2.2.1
  unfold f_WP_taken f_Mo_taken
  rw [within_eq, Option.bind_some, i3, i9]
  by_cases c : 3 ≤ x1.toInt ∧ x1.toInt ≤ 9
  · obtain ⟨m2, g1, g2, g3, g4⟩ := knows_i (hn.to (m0 mo 0 0))
    have r3 : mRel mo m2 := (m0 mo 0 0).tr g2
    obtain ⟨ru2, ruy2, w1, w2, w3⟩ := takenIn_ok (no := no) hp hR ruy x1 x1.toInt.toNat (by omega) (by omega) (by omega)
    obtain ⟨m3, my3, u1, u2⟩ := mt_26 (no := no) hR P12 r3.A g4 x1 x1.toInt.toNat (by omega) (by omega) (by omega) (mo 4 0).toInt.toNat 0 FU m2 my (by omega) (by unfold FU; omega) (fun _ _ _ => rfl)
    rw [Nat.zero_add] at u1
    rw [if_pos c, if_neg (by decide), w1, Option.bind_some, if_neg (by rw [i_lt]; omega), if_pos (by rw [i_le]; omega), g1, Option.bind_some, show f_Mo_taken_26 x1 FU m2 my 0 0 = _ from u1]
    exact ⟨_, _, _, _, _, rfl, rfl, fun k hk => (u2 k (by unfold mKeep at hk; omega) (by unfold mKeep at hk; omega)).trans (r3 k hk), w2, w3⟩
  · rw [if_neg c, if_pos rfl]
    by_cases d : x1 < 3
    · rw [if_pos d]
      exact ⟨_, _, _, _, _, rfl, rfl, m0 mo 0 0, rfl, rfl⟩
    · rw [if_neg d]
      rw [i_lt] at d
      rw [if_neg (by rw [i_le]; omega)]
      exact ⟨_, _, _, _, _, rfl, rfl, m0 mo 0 0, rfl, rfl⟩
