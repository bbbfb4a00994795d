def hRel (ho : jZ) (most least mm ma mb : Int32) : Prop := (ho 0 0 = 0 ∧ most = -2147483648) ∨ (ho 0 0 = 1 ∧ -2147483648 < most.toInt ∧ ho 1 0 = most ∧ ho 2 0 = least ∧ ho 3 0 = mm ∧ ho 4 0 = ma ∧ ho 5 0 = mb)
theorem keep_ok {ho : jZ} {most least mm ma mb : Int32} (h : hRel ho most least mm ma mb) (x l i j : Int32) (hx : -2147483648 < x.toInt) : ∃ ho2 g, f_House_keep ho x = some (ho2, g) ∧ (∀ k : jZ → Option (jZ × Int32), (if g = 0 then k ho2 else k (up2 (up2 (up2 ho2 3 0 l) 4 0 i) 5 0 j) : Option (jZ × Int32)) = k (if most.toInt < x.toInt then up2 (up2 (up2 ho2 3 0 l) 4 0 i) 5 0 j else ho2)) ∧
    (if most.toInt < x.toInt then hRel (up2 (up2 (up2 ho2 3 0 l) 4 0 i) 5 0 j) x (if most = -2147483648 then x else if x < least then x else least) l i j else hRel ho2 most (if most = -2147483648 then x else if x < least then x else least) mm ma mb) := by
  have v0 : (-2147483648 : Int32).toInt = -2147483648 := rfl
  unfold f_House_keep
  rcases h with ⟨h0, h1⟩ | ⟨h0, h1, h2, h3, h4, h5, h6⟩
  · rw [h0, if_pos rfl]
    unfold f_House_keep_34
    rw [h0, if_pos rfl, bz_ok (Or.inr rfl), Option.bind_some]
    refine ⟨_, _, rfl, fun k => ?_, ?_⟩
    · rw [if_neg (by decide), h1, v0, if_pos hx]
    · rw [h1, v0, if_pos hx, if_pos rfl]
      right
      refine ⟨?_, hx, ?_, ?_, ?_, ?_, ?_⟩ <;> simp [up2]
  · have mv : most ≠ -2147483648 := fun e => by rw [e, v0] at h1; omega
    rw [h0, if_neg (by decide), h2]
    by_cases c : x ≤ most
    · rw [if_pos c]
      rw [i_le] at c
      unfold f_House_keep_34
      rw [h0, if_neg (by decide), h3, bz_ok (Or.inl rfl), Option.bind_some]
      by_cases d : least ≤ x
      · rw [if_pos d]
        rw [i_le] at d
        refine ⟨_, _, rfl, fun k => ?_, ?_⟩
        · rw [if_pos rfl, if_neg (by omega)]
        · rw [if_neg (by omega), if_neg mv, if_neg (by rw [i_lt]; omega)]
          right
          refine ⟨?_, h1, ?_, ?_, ?_, ?_, ?_⟩ <;> simp [up2, h4, h5, h6]
      · rw [if_neg d]
        rw [i_le] at d
        refine ⟨_, _, rfl, fun k => ?_, ?_⟩
        · rw [if_pos rfl, if_neg (by omega)]
        · rw [if_neg (by omega), if_neg mv, if_pos (by rw [i_lt]; omega)]
          right
          refine ⟨?_, h1, ?_, ?_, ?_, ?_, ?_⟩ <;> simp [up2, h4, h5, h6]
    · rw [if_neg c]
      rw [i_le] at c
      unfold f_House_keep_34
      rw [h0, if_neg (by decide), h3, bz_ok (Or.inr rfl), Option.bind_some]
      by_cases d : least ≤ x
      · rw [if_pos d]
        rw [i_le] at d
        refine ⟨_, _, rfl, fun k => ?_, ?_⟩
        · rw [if_neg (by decide), if_pos (by omega)]
        · rw [if_pos (by omega), if_neg mv, if_neg (by rw [i_lt]; omega)]
          right
          refine ⟨?_, hx, ?_, ?_, ?_, ?_, ?_⟩ <;> simp [up2]
      · rw [if_neg d]
        rw [i_le] at d
        refine ⟨_, _, rfl, fun k => ?_, ?_⟩
        · rw [if_neg (by decide), if_pos (by omega)]
        · rw [if_pos (by omega), if_neg mv, if_pos (by rw [i_lt]; omega)]
          right
          refine ⟨?_, hx, ?_, ?_, ?_, ?_, ?_⟩ <;> simp [up2]
theorem less_rng {q r : Int32} (h1 : 0 < q.toInt) (h2 : q.toInt ≤ 27) (h3 : 0 ≤ r.toInt) (h4 : r.toInt ≤ 27) : -2147483648 < (100 * (q - r) / q).toInt := by
  have e : (100 : Int32).toInt = 100 := rfl
  have a : (q - r).toInt = q.toInt - r.toInt := i_sub (by omega) (by omega)
  have b : (100 * (q - r)).toInt = 100 * (q.toInt - r.toInt) := by rw [i_mul (by rw [e, a]; omega) (by rw [e, a]; omega), e, a]
  rw [Int32.toInt_div, b]
  generalize hN : 100 * (q.toInt - r.toInt) = N
  have hb : -2700 ≤ N ∧ N ≤ 2700 := by omega
  have hd : N.tdiv q.toInt ≤ 2700 ∧ -2700 ≤ N.tdiv q.toInt := by
    have key : ∀ m : Int, 0 ≤ m → m ≤ 2700 → m.tdiv q.toInt ≤ 2700 ∧ 0 ≤ m.tdiv q.toInt := fun m m0 m1 => by
      rw [Int.tdiv_eq_ediv_of_nonneg m0]
      have := Int.ediv_le_self q.toInt m0
      have h3 : 0 ≤ m / q.toInt := Int.ediv_nonneg m0 (by omega)
      omega
    by_cases c : 0 ≤ N
    · have := key N c hb.2; omega
    · have := key (-N) (by omega) (by omega)
      rw [Int.neg_tdiv] at this
      omega
  rw [i_wrap (by omega) (by omega)]
  omega
theorem ho_40 {no mo m2 : jZ} (hn : iNotes no mo) (ht : ∀ j, j < 108 → m2 44 j = no 7 j) (x1 x2 b : Int32) (h1 : 0 ≤ x1.toInt) (h2 : x1.toInt < 12) (k8 : jZ → Int32 → Option (jZ × Int32)) (k21 : jZ → Int32 → Int32 → Option (jZ × Int32)) (k66 : jZ → Int32 → Int32 → Int32 → Int32 → Int32 → Int32 → Int32 → Option (jZ × Int32)) (k75 : jZ → Int32 → Int32 → Int32 → Int32 → Int32 → Int32 → Int32 → Int32 → Option (jZ × Int32)) (l i : Nat) (hl1 : 1 ≤ l) (hl3 : l ≤ 3) (hi : i ≤ 9) : ∀ (n j N1 N2 : Nat) (ho : jZ) (most least mm ma mb : Int32), 10 ≤ j + l + n → j ≤ 10 → n < N1 → n < N2 → hRel ho most least mm ma mb →
    ∃ (ho' : jZ) (most' least' mm' ma' mb' : Int32), f_House_seek_40 no x1 b k8 k21 N1 ho (nI l) (nI i) (nI j) = k21 ho' (nI l) (nI (i + 1)) ∧ f_Mo_house_87 x1 x2 k66 k75 N2 m2 b most least mm ma mb (nI l) (nI i) (nI j) = k75 m2 b most' least' mm' ma' mb' (nI l) (nI (i + 1)) ∧ hRel ho' most' least' mm' ma' mb' := by
  have i9 : (9 : Int32).toInt = 9 := rfl
  have i0 : (0 : Int32).toInt = 0 := rfl
  have tl : (nI l).toInt = l := nI_toInt (by omega)
  have ti : (nI i).toInt = i := nI_toInt (by omega)
  intro n
  induction n with
  | zero =>
    intro j N1 N2 ho most least mm ma mb hj hj2 hN1 hN2 hr
    obtain ⟨N1, rfl⟩ : ∃ k, N1 = k + 1 := ⟨N1 - 1, by omega⟩
    obtain ⟨N2, rfl⟩ : ∃ k, N2 = k + 1 := ⟨N2 - 1, by omega⟩
    have tj : (nI j).toInt = j := nI_toInt (by omega)
    have s : (nI j + nI l).toInt = j + l := by rw [i_add (by omega) (by omega)]; omega
    refine ⟨ho, most, least, mm, ma, mb, ?_, ?_, hr⟩
    · rw [f_House_seek_40, if_pos (by rw [i_lt]; omega), nI_1]
    · rw [f_Mo_house_87, if_pos (by rw [i_lt]; omega), nI_1]
  | succ n ih =>
    intro j N1 N2 ho most least mm ma mb hj hj2 hN1 hN2 hr
    obtain ⟨N1, rfl⟩ : ∃ k, N1 = k + 1 := ⟨N1 - 1, by omega⟩
    obtain ⟨N2, rfl⟩ : ∃ k, N2 = k + 1 := ⟨N2 - 1, by omega⟩
    have tj : (nI j).toInt = j := nI_toInt (by omega)
    have s : (nI j + nI l).toInt = j + l := by rw [i_add (by omega) (by omega)]; omega
    rw [f_House_seek_40, f_Mo_house_87]
    by_cases c : 9 < j + l
    · refine ⟨ho, most, least, mm, ma, mb, ?_, ?_, hr⟩
      · rw [if_pos (by rw [i_lt]; omega), nI_1]
      · rw [if_pos (by rw [i_lt]; omega), nI_1]
    · obtain ⟨q, q1, q2, q3⟩ := window_ok hn ht x1 (nI i) (nI l) h1 h2 (by omega) (by omega)
      obtain ⟨r, r1, r2, r3⟩ := window_ok hn ht x1 (nI j) (nI l) h1 h2 (by omega) (by omega)
      rw [if_neg (by rw [i_lt]; omega), if_neg (by rw [i_lt]; omega), q1, q2, r1, r2]
      simp only [Option.bind_some, nI_1]
      by_cases d : q ≤ 0
      · rw [if_pos d, if_pos d]
        exact ih (j + 1) N1 N2 ho most least mm ma mb (by omega) (by omega) (by omega) (by omega) hr
      · rw [if_neg d, if_neg d]
        rw [i_le, i0] at d
        by_cases e : r = -1
        · rw [if_pos e, if_pos e]
          exact ih (j + 1) N1 N2 ho most least mm ma mb (by omega) (by omega) (by omega) (by omega) hr
        · rw [if_neg e, if_neg e, nz_ok (by omega), Option.bind_some, Option.bind_some]
          have q4 := q3.resolve_left (fun w => d (by rw [w]; decide))
          have r4 := r3.resolve_left e
          have hx := less_rng (q := q) (r := r) (by omega) (by omega) (by omega) (by omega)
          generalize 100 * (q - r) / q = x at hx
          obtain ⟨ho2, g, k1, k2, k3⟩ := keep_ok hr x (nI l) (nI i) (nI j) hx
          rw [k1, Option.bind_some]
          dsimp only
          rw [k2 (fun z => f_House_seek_40 no x1 b k8 k21 N1 z (nI l) (nI i) (nI (j + 1)))]
          have R : (if most = (-2147483648) then f_Mo_house_166 x1 x2 k66 k75 (fun mo_z v3 v4 v5 v6 v7 v8 v9 v10 v11 => f_Mo_house_87 x1 x2 k66 k75 N2 mo_z v3 v4 v5 v6 v7 v8 v9 v10 v11) m2 b most mm ma mb (nI l) (nI i) (nI j) x x else f_Mo_house_166 x1 x2 k66 k75 (fun mo_z v3 v4 v5 v6 v7 v8 v9 v10 v11 => f_Mo_house_87 x1 x2 k66 k75 N2 mo_z v3 v4 v5 v6 v7 v8 v9 v10 v11) m2 b most mm ma mb (nI l) (nI i) (nI j) x (if x < least then x else least)) = f_Mo_house_166 x1 x2 k66 k75 (fun mo_z v3 v4 v5 v6 v7 v8 v9 v10 v11 => f_Mo_house_87 x1 x2 k66 k75 N2 mo_z v3 v4 v5 v6 v7 v8 v9 v10 v11) m2 b most mm ma mb (nI l) (nI i) (nI j) x (if most = -2147483648 then x else if x < least then x else least) := by
            by_cases w : most = -2147483648
            · rw [if_pos w, if_pos w]
            · rw [if_neg w, if_neg w]
          rw [R]
          unfold f_Mo_house_166
          by_cases w : most.toInt < x.toInt
          · rw [if_pos w] at k3 ⊢
            rw [if_pos (by rw [i_lt]; exact w), nI_1]
            exact ih (j + 1) N1 N2 _ x _ _ _ _ (by omega) (by omega) (by omega) (by omega) k3
          · rw [if_neg w] at k3 ⊢
            rw [if_neg (by rw [i_lt]; exact w), nI_1]
            exact ih (j + 1) N1 N2 _ most _ _ _ _ (by omega) (by omega) (by omega) (by omega) k3
theorem ho_21 {no mo m2 : jZ} (hn : iNotes no mo) (ht : ∀ j, j < 108 → m2 44 j = no 7 j) (x1 x2 b : Int32) (h1 : 0 ≤ x1.toInt) (h2 : x1.toInt < 12) (B : Nat) (hb : b = nI B) (hB8 : B ≤ 8) (k8 : jZ → Int32 → Option (jZ × Int32)) (k66 : jZ → Int32 → Int32 → Int32 → Int32 → Int32 → Int32 → Int32 → Option (jZ × Int32)) (l : Nat) (hl1 : 1 ≤ l) (hl3 : l ≤ 3) : ∀ (n i N1 N2 : Nat) (ho : jZ) (most least mm ma mb : Int32), B + 1 ≤ i + l + n → i ≤ 9 → n < N1 → n < N2 → hRel ho most least mm ma mb →
    ∃ (ho' : jZ) (most' least' mm' ma' mb' : Int32), f_House_seek_21 no x1 b k8 N1 ho (nI l) (nI i) = k8 ho' (nI (l + 1)) ∧ f_Mo_house_75 x1 x2 k66 N2 m2 b most least mm ma mb (nI l) (nI i) = k66 m2 b most' least' mm' ma' mb' (nI (l + 1)) ∧ hRel ho' most' least' mm' ma' mb' := by
  have i9 : (9 : Int32).toInt = 9 := rfl
  have tl : (nI l).toInt = l := nI_toInt (by omega)
  have tb : b.toInt = B := by rw [hb]; exact nI_toInt (by omega)
  intro n
  induction n with
  | zero =>
    intro i N1 N2 ho most least mm ma mb hi hi2 hN1 hN2 hr
    obtain ⟨N1, rfl⟩ : ∃ k, N1 = k + 1 := ⟨N1 - 1, by omega⟩
    obtain ⟨N2, rfl⟩ : ∃ k, N2 = k + 1 := ⟨N2 - 1, by omega⟩
    have ti : (nI i).toInt = i := nI_toInt (by omega)
    have s : (nI i + nI l).toInt = i + l := by rw [i_add (by omega) (by omega)]; omega
    refine ⟨ho, most, least, mm, ma, mb, ?_, ?_, hr⟩
    · rw [f_House_seek_21, if_pos (by rw [i_lt]; omega), nI_1]
    · rw [f_Mo_house_75, if_pos (by rw [i_lt]; omega), nI_1]
  | succ n ih =>
    intro i N1 N2 ho most least mm ma mb hi hi2 hN1 hN2 hr
    obtain ⟨N1, rfl⟩ : ∃ k, N1 = k + 1 := ⟨N1 - 1, by omega⟩
    obtain ⟨N2, rfl⟩ : ∃ k, N2 = k + 1 := ⟨N2 - 1, by omega⟩
    have ti : (nI i).toInt = i := nI_toInt (by omega)
    have s : (nI i + nI l).toInt = i + l := by rw [i_add (by omega) (by omega)]; omega
    rw [f_House_seek_21, f_Mo_house_75]
    by_cases c : B < i + l
    · refine ⟨ho, most, least, mm, ma, mb, ?_, ?_, hr⟩
      · rw [if_pos (by rw [i_lt]; omega), nI_1]
      · rw [if_pos (by rw [i_lt]; omega), nI_1]
    · rw [if_neg (by rw [i_lt]; omega), if_neg (by rw [i_le]; omega), if_neg (by rw [i_lt]; omega)]
      obtain ⟨ho', a1, a2, a3, a4, a5, g1, g2, g3⟩ := ho_40 hn ht x1 x2 b h1 h2 k8 (fun ho_z v4 v5 => f_House_seek_21 no x1 b k8 N1 ho_z v4 v5) k66 (fun mo_z v3 v4 v5 v6 v7 v8 v9 v10 => f_Mo_house_75 x1 x2 k66 N2 mo_z v3 v4 v5 v6 v7 v8 v9 v10) l i hl1 hl3 hi2 10 B FU FU ho most least mm ma mb (by omega) (by omega) (by decide) (by decide) hr
      rw [← hb] at g1 g2
      rw [g1, g2]
      exact ih (i + 1) N1 N2 ho' a1 a2 a3 a4 a5 (by omega) (by omega) (by omega) (by omega) g3
theorem ho_8 {no mo m2 : jZ} (hn : iNotes no mo) (ht : ∀ j, j < 108 → m2 44 j = no 7 j) (x1 x2 b : Int32) (h1 : 0 ≤ x1.toInt) (h2 : x1.toInt < 12) (B : Nat) (hb : b = nI B) (hB8 : B ≤ 8) (hB0 : 0 < B) : ∀ (n l N1 N2 : Nat) (ho : jZ) (most least mm ma mb : Int32), 4 ≤ l + n → 1 ≤ l → l ≤ 4 → n < N1 → n < N2 → hRel ho most least mm ma mb →
    ∃ (ho' : jZ) (most' least' mm' ma' mb' : Int32), f_House_seek_8 no x1 b N1 ho (nI l) = some (ho', ho' 0 0) ∧ f_Mo_house_66 x1 x2 N2 m2 b most least mm ma mb (nI l) = (if most' = (-2147483648) then some (m2, (-2147483648)) else (if x2 = 0 then some (m2, most') else (if x2 = 1 then some (m2, least') else (if x2 = 2 then some (m2, mm') else (if x2 = 3 then some (m2, ma') else some (m2, mb')))))) ∧ hRel ho' most' least' mm' ma' mb' := by
  have i3 : (3 : Int32).toInt = 3 := rfl
  have i0 : (0 : Int32).toInt = 0 := rfl
  have tb : b.toInt = B := by rw [hb]; exact nI_toInt (by omega)
  intro n
  induction n with
  | zero =>
    intro l N1 N2 ho most least mm ma mb hl hl1 hl4 hN1 hN2 hr
    obtain ⟨N1, rfl⟩ : ∃ k, N1 = k + 1 := ⟨N1 - 1, by omega⟩
    obtain ⟨N2, rfl⟩ : ∃ k, N2 = k + 1 := ⟨N2 - 1, by omega⟩
    have tl : (nI l).toInt = l := nI_toInt (by omega)
    have hb0 : ho 0 0 = 0 ∨ ho 0 0 = 1 := hr.elim (fun z => Or.inl z.1) (fun z => Or.inr z.1)
    refine ⟨ho, most, least, mm, ma, mb, ?_, ?_, hr⟩
    · rw [f_House_seek_8, if_pos (by rw [i_lt]; omega), bz_ok hb0, Option.bind_some]
    · rw [f_Mo_house_66, if_pos (by rw [i_lt]; omega)]
  | succ n ih =>
    intro l N1 N2 ho most least mm ma mb hl hl1 hl4 hN1 hN2 hr
    obtain ⟨N1, rfl⟩ : ∃ k, N1 = k + 1 := ⟨N1 - 1, by omega⟩
    obtain ⟨N2, rfl⟩ : ∃ k, N2 = k + 1 := ⟨N2 - 1, by omega⟩
    have tl : (nI l).toInt = l := nI_toInt (by omega)
    have hb0 : ho 0 0 = 0 ∨ ho 0 0 = 1 := hr.elim (fun z => Or.inl z.1) (fun z => Or.inr z.1)
    rw [f_House_seek_8, f_Mo_house_66]
    by_cases c : 3 < l
    · refine ⟨ho, most, least, mm, ma, mb, ?_, ?_, hr⟩
      · rw [if_pos (by rw [i_lt]; omega), bz_ok hb0, Option.bind_some]
      · rw [if_pos (by rw [i_lt]; omega)]
    · rw [if_neg (by rw [i_lt]; omega), if_neg (by rw [i_le]; omega), if_neg (by rw [i_lt]; omega)]
      obtain ⟨ho', a1, a2, a3, a4, a5, g1, g2, g3⟩ := ho_21 hn ht x1 x2 b h1 h2 B hb hB8 (fun ho_z v4 => f_House_seek_8 no x1 b N1 ho_z v4) (fun mo_z v3 v4 v5 v6 v7 v8 v9 => f_Mo_house_66 x1 x2 N2 mo_z v3 v4 v5 v6 v7 v8 v9) l hl1 (by omega) 9 0 FU FU ho most least mm ma mb (by omega) (by omega) (by decide) (by decide) hr
      rw [show f_House_seek_21 no x1 b (fun ho_z v4 => f_House_seek_8 no x1 b N1 ho_z v4) FU ho (nI l) 0 = _ from g1, show f_Mo_house_75 x1 x2 (fun mo_z v3 v4 v5 v6 v7 v8 v9 => f_Mo_house_66 x1 x2 N2 mo_z v3 v4 v5 v6 v7 v8 v9) FU m2 b most least mm ma mb (nI l) 0 = _ from g2]
      exact ih (l + 1) N1 N2 ho' a1 a2 a3 a4 a5 (by omega) (by omega) (by omega) (by omega) (by omega) g3
/-- house -/
theorem op_house {ro no mo ho : jZ} (hp : iPlaces ro mo) (hn : iNotes no mo) (x1 x2 : Int32) : ∃ ho2 m2 r, f_WP_house ro no ho x1 x2 = some (ho2, r) ∧ f_Mo_house mo x1 x2 = some (m2, r) ∧ mRel mo m2 := by
  have i0 : (0 : Int32).toInt = 0 := rfl
  have i1 : (1 : Int32).toInt = 1 := rfl
  have i2 : (2 : Int32).toInt = 2 := rfl
  have i3 : (3 : Int32).toInt = 3 := rfl
  have i4 : (4 : Int32).toInt = 4 := rfl
  have v0 : (-2147483648 : Int32).toInt = -2147483648 := rfl
  have P0 := hp.2.1
  have P12 := hp.2.2.1
  by_cases c : 0 ≤ x1.toInt ∧ x1.toInt < (mo 4 0).toInt
  · generalize hP : x1.toInt.toNat = p
    obtain ⟨-, -, -, ⟨g11, r0, r8⟩, -⟩ := hp.2.2.2.2.2.2.2 p (by omega)
    obtain ⟨m2, k1, k2, k3, k4⟩ := knows_i (hn.to (m0 mo 0 0))
    have r3 : mRel mo m2 := (m0 mo 0 0).tr k2
    generalize hs : mo 11 p = s at g11 r0 r8
    have s11 : m2 11 p = s := by rw [r3 11 (by unfold mKeep; omega)]; exact hs
    have W2 : f_Mo_house mo x1 x2 = (if (0 ≤ x2.toInt ∧ x2.toInt ≤ 4) ∧ ¬ s = 0 then f_Mo_house_66 x1 x2 FU m2 s (-2147483648) 0 0 0 0 1 else some (up2 mo 0 0 0, -2147483648)) := by
      unfold f_Mo_house
      rw [isPlace_eq, show (up2 mo 0 0 0) 4 = mo 4 from up2_k (by decide), if_pos c, Option.bind_some, if_neg (by decide), k1, ix_ok (by omega) (by omega)]
      simp only [Option.bind_some, i_tn, hP, s11, hs, i_lt, i_eq, i0, i4]
      repeat' split
      all_goals first | rfl | (exfalso; omega)
    rw [W2]
    unfold f_WP_house
    rw [has_is hp, isPlace_eq, if_pos c, Option.bind_some, if_neg (by decide), ix_ok (by omega) (by omega), Option.bind_some, i_tn, hP, g11]
    by_cases d : s = 0
    · rw [if_neg (fun e => e.2 d)]
      have H : f_House_seek ho no x1 s = some (up2 ho 0 0 0, 0) := by
        unfold f_House_seek
        have hF : FU = 999999 + 1 := by decide
        rw [hF, f_House_seek_8, if_neg (by decide), d, if_pos (by decide), up2_s, bz_ok (Or.inl rfl), Option.bind_some]
      rw [H, Option.bind_some, if_pos rfl]
      exact ⟨_, _, _, rfl, rfl, m0 mo 0 0⟩
    · have s0 : s.toInt ≠ 0 := fun e => d (i_ext (e.trans i0.symm))
      obtain ⟨ho', a1, a2, a3, a4, a5, g1, g2, g3⟩ := ho_8 hn k4 x1 x2 s (by omega) (by omega) s.toInt.toNat (i_ext (by rw [nI_toInt (by omega)]; omega)) (by omega) (by omega) 4 1 FU FU (up2 ho 0 0 0) (-2147483648) 0 0 0 0 (by omega) (by omega) (by omega) (by decide) (by decide) (Or.inl ⟨up2_s, rfl⟩)
      have H : f_House_seek ho no x1 s = some (ho', ho' 0 0) := g1
      rw [H, Option.bind_some, show f_Mo_house_66 x1 x2 FU m2 s (-2147483648) 0 0 0 0 1 = _ from g2]
      dsimp only
      rcases g3 with ⟨z0, z1⟩ | ⟨z0, z1, z2, z3, z4, z5, z6⟩
      · rw [z0, if_pos rfl, if_pos z1]
        by_cases e : (0 ≤ x2.toInt ∧ x2.toInt ≤ 4) ∧ ¬ s = 0
        · rw [if_pos e]; exact ⟨_, _, _, rfl, rfl, r3⟩
        · rw [if_neg e]; exact ⟨_, _, _, rfl, rfl, m0 mo 0 0⟩
      · have mv : a1 ≠ -2147483648 := fun e => by rw [e, v0] at z1; omega
        rw [z0, if_neg (by decide), if_neg mv, z2, z3, z4, z5, z6]
        by_cases e : (0 ≤ x2.toInt ∧ x2.toInt ≤ 4) ∧ ¬ s = 0
        · rw [if_pos e]
          have hx : x2 = 0 ∨ x2 = 1 ∨ x2 = 2 ∨ x2 = 3 ∨ x2 = 4 := by
            simp only [i_eq, i0, i1, i2, i3, i4]; omega
          rcases hx with h | h | h | h | h <;> subst h <;> exact ⟨_, _, _, rfl, rfl, r3⟩
        · have e' : ¬ (0 ≤ x2.toInt ∧ x2.toInt ≤ 4) := fun q => e ⟨q, d⟩
          rw [if_neg e, if_neg (by rw [i_eq]; omega), if_neg (by rw [i_eq]; omega), if_neg (by rw [i_eq]; omega), if_neg (by rw [i_eq]; omega), if_neg (by rw [i_eq]; omega)]
          exact ⟨_, _, _, rfl, rfl, m0 mo 0 0⟩
  · refine ⟨ho, up2 mo 0 0 0, -2147483648, ?_, ?_, m0 mo 0 0⟩
    · unfold f_WP_house
      rw [has_is hp, isPlace_eq, if_neg c, Option.bind_some, if_pos rfl]
    · unfold f_Mo_house
      rw [isPlace_eq, show (up2 mo 0 0 0) 4 = mo 4 from up2_k (by decide), if_neg c, Option.bind_some, if_pos rfl]
