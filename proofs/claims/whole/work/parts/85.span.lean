theorem bit_get (x : Int32) (k : Nat) (h : k < 32) : ((x >>> (nI k &&& 31)) &&& 1 = 0) ↔ x.toBitVec.getLsbD k = false := by
  have e : ∀ n, n < 32 → ((nI n &&& 31).toBitVec.smod 32).toNat = n := by decide
  have g : ((x >>> (nI k &&& 31)) &&& 1).toBitVec.getLsbD 0 = x.toBitVec.getLsbD k := by
    rw [Int32.toBitVec_and, BitVec.getLsbD_and, Int32.toBitVec_shiftRight]
    have o : (Int32.toBitVec 1).getLsbD 0 = true := by decide
    rw [o, Bool.and_true]
    show (x.toBitVec.sshiftRight ((nI k &&& 31).toBitVec.smod 32).toNat).getLsbD 0 = _
    rw [e k h, BitVec.getLsbD_sshiftRight]
    simp [h]
  rcases bit01 (x >>> (nI k &&& 31)) with c | c
  · rw [c] at g ⊢
    have z : (Int32.toBitVec 0).getLsbD 0 = false := by decide
    rw [z] at g
    exact ⟨fun _ => g.symm, fun _ => rfl⟩
  · rw [c] at g ⊢
    have z : (Int32.toBitVec 1).getLsbD 0 = true := by decide
    rw [z] at g
    exact ⟨fun h => absurd h (by decide), fun h => by rw [h] at g; exact absurd g (by decide)⟩
theorem ml_4 (od : jY) (M : Nat → Int) (hM : ∀ k, k < 5 → (od 0 k).toInt = M k) : ∀ (n i N b : Nat), i + n = 5 → n < N → b < i → (∀ k, k < i → M k ≤ M b) → (∀ k, k < b → M k < M b) → ∃ b', f_Odds_mostLikely_4 od N (nI b) (nI i) = some (nI b') ∧ b' < 5 ∧ (∀ k, k < 5 → M k ≤ M b') ∧ (∀ k, k < b' → M k < M b') := by
  have i5 : (5 : Int32).toInt = 5 := rfl
  intro n
  induction n with
  | zero =>
    intro i N b hi hN hb h1 h2
    obtain ⟨N, rfl⟩ : ∃ k, N = k + 1 := ⟨N - 1, by omega⟩
    have : i = 5 := by omega
    subst this
    exact ⟨b, by rw [f_Odds_mostLikely_4, if_pos (by decide)], hb, h1, h2⟩
  | succ n ih =>
    intro i N b hi hN hb h1 h2
    obtain ⟨N, rfl⟩ : ∃ k, N = k + 1 := ⟨N - 1, by omega⟩
    have ti : (nI i).toInt = i := nI_toInt (by omega)
    have tb : (nI b).toInt = b := nI_toInt (by omega)
    rw [f_Odds_mostLikely_4, if_neg (by rw [i_le]; omega), ix_ok (by omega) (by omega), ix_ok (by omega) (by omega), Option.bind_some, Option.bind_some, i_tn, i_tn, ti, tb, Int.toNat_natCast, Int.toNat_natCast, nI_1]
    by_cases c : lg_cmp (od 0 i) (od 0 b) ≤ 0
    · rw [if_pos c]
      rw [lc_le, hM i (by omega), hM b (by omega)] at c
      refine ih (i + 1) N b (by omega) (by omega) (by omega) (fun k hk => ?_) h2
      by_cases e : k = i
      · rw [e]; exact c
      · exact h1 k (by omega)
    · rw [if_neg c]
      rw [lc_le, hM i (by omega), hM b (by omega)] at c
      refine ih (i + 1) N i (by omega) (by omega) (by omega) (fun k hk => ?_) (fun k hk => ?_)
      · by_cases e : k = i
        · rw [e]; omega
        · have := h1 k (by omega); omega
      · have := h1 k hk; omega
def isBest (A : Nat → Int) (U : Nat → Bool) (k : Nat) (v : Int32) : Prop := (v = -1 ∧ ∀ j, j < k → U j = true) ∨ (∃ b, b < k ∧ v = nI b ∧ U b = false ∧ (∀ j, j < k → U j = false → A j ≤ A b) ∧ (∀ j, j < b → U j = false → A j < A b))
theorem sp_119 (m2 : jZ) (A : Nat → Int) (x1 x2 x3 x4 : Int32) (K : Nat) (hK5 : K ≤ 5) (h3 : (m2 3 0).toInt = K) (L : ∀ k, k < K → ∃ q, f_Mo_likelyOf m2 (nI k) x1 x2 x3 = some q ∧ q.toInt = A k) (U : Nat → Bool) (v9 : Int32) (hU : ∀ j, j < 5 → v9.toBitVec.getLsbD j = U j) (k97 : jZ → Int64 → Int64 → Int32 → Int32 → Int32 → Option (jZ × Int32)) (v5 v7 : Int64) (v10 v11 : Int32) : ∀ (n k N : Nat) (v12 : Int32), k + n = K → n < N → isBest A U k v12 → ∃ w, f_Mo_span_119 x1 x2 x3 x4 k97 N m2 v5 v7 v9 v10 v11 v12 (nI k) = ((f_Mo_likelyOf m2 w x1 x2 x3).bind fun q18 => (if v10 = (-2147483648) then (f_Mo_meanOf m2 w).bind fun q25 => (f_Mo_meanOf m2 w).bind fun q27 => k97 m2 v5 (v7 + q18) (v9 ||| (1 <<< (w &&& 31))) q25 (if v11 < q27 then q27 else v11) else (f_Mo_meanOf m2 w).bind fun q21 => (f_Mo_meanOf m2 w).bind fun q23 => k97 m2 v5 (v7 + q18) (v9 ||| (1 <<< (w &&& 31))) (if q21 < v10 then q21 else v10) (if v11 < q23 then q23 else v11))) ∧ isBest A U K w := by
  have im : (-1 : Int32).toInt = -1 := rfl
  intro n
  induction n with
  | zero =>
    intro k N v12 hk hN hb
    obtain ⟨N, rfl⟩ : ∃ k, N = k + 1 := ⟨N - 1, by omega⟩
    have tk : (nI k).toInt = k := nI_toInt (by omega)
    have : k = K := by omega
    subst this
    exact ⟨v12, by rw [f_Mo_span_119, if_pos (by rw [i_le]; omega)], hb⟩
  | succ n ih =>
    intro k N v12 hk hN hb
    obtain ⟨N, rfl⟩ : ∃ k, N = k + 1 := ⟨N - 1, by omega⟩
    have tk : (nI k).toInt = k := nI_toInt (by omega)
    obtain ⟨q, q1, q2⟩ := L k (by omega)
    have sp : ∀ j, j < k + 1 → j < k ∨ j = k := fun j hj => by omega
    rw [f_Mo_span_119, if_neg (by rw [i_le]; omega)]
    by_cases c : U k = false
    · rw [if_pos ((bit_get v9 k (by omega)).mpr ((hU k (by omega)).trans c)), nI_1]
      rcases hb with ⟨a1, a2⟩ | ⟨b, a1, a2, a3, a4, a5⟩
      · rw [if_pos a1]
        refine ih (k + 1) N (nI k) (by omega) (by omega) (Or.inr ⟨k, by omega, rfl, c, fun j hj hj2 => ?_, fun j hj hj2 => ?_⟩)
        · rcases sp j hj with h | h
          · rw [a2 j h] at hj2; exact absurd hj2 (by decide)
          · rw [h]; omega
        · rw [a2 j hj] at hj2; exact absurd hj2 (by decide)
      · have tb : (nI b).toInt = b := nI_toInt (by omega)
        obtain ⟨r, r1, r2⟩ := L b (by omega)
        rw [if_neg (by rw [a2, i_eq]; omega), q1, Option.bind_some, a2, r1, Option.bind_some]
        by_cases d : lg_cmp q r ≤ 0
        · rw [if_pos d]
          rw [lc_le, q2, r2] at d
          refine ih (k + 1) N (nI b) (by omega) (by omega) (Or.inr ⟨b, by omega, rfl, a3, fun j hj hj2 => ?_, a5⟩)
          rcases sp j hj with h | h
          · exact a4 j h hj2
          · rw [h]; exact d
        · rw [if_neg d]
          rw [lc_le, q2, r2] at d
          refine ih (k + 1) N (nI k) (by omega) (by omega) (Or.inr ⟨k, by omega, rfl, c, fun j hj hj2 => ?_, fun j hj hj2 => ?_⟩)
          · rcases sp j hj with h | h
            · have := a4 j h hj2; omega
            · rw [h]; omega
          · have := a4 j hj hj2; omega
    · have c' : U k = true := by simpa using c
      rw [if_neg (fun e => c ((hU k (by omega)).symm.trans ((bit_get v9 k (by omega)).mp e))), nI_1]
      refine ih (k + 1) N v12 (by omega) (by omega) ?_
      rcases hb with ⟨a1, a2⟩ | ⟨b, a1, a2, a3, a4, a5⟩
      · exact Or.inl ⟨a1, fun j hj => (sp j hj).elim (a2 j) (fun h => by rw [h]; exact c')⟩
      · exact Or.inr ⟨b, by omega, a2, a3, fun j hj hj2 => (sp j hj).elim (fun h => a4 j h hj2) (fun h => absurd (by rw [← h]; exact hj2) c), a5⟩
def msk (A : Nat → Int) (U : Nat → Bool) (k : Nat) : Int := if U k = true then 0 else A k
theorem sI_upd (f g : Nat → Int) (b : Nat) (d : Int) : ∀ n, b < n → (∀ k, k < n → k ≠ b → g k = f k) → g b = f b + d → sI g n = sI f n + d
  | 0, h, _, _ => by omega
  | n + 1, h, h1, h2 => by
    rw [sI, sI]
    by_cases c : b = n
    · subst c
      rw [sI_cong b (fun k hk => h1 k (by omega) (by omega)), h2]; omega
    · rw [sI_upd f g b d n (by omega) (fun k hk hn => h1 k (by omega) hn) h2, h1 n (by omega) (fun e => c e.symm)]; omega
theorem sp_loop {ki no mo m2 : jZ} (A : Nat → Int) (hA : ∀ k, 0 ≤ A k ∧ A k ≤ 99000000) (K : Nat) (hK5 : K ≤ 5) (hAK : ∀ k, K ≤ k → A k = 0) (x1 x2 x3 x4 : Int32) (h3 : (m2 3 0).toInt = K) (L : ∀ k, k < K → ∃ q, f_Mo_likelyOf m2 (nI k) x1 x2 x3 = some q ∧ q.toInt = A k) (Mn : ∀ k, k < K → f_Mo_meanOf m2 (nI k) = some (ki 4 k) ∧ 0 ≤ (ki 4 k).toInt ∧ (ki 4 k).toInt ≤ 90) (v5 : Int64) (h5 : v5.toInt = sI A 5) : ∀ (n i N1 N2 : Nat) (U : Nat → Bool) (od_z : jZ) (od_y : jY) (v7 : Int64) (any v9 v10 v11 : Int32), i + n = 5 → n < N1 → n < N2 → sI (fun k => if U k = true then 1 else 0) 5 = i → (∀ k, k < 5 → (od_y 0 k).toInt = msk A U k) → v7.toInt + sI (msk A U) 5 = sI A 5 → (∀ j, j < 5 → v9.toBitVec.getLsbD j = U j) → ((any = 0 ∧ v10 = -2147483648 ∧ v11 = 0) ∨ (any = 1 ∧ 0 ≤ v10.toInt ∧ v10 = od_z 4 0 ∧ v11 = od_z 5 0)) →
    ∃ (od_z2 : jZ) (od_y2 : jY) (any2 w10 w11 : Int32), f_Odds_seekSpan_24 ki no x1 x2 x3 N1 od_z od_y v5 v7 any (nI i) = some (od_z2, od_y2, any2) ∧ f_Mo_span_97 x1 x2 x3 x4 N2 m2 v5 v7 v9 v10 v11 = (if x4 = 0 then some (m2, w10) else some (m2, w11)) ∧ ((any2 = any ∧ sI (msk A U) 5 * 20 ≤ sI A 5 ∧ w10 = v10 ∧ w11 = v11 ∧ od_z2 = od_z) ∨ (any2 = 1 ∧ w10 = od_z2 4 0 ∧ w11 = od_z2 5 0)) := by
  have i5 : (5 : Int32).toInt = 5 := rfl
  have l20 : (20 : Int64).toInt = 20 := rfl
  have l19 : (19 : Int64).toInt = 19 := rfl
  have bA := sI_bd (f := A) 5 (fun k _ => hA k)
  have m19 : (19 * v5).toInt = 19 * sI A 5 := by rw [l_mul (by rw [l19, h5]; omega) (by rw [l19, h5]; omega), l19, h5]
  have hmsk : ∀ U k, 0 ≤ msk A U k ∧ msk A U k ≤ 99000000 := fun U k => by
    unfold msk; have := hA k; split <;> omega
  intro n
  induction n with
  | zero =>
    intro i N1 N2 U od_z od_y v7 any v9 v10 v11 hi hN1 hN2 hc hM ht hU hR
    obtain ⟨N1, rfl⟩ : ∃ k, N1 = k + 1 := ⟨N1 - 1, by omega⟩
    obtain ⟨N2, rfl⟩ : ∃ k, N2 = k + 1 := ⟨N2 - 1, by omega⟩
    have : i = 5 := by omega
    subst this
    have all1 : ∀ k, k < 5 → U k = true := by
      simp only [sI] at hc
      have a0 : ∀ k, (if U k = true then (1 : Int) else 0) ≤ 1 := fun k => by split <;> omega
      have b0 := a0 0
      have b1 := a0 1
      have b2 := a0 2
      have b3 := a0 3
      have b4 := a0 4
      intro k hk
      have e : (if U k = true then (1 : Int) else 0) = 1 := by
        have : k = 0 ∨ k = 1 ∨ k = 2 ∨ k = 3 ∨ k = 4 := by omega
        rcases this with h | h | h | h | h <;> rw [h] <;> omega
      by_cases g : U k = true
      · exact g
      · rw [if_neg g] at e; omega
    have z : sI (msk A U) 5 = 0 := by
      rw [sI_cong (g := fun _ => 0) 5 (fun k hk => by unfold msk; rw [if_pos (all1 k hk)])]
      exact sI_zero 5 (fun _ => rfl)
    have m20 : (20 * v7).toInt = 20 * sI A 5 := by
      have : v7.toInt = sI A 5 := by omega
      rw [l_mul (by rw [l20, this]; omega) (by rw [l20, this]; omega), l20, this]
    have hb : any = 0 ∨ any = 1 := hR.elim (fun z => Or.inl z.1) (fun z => Or.inr z.1)
    refine ⟨od_z, od_y, any, v10, v11, ?_, ?_, Or.inl ⟨rfl, by omega, rfl, rfl, rfl⟩⟩
    · rw [f_Odds_seekSpan_24, if_pos (by decide), bz_ok hb, Option.bind_some]
    · rw [f_Mo_span_97, if_pos (by rw [lc_ge]; omega)]
  | succ n ih =>
    intro i N1 N2 U od_z od_y v7 any v9 v10 v11 hi hN1 hN2 hc hM ht hU hR
    obtain ⟨N1, rfl⟩ : ∃ k, N1 = k + 1 := ⟨N1 - 1, by omega⟩
    obtain ⟨N2, rfl⟩ : ∃ k, N2 = k + 1 := ⟨N2 - 1, by omega⟩
    have ti : (nI i).toInt = i := nI_toInt (by omega)
    have bM := sI_bd (f := msk A U) 5 (fun k _ => hmsk U k)
    have bM2 : sI (msk A U) 5 ≤ sI A 5 := by
      have := sI_le2 (f := msk A U) (g := A) (c := 1) 5 (fun k _ => by unfold msk; have := hA k; split <;> omega)
      omega
    have m20 : (20 * v7).toInt = 20 * v7.toInt := by rw [l_mul (by rw [l20]; omega) (by rw [l20]; omega), l20]
    have hb : any = 0 ∨ any = 1 := hR.elim (fun z => Or.inl z.1) (fun z => Or.inr z.1)
    rw [f_Odds_seekSpan_24, f_Mo_span_97, if_neg (by rw [i_le]; omega)]
    by_cases c : 0 ≤ lg_cmp (20 * v7) (19 * v5)
    · rw [if_pos c, if_pos c, bz_ok hb, Option.bind_some]
      rw [lc_ge, m19, m20] at c
      exact ⟨od_z, od_y, any, v10, v11, rfl, rfl, Or.inl ⟨rfl, by omega, rfl, rfl, rfl⟩⟩
    · rw [if_neg c, if_neg c]
      rw [lc_ge, m19, m20] at c
      obtain ⟨b, e1, e2, e3, e4⟩ := ml_4 od_y (msk A U) hM 4 1 FU 0 rfl (by decide) (by omega) (fun k hk => by rw [show k = 0 by omega]; omega) (fun k hk => by omega)
      have E1 : f_Odds_mostLikely od_y = some (nI b) := e1
      have tb : (nI b).toInt = b := nI_toInt (by omega)
      have pos : 0 < msk A U b := by
        have := sI_bd (f := msk A U) (c := msk A U b) 5 (fun k hk => ⟨(hmsk U k).1, e3 k hk⟩)
        omega
      have Ub : U b = false := by
        by_cases g : U b = true
        · unfold msk at pos; rw [if_pos g] at pos; omega
        · simpa using g
      have Mb : msk A U b = A b := by unfold msk; rw [Ub]; rfl
      have bK : b < K := by
        by_cases g : b < K
        · exact g
        · have := hAK b (by omega); omega
      obtain ⟨w, s1, s2⟩ := sp_119 m2 A x1 x2 x3 x4 K hK5 h3 L U v9 hU (fun mo_z v5 v7 v9 v10 v11 => f_Mo_span_97 x1 x2 x3 x4 N2 mo_z v5 v7 v9 v10 v11) v5 v7 v10 v11 K 0 FU (-1) (by omega) (by unfold FU; omega) (Or.inl ⟨rfl, fun j hj => absurd hj (Nat.not_lt_zero j)⟩)
      have wb : w = nI b := by
        rcases s2 with ⟨a1, a2⟩ | ⟨b', a1, a2, a3, a4, a5⟩
        · rw [a2 b bK] at Ub; exact absurd Ub (by decide)
        · have Mb' : msk A U b' = A b' := by unfold msk; rw [a3]; rfl
          have q1 := a4 b bK Ub
          have q2 := e3 b' (by omega)
          rw [a2]
          by_cases g : b < b'
          · have := a5 b g Ub; omega
          · by_cases g2 : b' < b
            · have := e4 b' g2; omega
            · congr 1; omega
      subst wb
      obtain ⟨q, q1, q2⟩ := L b bK
      obtain ⟨mn, mn0, mn9⟩ := Mn b bK
      rw [E1, Option.bind_some, ix_ok (by omega) (by omega), Option.bind_some, i_tn, tb, Int.toNat_natCast, show f_Mo_span_119 x1 x2 x3 x4 (fun mo_z v5 v7 v9 v10 v11 => f_Mo_span_97 x1 x2 x3 x4 N2 mo_z v5 v7 v9 v10 v11) FU m2 v5 v7 v9 v10 v11 (-1) 0 = _ from s1, q1, Option.bind_some, mn, Option.bind_some, Option.bind_some, Option.bind_some, Option.bind_some]
      have hqb : od_y 0 b = q := l_ext (by rw [hM b e2, Mb, q2])
      generalize hmean : ki 4 b = mean at mn0 mn9
      have X107 : ∀ (oz : jZ) (s : Int32), f_Odds_seekSpan_107 ki no x1 x2 x3 (fun od_z od_y v5 v7 v9 v10 => f_Odds_seekSpan_24 ki no x1 x2 x3 N1 od_z od_y v5 v7 v9 v10) oz od_y v5 v7 (nI i) (nI b) s = f_Odds_seekSpan_24 ki no x1 x2 x3 N1 (up2 oz 5 0 s) (up2 od_y 0 b 0) v5 (v7 + q) 1 (nI (i + 1)) := fun oz s => by
        unfold f_Odds_seekSpan_107
        rw [ix_ok (by omega) (by omega), Option.bind_some, Option.bind_some, i_tn, tb, Int.toNat_natCast, hqb, nI_1]
      have G : ∀ (oz : jZ) (w10 w11 : Int32), 0 ≤ w10.toInt → w10 = oz 4 0 → w11 = oz 5 0 → ∃ (od_z2 : jZ) (od_y2 : jY) (any2 z10 z11 : Int32), f_Odds_seekSpan_24 ki no x1 x2 x3 N1 oz (up2 od_y 0 b 0) v5 (v7 + q) 1 (nI (i + 1)) = some (od_z2, od_y2, any2) ∧ f_Mo_span_97 x1 x2 x3 x4 N2 m2 v5 (v7 + q) (v9 ||| (1 <<< (nI b &&& 31))) w10 w11 = (if x4 = 0 then some (m2, z10) else some (m2, z11)) ∧ ((any2 = any ∧ sI (msk A U) 5 * 20 ≤ sI A 5 ∧ z10 = v10 ∧ z11 = v11 ∧ od_z2 = od_z) ∨ (any2 = 1 ∧ z10 = od_z2 4 0 ∧ z11 = od_z2 5 0)) := fun oz w10 w11 hw h10 h11 => by
        obtain ⟨V, Vb, Vn⟩ : ∃ V : Nat → Bool, V b = true ∧ ∀ k, k ≠ b → V k = U k := ⟨fun k => if k = b then true else U k, by simp, fun k hk => by simp [hk]⟩
        have su : sI (msk A V) 5 = sI (msk A U) 5 + (-A b) := sI_upd (msk A U) _ b (-A b) 5 e2 (fun k _ hn => by unfold msk; rw [Vn k hn]) (by rw [Mb]; unfold msk; rw [Vb, if_pos rfl]; omega)
        have sc : sI (fun k => if V k = true then 1 else 0) 5 = sI (fun k => if U k = true then (1 : Int) else 0) 5 + 1 := sI_upd (fun k => if U k = true then (1 : Int) else 0) _ b 1 5 e2 (fun k _ hn => by rw [Vn k hn]) (by rw [Ub, Vb]; simp)
        have q0 := hA b
        have a7 : (v7 + q).toInt = v7.toInt + A b := by rw [l_add (by rw [q2]; omega) (by rw [q2]; omega), q2]
        obtain ⟨od_z2, od_y2, any2, z10, z11, y1, y2, y3⟩ := ih (i + 1) N1 N2 V oz (up2 od_y 0 b 0) (v7 + q) 1 (v9 ||| (1 <<< (nI b &&& 31))) w10 w11 (by omega) (by omega) (by omega) (by rw [sc, hc]; omega) (fun k hk => by
            by_cases g : k = b
            · rw [g, up2_s]; unfold msk; rw [Vb, if_pos rfl, l0]
            · rw [up2_j g, hM k hk]; unfold msk; rw [Vn k g]) (by rw [su, a7]; omega) (fun j hj => by
            rw [Int32.toBitVec_or, BitVec.getLsbD_or, hU j hj, sh1 b (by omega), BitVec.getLsbD_twoPow]
            by_cases g : j = b
            · subst g; rw [Vb]; simp [show j < 32 by omega]
            · rw [Vn j g, show decide (b = j) = false by simp; omega]; simp) (Or.inr ⟨rfl, hw, h10, h11⟩)
        refine ⟨od_z2, od_y2, any2, z10, z11, y1, y2, Or.inr ?_⟩
        rcases y3 with ⟨r1, -, r2, r3, r4⟩ | h
        · exact ⟨r1, by rw [r2, r4]; exact h10, by rw [r3, r4]; exact h11⟩
        · exact h
      have i0 : (0 : Int32).toInt = 0 := rfl
      have iv : (-2147483648 : Int32).toInt = -2147483648 := rfl
      rcases hR with ⟨r1, r2, r3⟩ | ⟨r1, r2, r3, r4⟩
      · rw [r1, if_pos rfl, if_pos rfl, X107, if_pos r2, r3]
        rw [r1, r3] at G
        have : (if 0 < mean then mean else 0) = mean := by
          by_cases g : 0 < mean
          · rw [if_pos g]
          · rw [if_neg g]; rw [i_lt] at g; exact i_ext (by omega)
        rw [this]
        exact G (up2 (up2 od_z 4 0 mean) 5 0 mean) mean mean mn0 (by rw [up2_k (by decide), up2_s]) (by rw [up2_s])
      · have nv : ¬ v10 = -2147483648 := fun e => by rw [e, iv] at r2; omega
        rw [r1, if_neg (by decide), if_neg (by decide), X107, if_neg nv, ← r3, ← r4]
        rw [r1] at G
        refine G (up2 (up2 od_z 4 0 (if mean < v10 then mean else v10)) 5 0 (if v11 < mean then mean else v11)) (if mean < v10 then mean else v10) (if v11 < mean then mean else v11) ?_ (by rw [up2_k (by decide), up2_s]) (by rw [up2_s])
        split <;> assumption
theorem sp_44 {ki no mo m2 : jZ} (A : Nat → Int) (hA : ∀ k, 0 ≤ A k ∧ A k ≤ 99000000) (K : Nat) (hK5 : K ≤ 5) (x1 x2 x3 x4 : Int32) (h3 : (m2 3 0).toInt = K) (L : ∀ k, k < K → ∃ q, f_Mo_likelyOf m2 (nI k) x1 x2 x3 = some q ∧ q.toInt = A k) : ∀ (n k N : Nat) (v5 : Int64), k + n = K → n < N → v5.toInt = sI A k → ∃ w : Int64, f_Mo_span_44 x1 x2 x3 x4 N m2 v5 (nI k) = (if (lg_cmp w 0) = 0 then some (m2, (-2)) else f_Mo_span_97 x1 x2 x3 x4 FU m2 w 0 0 (-2147483648) 0) ∧ w.toInt = sI A K := by
  intro n
  induction n with
  | zero =>
    intro k N v5 hk hN h5
    obtain ⟨N, rfl⟩ : ∃ k, N = k + 1 := ⟨N - 1, by omega⟩
    have tk : (nI k).toInt = k := nI_toInt (by omega)
    have : k = K := by omega
    subst this
    exact ⟨v5, by rw [f_Mo_span_44, if_pos (by rw [i_le]; omega)], h5⟩
  | succ n ih =>
    intro k N v5 hk hN h5
    obtain ⟨N, rfl⟩ : ∃ k, N = k + 1 := ⟨N - 1, by omega⟩
    have tk : (nI k).toInt = k := nI_toInt (by omega)
    obtain ⟨q, q1, q2⟩ := L k (by omega)
    have b := sI_bd (f := A) k (fun k _ => hA k)
    have bk := hA k
    rw [f_Mo_span_44, if_neg (by rw [i_le]; omega), q1, Option.bind_some, nI_1]
    exact ih (k + 1) N _ (by omega) (by omega) (by rw [l_add (by omega) (by omega), h5, q2]; rfl)
/-- span -/
theorem op_span {ro ki no mo od : jZ} {ody : jY} (hk : iKinds ki mo) (hp : iPlaces ro mo) (hn : iNotes no mo) (x1 x2 x3 x4 : Int32) : ∃ od2 ody2 m2 r, f_WP_span ro ki no od ody x1 x2 x3 x4 = some (od2, ody2, r) ∧ f_Mo_span mo x1 x2 x3 x4 = some (m2, r) ∧ mRel mo m2 := by
  have i0 : (0 : Int32).toInt = 0 := rfl
  have i1 : (1 : Int32).toInt = 1 := rfl
  have P12 := hp.2.2.1
  have K0 := hk.2.1
  have K5 := hk.2.2.1
  obtain ⟨m2, g1, g2, g3, g4⟩ := knows_i (hn.to (m0 mo 0 0))
  have r3 : ∀ q, mKeep q → m2 q = mo q := ((m0 mo 0 0).tr g2)
  have W1 : f_WP_span ro ki no od ody x1 x2 x3 x4 = (if (0 ≤ x1.toInt ∧ x1.toInt < (mo 4 0).toInt) ∧ (0 ≤ x2.toInt ∧ x2.toInt ≤ x3.toInt ∧ x3.toInt ≤ 8 ∧ x3.toInt - x2.toInt ≤ 5) ∧ (0 ≤ x4.toInt ∧ x4.toInt ≤ 1) then (f_Odds_seekSpan od ody ki no x1 x2 x3).bind fun q10 => (if q10.2.2 = 0 then some (q10.1, q10.2.1, (-2)) else (if x4 = 0 then some (q10.1, q10.2.1, (q10.1 4 0)) else some (q10.1, q10.2.1, (q10.1 5 0)))) else some (od, ody, -1)) := by
    unfold f_WP_span
    rw [has_is hp, isPlace_eq, years_eq, within_eq, Option.bind_some, Option.bind_some, Option.bind_some]
    simp only [b10, i0, i1]
    by_cases c1 : 0 ≤ x1.toInt ∧ x1.toInt < (mo 4 0).toInt
    · rw [if_neg (fun e => e c1)]
      by_cases c2 : 0 ≤ x2.toInt ∧ x2.toInt ≤ x3.toInt ∧ x3.toInt ≤ 8 ∧ x3.toInt - x2.toInt ≤ 5
      · rw [if_neg (fun e => e c2)]
        by_cases c3 : 0 ≤ x4.toInt ∧ x4.toInt ≤ 1
        · rw [if_neg (fun e => e c3), if_pos ⟨c1, c2, c3⟩]
        · rw [if_pos c3, if_neg (fun e => c3 e.2.2)]
      · rw [if_pos c2, if_neg (fun e => c2 e.2.1)]
    · rw [if_pos c1, if_neg (fun e => c1 e.1)]
  have W2 : f_Mo_span mo x1 x2 x3 x4 = (if (0 ≤ x1.toInt ∧ x1.toInt < (mo 4 0).toInt) ∧ (0 ≤ x2.toInt ∧ x2.toInt ≤ x3.toInt ∧ x3.toInt ≤ 8 ∧ x3.toInt - x2.toInt ≤ 5) ∧ (0 ≤ x4.toInt ∧ x4.toInt ≤ 1) then f_Mo_span_44 x1 x2 x3 x4 FU m2 0 0 else some (up2 mo 0 0 0, -1)) := by
    unfold f_Mo_span
    rw [isPlace_eq, years_mo, years_eq, show (up2 mo 0 0 0) 4 = mo 4 from up2_k (by decide), g1, Option.bind_some, Option.bind_some, Option.bind_some]
    simp only [b10, i_lt, i_le, i0, i1]
    by_cases c1 : 0 ≤ x1.toInt ∧ x1.toInt < (mo 4 0).toInt
    · rw [if_neg (fun e => e c1)]
      by_cases c2 : 0 ≤ x2.toInt ∧ x2.toInt ≤ x3.toInt ∧ x3.toInt ≤ 8 ∧ x3.toInt - x2.toInt ≤ 5
      · rw [if_neg (fun e => e c2)]
        by_cases a : x4.toInt < 0
        · rw [if_pos a, if_neg (by omega)]
        · by_cases b : x4.toInt ≤ 1
          · rw [if_neg a, if_pos b, if_pos (by omega)]
          · rw [if_neg a, if_neg b, if_neg (by omega)]
      · rw [if_pos c2, if_neg (fun e => c2 e.2.1)]
    · rw [if_pos c1, if_neg (fun e => c1 e.1)]
  rw [W1, W2]
  by_cases c : (0 ≤ x1.toInt ∧ x1.toInt < (mo 4 0).toInt) ∧ (0 ≤ x2.toInt ∧ x2.toInt ≤ x3.toInt ∧ x3.toInt ≤ 8 ∧ x3.toInt - x2.toInt ≤ 5) ∧ (0 ≤ x4.toInt ∧ x4.toInt ≤ 1)
  · rw [if_pos c, if_pos c]
    generalize hP : x1.toInt.toNat = p
    generalize hA' : x2.toInt.toNat = a
    generalize hN' : (x3.toInt + 1 - x2.toInt).toNat = n
    have hA := fun k => lkA_rng hk hn p a n (by omega) (by omega) (by omega) (by omega) k
    obtain ⟨od1, r, a1, a2, a3, a4⟩ := wall_6 hk hn p a n (by omega) (by omega) (by omega) (by omega) x1 x2 x3 (by omega) (by omega) (by omega) 5 0 FU ody 0 rfl (by decide) rfl (fun k hk' => absurd hk' (Nat.not_lt_zero k))
    have zA : ∀ k, (mo 3 0).toInt.toNat ≤ k → lkA ki no mo p a n k = 0 := fun k hk' => by unfold lkA; rw [if_neg (by omega)]
    have L : ∀ k, k < (mo 3 0).toInt.toNat → ∃ q, f_Mo_likelyOf m2 (nI k) x1 x2 x3 = some q ∧ q.toInt = lkA ki no mo p a n k := fun k hk' => by
      have tk : (nI k).toInt = k := nI_toInt (by omega)
      obtain ⟨q, q1, q2, -⟩ := weigh_ok hk hn k p a n (by omega) (by omega) (nI k) x1 x2 x3 tk (by omega) (by omega) (by omega) (by omega) (by omega)
      have l1 := likelyOf_ok (m2 := m2) hk hn (r3 6 (by unfold mKeep; omega)) (r3 7 (by unfold mKeep; omega)) g4 k p a n (by omega) (by omega) (nI k) x1 x2 x3 tk (by omega) (by omega) (by omega) (by omega) (by omega)
      exact ⟨q, by rw [l1, q1], by rw [q2]; unfold lkA; rw [if_pos (by omega)]⟩
    have Mn : ∀ k, k < (mo 3 0).toInt.toNat → f_Mo_meanOf m2 (nI k) = some (ki 4 k) ∧ 0 ≤ (ki 4 k).toInt ∧ (ki 4 k).toInt ≤ 90 := fun k hk' => mean_ok hk (r3 7 (by unfold mKeep; omega)) (nI k) k (nI_toInt (by omega)) (by omega)
    have h3 : (m2 3 0).toInt = ((mo 3 0).toInt.toNat : Int) := by rw [r3 3 (by unfold mKeep; omega)]; omega
    have tA := sI_tail (f := lkA ki no mo p a n) (K := (mo 3 0).toInt.toNat) 5 (by omega) zA
    obtain ⟨w, b1, b2⟩ := sp_44 (ki := ki) (no := no) (mo := mo) (lkA ki no mo p a n) hA (mo 3 0).toInt.toNat (by omega) x1 x2 x3 x4 h3 L (mo 3 0).toInt.toNat 0 FU 0 (by omega) (by unfold FU; omega) rfl
    have wr : w = r := l_ext (by rw [b2, a2, tA])
    have S : f_Odds_seekSpan od ody ki no x1 x2 x3 = f_Odds_seekSpan_24 ki no x1 x2 x3 FU od od1 r 0 0 0 := by
      unfold f_Odds_seekSpan f_Odds_weighAllOdds_likelies
      rw [show f_Odds_weighAllOdds_likelies_6 ki no x1 x2 x3 FU ody 0 0 = some (od1, r) from a1, Option.bind_some]
    rw [S, show f_Mo_span_44 x1 x2 x3 x4 FU m2 0 0 = _ from b1, wr]
    have m0' : ∀ k, msk (lkA ki no mo p a n) (fun _ => false) k = lkA ki no mo p a n k := fun k => by unfold msk; exact if_neg (by simp)
    have sm0 : sI (msk (lkA ki no mo p a n) (fun _ => false)) 5 = sI (lkA ki no mo p a n) 5 := sI_cong 5 (fun k _ => m0' k)
    obtain ⟨od_z2, od_y2, any2, w10, w11, y1, y2, y3⟩ := sp_loop (ki := ki) (no := no) (mo := mo) (m2 := m2) (lkA ki no mo p a n) hA (mo 3 0).toInt.toNat (by omega) zA x1 x2 x3 x4 h3 L Mn r a2 5 0 FU FU (fun _ => false) od od1 0 0 0 (-2147483648) 0 rfl (by decide) (by decide) (by rw [sI_zero 5 (fun k => if_neg (by decide))]; rfl) (fun k hk' => by rw [a3 k hk', m0']) (by rw [sm0, l0]; omega) (fun j _ => by show (0#32).getLsbD j = _; simp) (Or.inl ⟨rfl, rfl, rfl⟩)
    rw [show f_Odds_seekSpan_24 ki no x1 x2 x3 FU od od1 r 0 0 0 = _ from y1, y2, Option.bind_some]
    dsimp only
    have bA := sI_bd (f := lkA ki no mo p a n) 5 (fun k _ => hA k)
    rw [sm0] at y3
    rcases y3 with ⟨z1, z2, -⟩ | ⟨z1, z2, z3⟩
    · rw [if_pos z1, if_pos (by rw [lc_eq, l0, a2]; omega)]
      exact ⟨_, _, _, _, rfl, rfl, (m0 mo 0 0).tr g2⟩
    · by_cases d : sI (lkA ki no mo p a n) 5 = 0
      · exfalso
        have hF : FU = 999999 + 1 := by decide
        have r0 : r = 0 := l_ext (by rw [a2, d, l0])
        have : f_Odds_seekSpan_24 ki no x1 x2 x3 FU od od1 r 0 0 0 = some (od, od1, 0) := by
          rw [hF, f_Odds_seekSpan_24, if_neg (by decide), r0, if_pos (by decide), bz_ok (Or.inl rfl), Option.bind_some]
        rw [show f_Odds_seekSpan_24 ki no x1 x2 x3 FU od od1 r 0 0 (nI 0) = f_Odds_seekSpan_24 ki no x1 x2 x3 FU od od1 r 0 0 0 from rfl, this] at y1
        have e := (Prod.mk.inj (Prod.mk.inj (Option.some.inj y1)).2).2
        rw [z1] at e
        exact absurd e (by decide)
      · rw [if_neg (show ¬ any2 = 0 by rw [z1]; decide), if_neg (show ¬ lg_cmp r 0 = 0 by rw [lc_eq, l0, a2]; exact d), z2, z3]
        by_cases e : x4 = 0
        · rw [if_pos e, if_pos e]; exact ⟨_, _, _, _, rfl, rfl, (m0 mo 0 0).tr g2⟩
        · rw [if_neg e, if_neg e]; exact ⟨_, _, _, _, rfl, rfl, (m0 mo 0 0).tr g2⟩
  · rw [if_neg c, if_neg c]
    exact ⟨_, _, _, _, rfl, rfl, m0 mo 0 0⟩
