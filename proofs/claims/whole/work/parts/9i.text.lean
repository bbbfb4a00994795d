theorem LAYS (m : jZ) : ∃ m', f_Mo_lays m = some m' ∧ (m' 3 0 = m 20 0 ∧ m' 4 0 = m 21 0 ∧ m' 17 0 = m 22 0 ∧ m' 18 0 = m 23 0 ∧ m' 19 0 = m 24 0 ∧ m' 38 0 = 0 ∧ m' 39 0 = -1) ∧ (∀ k, k < 5 → m' 5 k = m 5 (5 + k) ∧ m' 6 k = m 6 (5 + k)) ∧ (∀ j, j < 50 → m' 7 j = m 7 (50 + j)) ∧ (∀ p, p < 12 → m' 8 p = m 8 (12 + p) ∧ m' 9 p = m 9 (12 + p) ∧ m' 10 p = vp_nar .boolean (m 10 (12 + p)) ∧ m' 11 p = m 11 (12 + p) ∧ m' 12 p = m 12 (12 + p) ∧ m' 13 p = m 13 (12 + p) ∧ m' 14 p = 0) ∧ (∀ i, i < 64 → m' 15 i = m 15 (64 + i) ∧ m' 16 i = m 16 (64 + i)) ∧ (∀ q, q = 1 ∨ q = 2 ∨ (20 ≤ q ∧ q ≤ 37) → m' q = m q) := by
  generalize h0 : up2 (up2 (up2 (up2 (up2 (up2 (up2 m 3 0 (m 20 0)) 4 0 (m 21 0)) 17 0 (m 22 0)) 18 0 (m 23 0)) 19 0 (m 24 0)) 38 0 0) 39 0 (-1) = z
  have zq : ∀ q, q ≠ 3 → q ≠ 4 → q ≠ 17 → q ≠ 18 → q ≠ 19 → q ≠ 38 → q ≠ 39 → z q = m q := fun q a b c d e f g => by rw [← h0, up2_k g, up2_k f, up2_k e, up2_k d, up2_k c, up2_k b, up2_k a]
  have z3 : z 3 0 = m 20 0 := by rw [← h0, up2_k (by decide), up2_k (by decide), up2_k (by decide), up2_k (by decide), up2_k (by decide), up2_k (by decide), up2_s]
  have z4 : z 4 0 = m 21 0 := by rw [← h0, up2_k (by decide), up2_k (by decide), up2_k (by decide), up2_k (by decide), up2_k (by decide), up2_s]
  have z17 : z 17 0 = m 22 0 := by rw [← h0, up2_k (by decide), up2_k (by decide), up2_k (by decide), up2_k (by decide), up2_s]
  have z18 : z 18 0 = m 23 0 := by rw [← h0, up2_k (by decide), up2_k (by decide), up2_k (by decide), up2_s]
  have z19 : z 19 0 = m 24 0 := by rw [← h0, up2_k (by decide), up2_k (by decide), up2_s]
  have z38 : z 38 0 = 0 := by rw [← h0, up2_k (by decide), up2_s]
  have z39 : z 39 0 = -1 := by rw [← h0, up2_s]
  obtain ⟨a, a1, a2, a3, a4⟩ := ly_52 5 0 FU z (by omega) (by unfold FU; omega)
  obtain ⟨b, b1, b2, b3, b4⟩ := ly_93 50 0 FU a (by omega) (by unfold FU; omega)
  obtain ⟨c, c1, c2, c3, c4⟩ := ly_122 12 0 FU b (by omega) (by unfold FU; omega)
  obtain ⟨d, d1, d2, d3, d4⟩ := ly_233 64 0 FU c (by omega) (by unfold FU; omega)
  have n0 : nI 0 = 0 := rfl
  rw [n0] at a1 b1 c1 d1
  have K : ∀ q, q < 5 ∨ 16 < q → d q = z q := fun q hq => by rw [d2 q (by omega), c2 q (by omega), b2 q (by omega), a2 q (by omega)]
  refine ⟨d, by unfold f_Mo_lays; rw [h0, a1, b1, c1, d1], ⟨by rw [K 3 (by omega)]; exact z3, by rw [K 4 (by omega)]; exact z4, by rw [K 17 (by omega)]; exact z17, by rw [K 18 (by omega)]; exact z18, by rw [K 19 (by omega)]; exact z19, by rw [K 38 (by omega)]; exact z38, by rw [K 39 (by omega)]; exact z39⟩, fun k hk => ?_, fun j hj => ?_, fun p hp => ?_, fun i hi => ?_, fun q hq => by rw [K q (by omega), zq q (by omega) (by omega) (by omega) (by omega) (by omega) (by omega) (by omega)]⟩
  · rw [d2 5 (by omega), c2 5 (by omega), b2 5 (by omega), d2 6 (by omega), c2 6 (by omega), b2 6 (by omega)]
    have := a3 k (by omega) hk
    rw [zq 5 (by decide) (by decide) (by decide) (by decide) (by decide) (by decide) (by decide), zq 6 (by decide) (by decide) (by decide) (by decide) (by decide) (by decide) (by decide)] at this
    exact this
  · rw [d2 7 (by omega), c2 7 (by omega), b3 j (by omega) hj, a2 7 (by omega), zq 7 (by decide) (by decide) (by decide) (by decide) (by decide) (by decide) (by decide)]
  · rw [d2 8 (by omega), d2 9 (by omega), d2 10 (by omega), d2 11 (by omega), d2 12 (by omega), d2 13 (by omega), d2 14 (by omega)]
    have := c3 p (by omega) hp
    have e : ∀ q, 8 ≤ q → q ≤ 14 → b q = m q := fun q x y => by rw [b2 q (by omega), a2 q (by omega), zq q (by omega) (by omega) (by omega) (by omega) (by omega) (by omega) (by omega)]
    rw [e 8 (by omega) (by omega), e 9 (by omega) (by omega), e 10 (by omega) (by omega), e 11 (by omega) (by omega), e 12 (by omega) (by omega), e 13 (by omega) (by omega)] at this
    exact this
  · have := d3 i (by omega) hi
    have e : ∀ q, 15 ≤ q → q ≤ 16 → c q = m q := fun q x y => by rw [c2 q (by omega), b2 q (by omega), a2 q (by omega), zq q (by omega) (by omega) (by omega) (by omega) (by omega) (by omega) (by omega)]
    rw [e 15 (by omega) (by omega), e 16 (by omega) (by omega)] at this
    exact this
theorem sm_sh (f g : Nat → Int32) (b c : Nat) : ∀ n, (∀ j, j < n → f (b + j) = g (c + j)) → sm f b n = sm g c n
  | 0, _ => rfl
  | n + 1, h => by rw [sm, sm, sm_sh f g b c n (fun j hj => h j (by omega)), h n (by omega)]
theorem cnt_sh (f g : Nat → Int32) (b c : Nat) (x : Int) : ∀ n, (∀ j, j < n → f (b + j) = g (c + j)) → cnt f b x n = cnt g c x n
  | 0, _ => rfl
  | n + 1, h => by rw [cnt, cnt, cnt_sh f g b c x n (fun j hj => h j (by omega)), h n (by omega)]
theorem bool_nar {x : Int32} (h : x = 0 ∨ x = 1) : vp_nar .boolean x = x := by
  rcases h with h | h <;> rw [h] <;> rfl
/-- a whole text laid down -/
theorem LAID {j : Nat} {re ta ro ki ru mo : jZ} (h : TX j j re ta ro ki ru mo) (x1 : Int32) : ∃ m3, f_Mo_text_116 x1 mo = some (m3, nI j) ∧ iKinds ki m3 ∧ iPlaces ro m3 ∧ iRule ru m3 ∧ iFault re m3 ∧ (m3 38 0 = 0 ∧ m3 39 0 = -1) ∧ m3 2 = mo 2 := by
  obtain ⟨hT, h0, ⟨h33, r1, r2⟩, ⟨K, k1, k2, k3, k4, k5, -⟩, ⟨P, p1, p2, p3, p4, -, p6⟩, ⟨s, ⟨u1, u2, u3, u4, u5⟩, -⟩, s5, s6, ⟨c3, c26⟩, hj⟩ := h
  generalize hm : up2 (up2 mo 34 0 (mo 32 0)) 35 0 (mo 33 0) = m
  have mq : ∀ q, q ≠ 34 → q ≠ 35 → m q = mo q := fun q a b => by rw [← hm, up2_k b, up2_k a]
  obtain ⟨m3, l1, ⟨l3, l4, l17, l18, l19, l38, l39⟩, l5, l7, l8, l15, lq⟩ := LAYS m
  have tK : (nI K).toInt = K := nI_toInt (by omega)
  have tP : (nI P).toInt = P := nI_toInt (by omega)
  have ts : (nI s).toInt = s := nI_toInt (by omega)
  rw [mq 20 (by decide) (by decide), k2] at l3
  rw [mq 21 (by decide) (by decide), p2] at l4
  rw [mq 22 (by decide) (by decide), u2] at l17
  rw [mq 23 (by decide) (by decide)] at l18
  rw [mq 24 (by decide) (by decide)] at l19
  rw [mq 5 (by decide) (by decide), mq 6 (by decide) (by decide)] at l5
  rw [mq 7 (by decide) (by decide)] at l7
  rw [mq 8 (by decide) (by decide), mq 9 (by decide) (by decide), mq 10 (by decide) (by decide), mq 11 (by decide) (by decide), mq 12 (by decide) (by decide), mq 13 (by decide) (by decide)] at l8
  rw [mq 15 (by decide) (by decide), mq 16 (by decide) (by decide)] at l15
  refine ⟨m3, ?_, ⟨?_, ?_, ?_, ?_, fun k hk => ?_⟩, ⟨?_, ?_, ?_, ?_, ?_, ?_, ?_, fun p hp => ?_⟩, ⟨?_, ?_, fun i hi => ?_, ?_⟩, ⟨?_, ?_⟩, ⟨l38, l39⟩, by rw [lq 2 (by omega), mq 2 (by decide) (by decide)]⟩
  · unfold f_Mo_text_116
    rw [if_pos h0, hm, l1, Option.bind_some, lq 26 (by omega), mq 26 (by decide) (by decide), c26]
  · rw [l3]; exact k1
  · rw [l3]; omega
  · rw [l3]; omega
  · rw [k4, l3, tK, Int.toNat_natCast]
    exact (sm_sh _ _ 0 5 K (fun j hj => by rw [Nat.zero_add]; exact (l5 j (by omega)).2)).symm
  · rw [l3, tK] at hk
    obtain ⟨g1, g2, g3, g4, g5, g6⟩ := k5 k (by omega)
    have e7 : ∀ f, f < 10 → m3 7 (10 * k + f) = mo 7 (10 * (5 + k) + f) := fun f hf => by rw [l7 _ (by omega), show 50 + (10 * k + f) = 10 * (5 + k) + f by omega]
    rw [(l5 k (by omega)).1, (l5 k (by omega)).2]
    refine ⟨g1, g2, g3.1, g3.2, fun f hf => by rw [e7 f hf]; exact g4 f hf, ?_, fun c hc => ?_⟩
    · rw [g5]; exact (sm_sh _ _ _ _ 10 e7).symm
    · rw [g6 c hc, cnt_sh (m3 7) (mo 7) _ _ c 10 e7]
  · rw [l4]; exact p1
  · rw [l4]; omega
  · rw [l4]; omega
  · rw [l18]; exact s5.1
  · rw [l18]; exact s5.2
  · rw [l19]; exact s6.1
  · rw [l19]; exact s6.2
  · rw [l4, tP] at hp
    obtain ⟨q8, q9, q10, q11, q12, q13, q14⟩ := l8 p (by omega)
    obtain ⟨v8, v9, v10, v11, v12, v13⟩ := p4 p (by omega)
    rw [bool_nar v10.2] at q10
    rw [q8, q9, q10, q11, q12, q13, q14]
    exact ⟨v8, v9, v10, v11, v12, v13, p6 p (by omega), by decide, by decide⟩
  · rw [l17]; exact u1
  · rw [l17]; omega
  · rw [l17, ts] at hi
    have i64 : i < 64 := by omega
    have dd : dpt (m3 15) (m3 16) i = DD mo i := dpt_cg _ _ _ _ i (fun j hj => l15 j (by omega))
    rw [(l15 i i64).1, (l15 i i64).2, dd]
    exact u4 i (by omega)
  · rw [l17, ts, Int.toNat_natCast]
    have dd : dpt (m3 15) (m3 16) s = DD mo s := dpt_cg _ _ _ _ s (fun j hj => l15 j (by omega))
    rw [dd]
    rcases u5 with z | z
    · left; omega
    · right; exact z
  · rw [lq 34 (by omega), ← hm, up2_k (by decide), up2_s, h0]; exact r1
  · rw [lq 35 (by omega), ← hm, up2_s, h33]; exact r2
