theorem nameK {ta mo ki : jZ} (hT : T ta mo) (h0 : mo 32 0 = 0) (K : Nat) (hK : K < 5) (he : ∀ k, k < K → ki 2 k = mo 5 (5 + k)) (re : jZ) :
    (∃ x, ¬ x = 0 ∧ f_Reader_readNameKinds_names re ta ki (nI K) = some (stp re ta x, ta, ki, 0) ∧ f_Mo_freshMo_kindName mo 5 (nI K) = some (flt mo x, 0)) ∨
    (∃ ta1 mo1, f_Reader_readNameKinds_names re ta ki (nI K) = some (re, ta1, up2 ki 2 K (mo 31 0), 1) ∧ f_Mo_freshMo_kindName mo 5 (nI K) = some (mo1, mo 31 0) ∧ T ta1 mo1 ∧ (mo 29 0).toInt + 1 ≤ (mo1 29 0).toInt ∧ (∀ q, q < 3 → ta1 q = ta q) ∧ (∀ q, q < 28 ∨ 31 < q → mo1 q = mo q)) := by
  have i0 : (0 : Int32).toInt = 0 := rfl
  have i5 : (5 : Int32).toInt = 5 := rfl
  have tK : (nI K).toInt = K := nI_toInt (by omega)
  have bad : ∀ x : Int32, ¬ x = 0 → (flt mo x) 32 0 ≠ 0 := fun x hx => by rw [flt_32]; exact hx
  unfold f_Reader_readNameKinds_names f_Mo_freshMo_kindName
  rcases nm_tok hT with ⟨a, b, c, d⟩ | ⟨a, b⟩
  · obtain ⟨q, q1, q2⟩ := fk_new (mo := mo) K (by omega) he (mo 31 0) K 0 FU FU (by omega) (by unfold FU; omega) (by unfold FU; omega)
    have Q1 : f_WP_findKinds_names ki (nI K) (mo 31 0) = some q := q1
    have Q2 : f_Mo_foundMo_kindName mo 5 (nI K) (mo 31 0) = some q := q2
    rw [if_pos b, d, Option.bind_some, if_pos rfl, c, Q1, Option.bind_some, if_pos a, Q2, Option.bind_some]
    by_cases e : q = -1
    · right
      obtain ⟨ta1, mo1, s1, s2, s3, s4, s5, s6⟩ := step_ok hT.1
      have pl := tok_ne hT (by rw [b]; decide)
      rw [if_pos e, if_neg (show ¬ nI K < 0 by rw [i_lt]; omega), if_pos (show nI K < 5 by rw [i_lt]; omega), ix_ok (by omega) (by omega), Option.bind_some, s1, Option.bind_some, i_tn, tK, Int.toNat_natCast, if_pos e, if_pos h0, s2, Option.bind_some]
      exact ⟨ta1, mo1, rfl, rfl, s3, by omega, s5, s6⟩
    · left
      rw [if_neg e, if_neg e, wrong_ok' h0, Option.bind_some, if_neg (bad 3 (by decide))]
      exact ⟨3, by decide, rfl, rfl⟩
  · left
    rw [if_neg a, wrong_ok' h0, Option.bind_some, if_neg (bad 1 (by decide))]
    rcases b with b | ⟨b, b'⟩
    · rw [if_neg b]; exact ⟨1, by decide, rfl, rfl⟩
    · rw [if_pos b, b', Option.bind_some, if_neg (by decide)]; exact ⟨1, by decide, rfl, rfl⟩
theorem nameP {ta mo ro : jZ} (hT : T ta mo) (h0 : mo 32 0 = 0) (K : Nat) (hK : K < 12) (he : ∀ k, k < K → ro 8 k = mo 8 (12 + k)) (re : jZ) :
    (∃ x, ¬ x = 0 ∧ f_Reader_readNameRoad_names re ta ro (nI K) = some (stp re ta x, ta, ro, 0) ∧ f_Mo_freshMo_placeName mo 12 (nI K) = some (flt mo x, 0)) ∨
    (∃ ta1 mo1, f_Reader_readNameRoad_names re ta ro (nI K) = some (re, ta1, up2 ro 8 K (mo 31 0), 1) ∧ f_Mo_freshMo_placeName mo 12 (nI K) = some (mo1, mo 31 0) ∧ T ta1 mo1 ∧ (mo 29 0).toInt + 1 ≤ (mo1 29 0).toInt ∧ (∀ q, q < 3 → ta1 q = ta q) ∧ (∀ q, q < 28 ∨ 31 < q → mo1 q = mo q)) := by
  have i0 : (0 : Int32).toInt = 0 := rfl
  have i12 : (12 : Int32).toInt = 12 := rfl
  have tK : (nI K).toInt = K := nI_toInt (by omega)
  have bad : ∀ x : Int32, ¬ x = 0 → (flt mo x) 32 0 ≠ 0 := fun x hx => by rw [flt_32]; exact hx
  unfold f_Reader_readNameRoad_names f_Mo_freshMo_placeName
  rcases nm_tok hT with ⟨a, b, c, d⟩ | ⟨a, b⟩
  · obtain ⟨q, q1, q2⟩ := fp_new (mo := mo) K (by omega) he (mo 31 0) K 0 FU FU (by omega) (by unfold FU; omega) (by unfold FU; omega)
    have Q1 : f_WP_findRoad_names ro (nI K) (mo 31 0) = some q := q1
    have Q2 : f_Mo_foundMo_placeName mo 12 (nI K) (mo 31 0) = some q := q2
    rw [if_pos b, d, Option.bind_some, if_pos rfl, c, Q1, Option.bind_some, if_pos a, Q2, Option.bind_some]
    by_cases e : q = -1
    · right
      obtain ⟨ta1, mo1, s1, s2, s3, s4, s5, s6⟩ := step_ok hT.1
      have pl := tok_ne hT (by rw [b]; decide)
      rw [if_pos e, if_neg (show ¬ nI K < 0 by rw [i_lt]; omega), if_pos (show nI K < 12 by rw [i_lt]; omega), ix_ok (by omega) (by omega), Option.bind_some, s1, Option.bind_some, i_tn, tK, Int.toNat_natCast, if_pos e, if_pos h0, s2, Option.bind_some]
      exact ⟨ta1, mo1, rfl, rfl, s3, by omega, s5, s6⟩
    · left
      rw [if_neg e, if_neg e, wrong_ok' h0, Option.bind_some, if_neg (bad 3 (by decide))]
      exact ⟨3, by decide, rfl, rfl⟩
  · left
    rw [if_neg a, wrong_ok' h0, Option.bind_some, if_neg (bad 1 (by decide))]
    rcases b with b | ⟨b, b'⟩
    · rw [if_neg b]; exact ⟨1, by decide, rfl, rfl⟩
    · rw [if_pos b, b', Option.bind_some, if_neg (by decide)]; exact ⟨1, by decide, rfl, rfl⟩
theorem T_cg {ta mo mo2 : jZ} (h : T ta mo) (h1 : mo2 1 = mo 1) (h27 : ∀ q, 27 ≤ q → q ≤ 31 → mo2 q = mo q) : T ta mo2 := by
  obtain ⟨y1, y2, y3, y4, y5⟩ := h
  refine ⟨tPos_cg y1 h1 (h27 27 (by omega) (by omega)) (h27 28 (by omega) (by omega)), ?_, ?_, ?_, ?_⟩
  · rw [h27 29 (by omega) (by omega)]; exact y2
  · rw [h27 29 (by omega) (by omega), h27 28 (by omega) (by omega)]; exact y3
  · rw [h27 29 (by omega) (by omega), h27 28 (by omega) (by omega)]; exact y4
  · rw [h27 30 (by omega) (by omega), h27 31 (by omega) (by omega)]; exact y5
/-- what the class does behind 'kind' -/
def cKind (re ta ki : jZ) (K : Nat) : Option (jZ × jZ × jZ × Int32) := (f_Reader_readNameKinds_names re ta ki (nI K)).bind fun q8 => (if q8.2.2.2 = 0 then some (q8.1, q8.2.1, q8.2.2.1, 0) else (f_Reader_readNumber q8.1 q8.2.1 1 99).bind fun q11 => (if q11.2.2 = (-1) then some (q11.1, q11.2.1, q8.2.2.1, 0) else f_Reader_readKind_59 FU q11.1 q11.2.1 q8.2.2.1 (nI K) q11.2.2 0))
theorem KINDx {ta mo ki : jZ} (hT : T ta mo) (h0 : mo 32 0 = 0) {K : Nat} (hn : nK ki mo K) (hK : K < 5) (re : jZ) :
    (∃ re' ta' ki' mf, cKind re ta ki K = some (re', ta', ki', 0) ∧ f_Mo_kindLine mo (nI (5 + K)) = some mf ∧ ¬ mf 32 0 = 0 ∧ re' 1 0 = mf 32 0 ∧ re' 2 0 = mf 33 0 ∧ oR mo mf ∧ (∀ q, q < 3 → ta' q = ta q)) ∨
    (∃ ta2 ki2 mo2, cKind re ta ki K = some (re, ta2, ki2, 1) ∧ f_Mo_kindLine mo (nI (5 + K)) = some mo2 ∧ T ta2 mo2 ∧ mo2 32 0 = 0 ∧ nK ki2 mo2 (K + 1) ∧ (mo 29 0).toInt ≤ (mo2 29 0).toInt ∧ (∀ q, q < 3 → ta2 q = ta q) ∧ oR mo mo2 ∧ (∀ q, 8 ≤ q → q ≠ 20 → q < 28 ∨ 31 < q → mo2 q = mo q)) := by
  obtain ⟨n1, n2, n3, n4, n5, n6⟩ := id hn
  have t5 : (nI (5 + K)).toInt = ((5 + K : Nat) : Int) := nI_toInt (by omega)
  have bad : ∀ x : Int32, ¬ x = 0 → (flt mo x) 32 0 ≠ 0 := fun x hx => by rw [flt_32]; exact hx
  have oN : ∀ (m : jZ) (a b : Int32), oR m (up2 (up2 m 5 (5 + K) a) 6 (5 + K) b) := fun m a b => ⟨fun q hq => by rw [up2_k (by omega), up2_k (by omega)], fun k hk => ⟨by rw [up2_k (by decide), up2_j (by omega)], by rw [up2_j (by omega), up2_k (by decide)]⟩, fun j _ => by rw [up2_k (by decide), up2_k (by decide)], fun q x y p _ => by rw [up2_k (by omega), up2_k (by omega)], fun i _ => ⟨by rw [up2_k (by decide), up2_k (by decide)], by rw [up2_k (by decide), up2_k (by decide)]⟩⟩
  have oN5 : ∀ (m : jZ) (a : Int32), oR m (up2 m 5 (5 + K) a) := fun m a => ⟨fun q hq => by rw [up2_k (by omega)], fun k hk => ⟨by rw [up2_j (by omega)], by rw [up2_k (by decide)]⟩, fun j _ => by rw [up2_k (by decide)], fun q x y p _ => by rw [up2_k (by omega)], fun i _ => ⟨by rw [up2_k (by decide)], by rw [up2_k (by decide)]⟩⟩
  have oN6 : ∀ (m : jZ) (a : Int32), oR m (up2 m 6 (5 + K) a) := fun m a => ⟨fun q hq => by rw [up2_k (by omega)], fun k hk => ⟨by rw [up2_k (by decide)], by rw [up2_j (by omega)]⟩, fun j _ => by rw [up2_k (by decide)], fun q x y p _ => by rw [up2_k (by omega)], fun i _ => ⟨by rw [up2_k (by decide)], by rw [up2_k (by decide)]⟩⟩
  have oQ : ∀ m m' : jZ, (∀ q, q < 28 ∨ 31 < q → m' q = m q) → oR m m' := fun m m' h => oR.of (fun q hq => h q (by omega))
  unfold cKind f_Mo_kindLine
  rw [n2, ix_ok (show 0 ≤ (nI (5 + K)).toInt by omega) (by omega), i_tn, t5, Int.toNat_natCast]
  rcases nameK hT h0 K hK (fun k hk => (n5 k hk).1) re with ⟨x, hx, c1, c2⟩ | ⟨ta1, mo1, c1, c2, c3, c4, c5, c6⟩
  · left
    have nf := bad x hx
    have nf1 : ¬ (up2 (flt mo x) 5 (5 + K) 0) 32 0 = 0 := by rw [up2_k (by decide)]; exact nf
    obtain ⟨mf, e1, e2⟩ := kl_f K hK 10 0 FU (up2 (up2 (flt mo x) 5 (5 + K) 0) 6 (5 + K) 1) (by rw [up2_k (by decide)]; exact nf1) rfl (by decide)
    refine ⟨stp re ta x, ta, ki, mf, ?_, ?_, ?_, ?_, ?_, (flt_o mo x).tr ((oN _ 0 1).tr e2.2.2), fun _ _ => rfl⟩
    · rw [c1, Option.bind_some]; dsimp only; rw [if_pos rfl]
    · rw [c2, Option.bind_some, Option.bind_some]; dsimp only
      rw [num_f nf1, Option.bind_some, Option.bind_some]
      exact e1
    · rw [e2.1, up2_k (by decide), up2_k (by decide)]; exact nf
    · rw [stp_1, e2.1, up2_k (by decide), up2_k (by decide), flt_32]
    · rw [stp_2, e2.2.1, up2_k (by decide), up2_k (by decide), flt_33, hT.2.1]
  · rw [c1, Option.bind_some, c2, Option.bind_some, Option.bind_some]
    dsimp only
    rw [if_neg (show ¬ (1 : Int32) = 0 by decide)]
    have hT1 : T ta1 (up2 mo1 5 (5 + K) (mo 31 0)) := T_cg c3 (up2_k (by decide)) (fun q a b => up2_k (by omega))
    have h01 : (up2 mo1 5 (5 + K) (mo 31 0)) 32 0 = 0 := by rw [up2_k (by decide), c6 32 (by omega)]; exact h0
    rcases num_ok hT1 h01 1 99 (by decide) (by decide) with ⟨x, hx, d1, d2⟩ | ⟨ta2, mo2, w, d1, d2, d3, d4, d5, d6, d7, d8⟩
    · left
      have nf : ¬ (flt (up2 mo1 5 (5 + K) (mo 31 0)) x) 32 0 = 0 := by rw [flt_32]; exact hx
      obtain ⟨mf, e1, e2⟩ := kl_f K hK 10 0 FU (up2 (flt (up2 mo1 5 (5 + K) (mo 31 0)) x) 6 (5 + K) 1) (by rw [up2_k (by decide)]; exact nf) rfl (by decide)
      refine ⟨stp re ta1 x, ta1, up2 ki 2 K (mo 31 0), mf, ?_, ?_, ?_, ?_, ?_, (oQ mo mo1 c6).tr ((oN5 mo1 _).tr ((flt_o _ x).tr ((oN6 _ 1).tr e2.2.2))), c5⟩
      · rw [d1, Option.bind_some]; dsimp only; rw [if_pos rfl]
      · rw [d2, Option.bind_some, Option.bind_some]
        exact e1
      · rw [e2.1, up2_k (by decide)]; exact nf
      · rw [stp_1, e2.1, up2_k (by decide), flt_32]
      · rw [stp_2, e2.2.1, up2_k (by decide), flt_33, hT1.2.1]
    · rw [d1, Option.bind_some, d2, Option.bind_some, Option.bind_some]
      dsimp only
      rw [if_neg d4]
      generalize hm : up2 mo2 6 (5 + K) w = m3
      have m3k : ∀ q, q ≠ 6 → m3 q = mo2 q := fun q hq => by rw [← hm, up2_k hq]
      have hT3 : T ta2 m3 := T_cg d5 (m3k 1 (by decide)) (fun q a b => m3k q (by omega))
      have h03 : m3 32 0 = 0 := by rw [m3k 32 (by decide), d8 32 (by omega)]; exact h01
      have z0 := n6 K (Nat.le_refl _) hK
      have hp : pK (up2 ki 2 K (mo 31 0)) m3 K 0 := by
        refine ⟨fun g hg => absurd hg (Nat.not_lt_zero g), by rw [up2_k (by decide), z0.1]; rfl, fun c hc => by rw [up2_k (by decide), z0.2 c hc]; rfl⟩
      have OM : oR mo m3 := by
        rw [← hm]
        exact (oQ mo mo1 c6).tr ((oN5 mo1 _).tr ((oQ _ mo2 d8).tr (oN6 mo2 w)))
      rcases face_loop K hK re w 10 0 FU FU ta2 (up2 ki 2 K (mo 31 0)) m3 rfl (by decide) (by decide) hT3 h03 hp with ⟨re', ta', ki', mf, g1, g2, g3, g4, g5, g6, g7⟩ | ⟨ta4, ki4, mo4, g1, g2, g3, g4, g5, g6, g7, g8, g9, g10, g11, g12⟩
      · left
        exact ⟨re', ta', ki', mf, g1, g2, g3, g4, g5, OM.tr g6, fun q hq => by rw [g7 q hq, d7 q hq, c5 q hq]⟩
      · right
        have i1 : (1 : Int32).toInt = 1 := rfl
        have i99 : (99 : Int32).toInt = 99 := rfl
        have r20 : mo4 20 0 = nI K := by rw [g8 20 (by decide) (by omega), m3k 20 (by decide), d8 20 (by omega), up2_k (by decide), c6 20 (by omega)]; exact n2
        have r5 : ∀ j, j ≠ 5 + K → mo4 5 j = mo 5 j := fun j hj => by rw [g8 5 (by decide) (by omega), m3k 5 (by decide), d8 5 (by omega), up2_j hj, c6 5 (by omega)]
        have r5K : mo4 5 (5 + K) = mo 31 0 := by rw [g8 5 (by decide) (by omega), m3k 5 (by decide), d8 5 (by omega), up2_s]
        have r6 : ∀ j, j ≠ 5 + K → mo4 6 j = mo 6 j := fun j hj => by rw [g8 6 (by decide) (by omega), ← hm, up2_j hj, d8 6 (by omega), up2_k (by decide), c6 6 (by omega)]
        have r6K : mo4 6 (5 + K) = w := by rw [g8 6 (by decide) (by omega), ← hm, up2_s]
        have m37 : m3 7 = mo 7 := by rw [m3k 7 (by decide), d8 7 (by omega), up2_k (by decide), c6 7 (by omega)]
        have r7 : ∀ j, j < 10 * (5 + K) ∨ 10 * (5 + K) + 10 ≤ j → mo4 7 j = mo 7 j := fun j hj => by rw [g9 j hj, m37]
        have k1 : (ki4 1 0 + w).toInt = sm (mo4 6) 5 (K + 1) := by
          have e : ki4 1 0 = ki 1 0 := by rw [g10 1 (by decide) (by decide) (by decide), up2_k (by decide)]
          have sr : ∀ n, n ≤ K → 0 ≤ sm (mo 6) 5 n ∧ sm (mo 6) 5 n ≤ 99 * n := by
            intro n
            induction n with
            | zero => intro _; simp [sm]
            | succ n ihn => intro hn; have := ihn (by omega); have := (n5 n (by omega)).2.2.1; rw [sm]; omega
          have := sr K (Nat.le_refl _)
          rw [e, i_add (by omega) (by omega), n4, sm, r6K, sm_cg (mo4 6) (mo 6) 5 K (fun j hj => r6 _ (by omega))]
        refine ⟨ta4, _, _, g1, g2, ?_, ?_, ⟨?_, ?_, by omega, ?_, fun k hk => ?_, fun k a b => ?_⟩, ?_, fun q hq => by rw [g7 q hq, d7 q hq, c5 q hq], ?_, fun q a b c => ?_⟩
        · exact T_cg g3 (up2_k (by decide)) (fun q a b => up2_k (by omega))
        · rw [up2_k (by decide)]; exact g4
        · rw [up2_s]
        · rw [up2_s, r20, nI_1]
        · rw [up2_k (by decide), up2_s, up2_k (by decide)]; exact k1
        · by_cases e : k = K
          · subst e
            refine ⟨?_, ?_, ?_, ?_⟩
            · rw [up2_k (by decide), up2_k (by decide), up2_k (by decide), up2_k (by decide), r5K, g10 2 (by decide) (by decide) (by decide), up2_s]
            · rw [up2_k (by decide), up2_k (by decide), up2_s, up2_k (by decide), r6K]
            · rw [up2_k (by decide), r6K]; omega
            · exact g5.cg (fun g _ => by rw [up2_k (by decide), up2_k (by decide), up2_k (by decide)]) (by rw [up2_k (by decide), up2_k (by decide), up2_k (by decide)]) (fun c _ => by rw [up2_k (by decide), up2_k (by decide), up2_k (by decide)]) (fun g _ => by rw [up2_k (by decide)])
          · obtain ⟨y1, y2, y3, y4⟩ := n5 k (by omega)
            refine ⟨?_, ?_, ?_, ?_⟩
            · rw [up2_k (by decide), up2_k (by decide), up2_k (by decide), up2_k (by decide), r5 _ (by omega), g10 2 (by decide) (by decide) (by decide), up2_j e]; exact y1
            · rw [up2_k (by decide), up2_k (by decide), up2_j e, up2_k (by decide), r6 _ (by omega), g10 3 (by decide) (by decide) (by decide), up2_k (by decide)]; exact y2
            · rw [up2_k (by decide), r6 _ (by omega)]; exact y3
            · exact y4.cg (fun g hg => by rw [up2_k (by decide), up2_k (by decide), up2_k (by decide), (g12 _ (by omega)).1, up2_k (by decide)]) (by rw [up2_k (by decide), up2_k (by decide), up2_k (by decide), g11 k e, up2_k (by decide)]) (fun c hc => by rw [up2_k (by decide), up2_k (by decide), up2_k (by decide), (g12 _ (by omega)).2, up2_k (by decide)]) (fun g hg => by rw [up2_k (by decide), r7 _ (by omega)])
        · obtain ⟨y1, y2⟩ := n6 k (by omega) b
          refine ⟨by rw [up2_k (by decide), up2_k (by decide), up2_k (by decide), g11 k (by omega), up2_k (by decide)]; exact y1, fun c hc => ?_⟩
          rw [up2_k (by decide), up2_k (by decide), up2_k (by decide), (g12 _ (by omega)).2, up2_k (by decide)]; exact y2 c hc
        · rw [up2_k (by decide)]
          have e1 : (m3 29 0) = mo2 29 0 := by rw [m3k 29 (by decide)]
          have e2 : (up2 mo1 5 (5 + K) (mo 31 0)) 29 0 = mo1 29 0 := by rw [up2_k (by decide)]
          rw [e1] at g6
          rw [e2] at d6
          omega
        · refine OM.tr (oR.tr ⟨fun q hq => g8 q (by omega) (by omega), fun k _ => ⟨by rw [g8 5 (by decide) (by omega)], by rw [g8 6 (by decide) (by omega)]⟩, fun j hj => g9 j (by omega), fun q x y p _ => by rw [g8 q (by omega) (by omega)], fun i _ => ⟨by rw [g8 15 (by decide) (by omega)], by rw [g8 16 (by decide) (by omega)]⟩⟩ (oR.of (fun q hq => up2_k (by omega))))
        · rw [up2_k b, g8 q (by omega) c, m3k q (by omega), d8 q c, up2_k (by omega), c6 q c]
