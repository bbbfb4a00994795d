theorem inB_i (x : Int32) : inB (Int32.toInt64 x) := by
  unfold inB; rw [i2l]
  have := i_lo x
  have := i_hi x
  omega
theorem name_eq {ru mo : jZ} {a b c q s va : Int32} (r5 : ru 5 0 = a) (r6 : ru 6 0 = b) (r7 : ru 7 0 = c) (r8 : ru 8 0 = q) (m0' : mo 49 0 = a) (m1 : mo 49 1 = b) (m2 : mo 49 2 = c)
    (h : (va = 0 ∧ s = 518160384) ∨ (va = 1 ∧ s = 695697408) ∨ (va = 2 ∧ s = 680072352) ∨ (va = 3 ∧ s = 659980288) ∨ (va = 4 ∧ s = 452579328) ∨ (va = 5 ∧ s = 407948928) ∨ (va = 6 ∧ s = 117095065)) :
    ∃ v, f_Rule_valueOf ru s = some v ∧ f_Mo_nameOf mo va q = some v ∧ inB v ∧ f_Tape_isOfCounts s = some 1 ∧ 0 ≤ s := by
  have x0 : ix 0 3 = some 0 := rfl
  have x1 : ix 1 3 = some 1 := rfl
  have x2 : ix 2 3 = some 2 := rfl
  have t0 : (0 : Int32).toNatClampNeg = 0 := rfl
  have t1 : (1 : Int32).toNatClampNeg = 1 := rfl
  have t2 : (2 : Int32).toNatClampNeg = 2 := rfl
  rcases h with ⟨h1, h2⟩ | ⟨h1, h2⟩ | ⟨h1, h2⟩ | ⟨h1, h2⟩ | ⟨h1, h2⟩ | ⟨h1, h2⟩ | ⟨h1, h2⟩ <;> subst h1 <;> subst h2
  · exact ⟨Int32.toInt64 a, by unfold f_Rule_valueOf; rw [r5]; rfl, by unfold f_Mo_nameOf; rw [x0, t0, m0']; rfl, inB_i _, rfl, by decide⟩
  · exact ⟨Int32.toInt64 b, by unfold f_Rule_valueOf; rw [r6]; rfl, by unfold f_Mo_nameOf; rw [x1, t1, m1]; rfl, inB_i _, rfl, by decide⟩
  · exact ⟨Int32.toInt64 c, by unfold f_Rule_valueOf; rw [r7]; rfl, by unfold f_Mo_nameOf; rw [x2, t2, m2]; rfl, inB_i _, rfl, by decide⟩
  · exact ⟨Int32.toInt64 ((a + b) + c), by unfold f_Rule_valueOf; rw [r5, r6, r7]; rfl, by unfold f_Mo_nameOf; rw [x0, x1, x2, t0, t1, t2, m0', m1, m2]; rfl, inB_i _, rfl, by decide⟩
  · exact ⟨Int32.toInt64 (if a < (if b < c then c else b) then (if b < c then c else b) else a), by unfold f_Rule_valueOf; rw [r5, r6, r7]; rfl, by unfold f_Mo_nameOf; rw [x0, x1, x2, t0, t1, t2, m0', m1, m2]; rfl, inB_i _, rfl, by decide⟩
  · exact ⟨Int32.toInt64 (if (if c < b then c else b) < a then (if c < b then c else b) else a), by unfold f_Rule_valueOf; rw [r5, r6, r7]; rfl, by unfold f_Mo_nameOf; rw [x0, x1, x2, t0, t1, t2, m0', m1, m2]; rfl, inB_i _, rfl, by decide⟩
  · exact ⟨Int32.toInt64 q, by unfold f_Rule_valueOf; rw [r8]; rfl, rfl, inB_i _, rfl, by decide⟩
theorem tk_err (a b c q : Int32) (ru : jZ) (ruy : jY) (v : Int32) (N : Nat) (h : ru 4 0 = 1) : f_Rule_takes_34 a b c q (N + 1) ru ruy v = some (ru, ruy, 0) := by
  have e : f_Rule_takes_77 a b c q ru ruy = some (ru, ruy, 0) := by
    unfold f_Rule_takes_77; rw [h, if_neg (by decide)]
  rw [f_Rule_takes_34, e, h]
  by_cases c1 : ru 0 0 ≤ v
  · rw [if_pos c1]
  · rw [if_neg c1]
    by_cases c2 : 64 ≤ v
    · rw [if_pos c2]
    · rw [if_neg c2, if_neg (by decide)]
theorem tk_loop {ruB moB : jZ} (hR : iRule ruB moB) (a b c q : Int32) (r5 : ruB 5 0 = a) (r6 : ruB 6 0 = b) (r7 : ruB 7 0 = c) (r8 : ruB 8 0 = q) (h0 : moB 49 0 = a) (h1 : moB 49 1 = b) (h2 : moB 49 2 = c) (hs : 0 < (moB 17 0).toInt) : ∀ (n i N1 N2 : Nat) (ru mo : jZ) (ruy moy : jY), (i : Int) + n = (moB 17 0).toInt → n + 1 < N1 → n < N2 → (∀ k, k ≠ 3 → k ≠ 4 → ru k = ruB k) → ru 4 0 = 0 → (∀ k, k ≠ 48 → mo k = moB k) → sRel ru mo ruy moy (dpt (moB 15) (moB 16) i) →
    ∃ ru2 ruy2 mo2 moy2 r, f_Rule_takes_34 a b c q N1 ru ruy (nI i) = some (ru2, ruy2, r) ∧ f_Mo_takes_16 q N2 mo moy (nI i) = some (mo2, moy2, r) ∧ (r = 0 ∨ r = 1) ∧ (∀ k, k ≠ 3 → k ≠ 4 → ru2 k = ruB k) ∧ (∀ k, k ≠ 48 → mo2 k = moB k) := by
  have i64 : (64 : Int32).toInt = 64 := rfl
  obtain ⟨R0, ⟨R1, R2⟩, R3, R4⟩ := id hR
  intro n
  induction n with
  | zero =>
    intro i N1 N2 ru mo ruy moy hi hN1 hN2 hru h4 hmo hS
    obtain ⟨N1, rfl⟩ : ∃ k, N1 = k + 1 := ⟨N1 - 1, by omega⟩
    obtain ⟨N2, rfl⟩ : ∃ k, N2 = k + 1 := ⟨N2 - 1, by omega⟩
    have ti : (nI i).toInt = i := nI_toInt (by omega)
    have hd : dpt (moB 15) (moB 16) i = 1 := by
      have := R4.resolve_left (by omega)
      rw [← this]; congr 1; omega
    rw [hd] at hS
    obtain ⟨s1, s2, s3⟩ := hS
    obtain ⟨y1, -⟩ := s3 0 (by omega)
    have x0 : ix 0 64 = some 0 := rfl
    have t0 : (0 : Int32).toNatClampNeg = 0 := rfl
    rw [f_Rule_takes_34, f_Mo_takes_16, hru 0 (by decide) (by decide), R0, hmo 17 (by decide), if_pos (by rw [i_le]; omega), if_pos (by rw [i_le]; omega)]
    unfold f_Rule_takes_77
    rw [h4, s1, x0, t0, y1, if_pos rfl, if_pos (show nI 1 = 1 from rfl), Option.bind_some, Option.bind_some]
    by_cases e : lg_cmp (moy 47 0) 0 = 0
    · rw [if_pos e, if_pos e]; exact ⟨_, _, _, _, _, rfl, rfl, Or.inl rfl, hru, hmo⟩
    · rw [if_neg e, if_neg e]; exact ⟨_, _, _, _, _, rfl, rfl, Or.inr rfl, hru, hmo⟩
  | succ n ih =>
    intro i N1 N2 ru mo ruy moy hi hN1 hN2 hru h4 hmo hS
    obtain ⟨N1, rfl⟩ : ∃ k, N1 = k + 1 + 1 := ⟨N1 - 2, by omega⟩
    obtain ⟨N2, rfl⟩ : ∃ k, N2 = k + 1 := ⟨N2 - 1, by omega⟩
    have ti : (nI i).toInt = i := nI_toInt (by omega)
    obtain ⟨K, D⟩ := R3 i (by omega)
    have dle := dpt_le (moB 15) (moB 16) i
    have m49 : mo 49 = moB 49 := hmo 49 (by decide)
    have A : f_Rule_takes_34 a b c q (N1 + 1 + 1) ru ruy (nI i) = (f_Rule_work ru ruy (ruB 1 i)).bind fun q5 => f_Rule_takes_34 a b c q (N1 + 1) q5.1 q5.2 (nI (i + 1)) := by
      rw [f_Rule_takes_34, hru 0 (by decide) (by decide), R0, if_neg (by rw [i_le]; omega), if_neg (by rw [i_le]; omega), h4, if_pos rfl, ix_ok (by omega) (by omega), Option.bind_some, i_tn, ti, Int.toNat_natCast, hru 1 (by decide) (by decide), nI_1]
    rw [A]
    have dstep : dpt (moB 15) (moB 16) (i + 1) = if moB 15 i = 2 then (if moB 16 i = 260 then dpt (moB 15) (moB 16) i else dpt (moB 15) (moB 16) i - 1) else dpt (moB 15) (moB 16) i + 1 := rfl
    have BV : ∀ v : Int64, inB v → f_Rule_work ru ruy (ruB 1 i) = some (up2 ru 3 0 (nI (dpt (moB 15) (moB 16) i + 1)), up2 ruy 2 (dpt (moB 15) (moB 16) i) v) → f_Mo_takes_16 q (N2 + 1) mo moy (nI i) = f_Mo_takes_16 q N2 (up2 mo 48 0 (nI (dpt (moB 15) (moB 16) i + 1))) (up2 moy 47 (dpt (moB 15) (moB 16) i) v) (nI (i + 1)) → ¬ moB 15 i = 2 →
        ∃ ru2 ruy2 mo2 moy2 r, ((f_Rule_work ru ruy (ruB 1 i)).bind fun q5 => f_Rule_takes_34 a b c q (N1 + 1) q5.1 q5.2 (nI (i + 1))) = some (ru2, ruy2, r) ∧ f_Mo_takes_16 q (N2 + 1) mo moy (nI i) = some (mo2, moy2, r) ∧ (r = 0 ∨ r = 1) ∧ (∀ k, k ≠ 3 → k ≠ 4 → ru2 k = ruB k) ∧ (∀ k, k ≠ 48 → mo2 k = moB k) := fun v hv e1 e2 n2 => by
      rw [e1, e2, Option.bind_some]
      obtain ⟨s1, s2, s3⟩ := hS
      refine ih (i + 1) (N1 + 1) N2 _ _ _ _ (by omega) (by omega) (by omega) (fun k k3 k4 => by dsimp only; rw [up2_k k3]; exact hru k k3 k4) (by dsimp only; rw [up2_k (by decide)]; exact h4) (fun k hk => by rw [up2_k hk]; exact hmo k hk) ?_
      rw [dstep, if_neg n2]
      refine ⟨by dsimp only; exact up2_s, up2_s, fun j hj => ?_⟩
      dsimp only
      by_cases e : j = dpt (moB 15) (moB 16) i
      · rw [e, up2_s, up2_s]; exact ⟨rfl, hv⟩
      · rw [up2_j e, up2_j e]; exact s3 j (by omega)
    have t48 : (mo 48 0).toInt = dpt (moB 15) (moB 16) i := by rw [hS.2.1]; exact nI_toInt (by omega)
    rcases K with ⟨k1, k2, k3, k4⟩ | ⟨k1, kn⟩ | ⟨k1, ks⟩
    · refine BV (Int32.toInt64 (moB 16 i)) (inB_i _) ?_ ?_ (by rw [k1]; decide)
      · have im1 : (-1 : Int32).toInt = -1 := rfl
        have i0 : (0 : Int32).toInt = 0 := rfl
        have e : -1 - ruB 1 i = moB 16 i := i_ext (by rw [i_sub (by omega) (by omega), im1]; omega)
        unfold f_Rule_work
        rw [if_neg (by rw [i_le]; omega), e, push_ok ruy _ hS.1 (by omega) _ (inB_i _), Option.bind_some]
      · rw [f_Mo_takes_16, hmo 17 (by decide), if_neg (by rw [i_le]; omega), ix_ok (by omega) (by omega)]
        simp only [Option.bind_some, i_tn, ti, Int.toNat_natCast, hmo 15 (by decide), hmo 16 (by decide), k1]
        rw [if_neg (by decide), if_pos trivial, ix_ok (by omega) (by omega), Option.bind_some, t48, hS.2.1, Int.toNat_natCast, nI_1, nI_1]
    · obtain ⟨v, v1, v2, v3, v4, v5⟩ := name_eq (ru := ru) (mo := mo) (a := a) (b := b) (c := c) (q := q) (by rw [hru 5 (by decide) (by decide)]; exact r5) (by rw [hru 6 (by decide) (by decide)]; exact r6) (by rw [hru 7 (by decide) (by decide)]; exact r7) (by rw [hru 8 (by decide) (by decide)]; exact r8) (by rw [m49]; exact h0) (by rw [m49]; exact h1) (by rw [m49]; exact h2) kn
      refine BV v v3 ?_ ?_ (by rw [k1]; decide)
      · unfold f_Rule_work
        rw [if_pos v5, v4, Option.bind_some, if_neg (by decide), v1, Option.bind_some, push_ok ruy _ hS.1 (by omega) _ v3, Option.bind_some]
      · rw [f_Mo_takes_16, hmo 17 (by decide), if_neg (by rw [i_le]; omega), ix_ok (by omega) (by omega)]
        simp only [Option.bind_some, i_tn, ti, Int.toNat_natCast, hmo 15 (by decide), hmo 16 (by decide), k1, v2]
        rw [if_neg (by decide), if_neg (by decide), ix_ok (by omega) (by omega), Option.bind_some, t48, hS.2.1, Int.toNat_natCast, nI_1, nI_1]
    · have B : f_Mo_takes_16 q (N2 + 1) mo moy (nI i) = (f_Mo_works mo moy (moB 16 i)).bind fun q14 => (if q14.2.2 = 0 then some (q14.1, q14.2.1, 0) else f_Mo_takes_16 q N2 q14.1 q14.2.1 (nI (i + 1))) := by
        rw [f_Mo_takes_16, hmo 17 (by decide), if_neg (by rw [i_le]; omega), ix_ok (by omega) (by omega)]
        simp only [Option.bind_some, i_tn, ti, Int.toNat_natCast, hmo 15 (by decide), hmo 16 (by decide), k1]
        rw [if_pos trivial, nI_1]
      rw [B]
      have Dk := D k1
      by_cases hnot : moB 16 i = 260
      · have hst : ruB 1 i = 486146048 := by
          rw [hnot] at ks
          rcases ks with ⟨h, -⟩ | ⟨h, -⟩ | ⟨h, -⟩ | ⟨h, -⟩ | ⟨h, -⟩ | ⟨h, -⟩ | ⟨h, -⟩ | ⟨h, -⟩ | ⟨h, -⟩ | ⟨h, -⟩ | ⟨h, h'⟩ | ⟨h, -⟩ | ⟨h, -⟩
          all_goals first | exact h' | exact absurd h (by decide)
        rw [if_pos hnot] at Dk
        obtain ⟨d, hdd⟩ : ∃ d, dpt (moB 15) (moB 16) i = d + 1 := ⟨dpt (moB 15) (moB 16) i - 1, by omega⟩
        rw [hdd] at hS dstep
        obtain ⟨s1, s2, s3⟩ := hS
        obtain ⟨y1, y2⟩ := s3 d (by omega)
        have td : (nI (d + 1)).toInt = ((d + 1 : Nat) : Int) := nI_toInt (by omega)
        have i1 : (1 : Int32).toInt = 1 := rfl
        have sd : (nI (d + 1) - 1).toInt = (d : Int) := by rw [i_sub (by omega) (by omega), td, i1]; omega
        have b0 : inB 0 := by unfold inB; rw [l0]; omega
        have b1 : inB 1 := by unfold inB; rw [show (1 : Int64).toInt = 1 from rfl]; omega
        have G : ∀ v, (v = 0 ∨ v = 1) → f_Rule_work ru ruy (ruB 1 i) = some (up2 (up2 ru 3 0 (nI d)) 3 0 (nI (d + 1)), up2 ruy 2 d v) → f_Mo_works mo moy (moB 16 i) = some (mo, up2 moy 47 d v, 1) → ∃ ru2 ruy2 mo2 moy2 r, ((f_Rule_work ru ruy (ruB 1 i)).bind fun q5 => f_Rule_takes_34 a b c q (N1 + 1) q5.1 q5.2 (nI (i + 1))) = some (ru2, ruy2, r) ∧ ((f_Mo_works mo moy (moB 16 i)).bind fun q14 => (if q14.2.2 = 0 then some (q14.1, q14.2.1, 0) else f_Mo_takes_16 q N2 q14.1 q14.2.1 (nI (i + 1)))) = some (mo2, moy2, r) ∧ (r = 0 ∨ r = 1) ∧ (∀ k, k ≠ 3 → k ≠ 4 → ru2 k = ruB k) ∧ (∀ k, k ≠ 48 → mo2 k = moB k) := fun v hv e1 e2 => by
          rw [e1, e2, Option.bind_some, Option.bind_some]
          dsimp only
          rw [if_neg (by decide)]
          refine ih (i + 1) (N1 + 1) N2 _ _ _ _ (by omega) (by omega) (by omega) (fun k k3 k4 => by rw [up2_k k3, up2_k k3]; exact hru k k3 k4) (by rw [up2_k (by decide), up2_k (by decide)]; exact h4) hmo ?_
          rw [dstep, if_pos k1, if_pos hnot]
          refine ⟨up2_s, s2, fun j hj => ?_⟩
          by_cases e : j = d
          · rw [e, up2_s, up2_s]; exact ⟨rfl, by rcases hv with h | h <;> rw [h] <;> assumption⟩
          · rw [up2_j e, up2_j e]; exact s3 j hj
        have WK : f_Rule_work ru ruy (ruB 1 i) = (if lg_cmp (moy 47 d) 0 = 0 then (f_Rule_push (up2 ru 3 0 (nI d)) ruy 1).bind fun q19 => some (q19.1, q19.2) else (f_Rule_push (up2 ru 3 0 (nI d)) ruy 0).bind fun q17 => some (q17.1, q17.2)) := by
          rw [hst]
          unfold f_Rule_work
          rw [if_pos (by decide), show f_Tape_isOfCounts 486146048 = some 0 from rfl, Option.bind_some, if_pos rfl, if_pos rfl, pop_eq ruy d s1 (by omega), Option.bind_some, y1]
        have WM : f_Mo_works mo moy (moB 16 i) = (if lg_cmp (moy 47 d) 0 = 0 then some (mo, up2 moy 47 d 1, 1) else some (mo, up2 moy 47 d 0, 1)) := by
          rw [hnot]
          unfold f_Mo_works
          rw [s2, ix_ok (by omega) (by omega), Option.bind_some, if_pos rfl]
          simp only [i_tn, sd, Int.toNat_natCast, Option.bind_some]
          rfl
        by_cases e : lg_cmp (moy 47 d) 0 = 0
        · rw [if_pos e] at WK WM
          rw [push_ok ruy d up2_s (by omega) 1 b1, Option.bind_some] at WK
          exact G 1 (Or.inr rfl) WK WM
        · rw [if_neg e] at WK WM
          rw [push_ok ruy d up2_s (by omega) 0 b0, Option.bind_some] at WK
          exact G 0 (Or.inl rfl) WK WM
      · have kb : kBin (ruB 1 i) (moB 16 i) := by
          unfold kBin
          rcases ks with h | h | h | h | h | h | h | h | h | h | h | h | h
          · exact Or.inl h
          · exact Or.inr (Or.inl h)
          · exact Or.inr (Or.inr (Or.inl h))
          · exact Or.inr (Or.inr (Or.inr (Or.inl h)))
          · exact Or.inr (Or.inr (Or.inr (Or.inr (Or.inl h))))
          · exact Or.inr (Or.inr (Or.inr (Or.inr (Or.inr (Or.inl h)))))
          · exact Or.inr (Or.inr (Or.inr (Or.inr (Or.inr (Or.inr (Or.inl h))))))
          · exact Or.inr (Or.inr (Or.inr (Or.inr (Or.inr (Or.inr (Or.inr (Or.inl h)))))))
          · exact Or.inr (Or.inr (Or.inr (Or.inr (Or.inr (Or.inr (Or.inr (Or.inr (Or.inl h))))))))
          · exact Or.inr (Or.inr (Or.inr (Or.inr (Or.inr (Or.inr (Or.inr (Or.inr (Or.inr (Or.inl h)))))))))
          · exact absurd h.1 hnot
          · exact Or.inr (Or.inr (Or.inr (Or.inr (Or.inr (Or.inr (Or.inr (Or.inr (Or.inr (Or.inr (Or.inl h))))))))))
          · exact Or.inr (Or.inr (Or.inr (Or.inr (Or.inr (Or.inr (Or.inr (Or.inr (Or.inr (Or.inr (Or.inr h))))))))))
        rw [if_neg hnot] at Dk
        obtain ⟨d, hdd⟩ : ∃ d, dpt (moB 15) (moB 16) i = d + 2 := ⟨dpt (moB 15) (moB 16) i - 2, by omega⟩
        rw [hdd] at hS dstep
        rcases bin_step hS (by omega) h4 _ _ kb with ⟨ru2, ruy2, mo2, moy2, e1, e2, e3, e4, e5⟩ | ⟨ru2, ruy2, mo2, moy2, e1, e2, e3, e4, e5, e6⟩
        · rw [e1, e2, Option.bind_some, Option.bind_some]
          dsimp only
          rw [if_pos rfl, tk_err a b c q ru2 ruy2 _ N1 e3]
          exact ⟨_, _, _, _, _, rfl, rfl, Or.inl rfl, fun k k3 k4 => (e4 k k3 k4).trans (hru k k3 k4), fun k hk => (e5 k hk).trans (hmo k hk)⟩
        · rw [e1, e2, Option.bind_some, Option.bind_some]
          dsimp only
          rw [if_neg (by decide)]
          refine ih (i + 1) (N1 + 1) N2 ru2 mo2 ruy2 moy2 (by omega) (by omega) (by omega) (fun k k3 k4 => (e4 k k3 k4).trans (hru k k3 k4)) e3 (fun k hk => (e5 k hk).trans (hmo k hk)) ?_
          rw [dstep, if_pos k1, if_neg hnot]
          exact e6
/-- the rule on both sides -/
theorem takes_ok {ru mo : jZ} (hR : iRule ru mo) (ruy moy : jY) (a b c q : Int32) (h0 : mo 49 0 = a) (h1 : mo 49 1 = b) (h2 : mo 49 2 = c) :
    ∃ ru2 ruy2 mo2 moy2 r, f_Rule_takes ru ruy a b c q = some (ru2, ruy2, r) ∧ f_Mo_takes mo moy q = some (mo2, moy2, r) ∧ (r = 0 ∨ r = 1) ∧ ru2 0 = ru 0 ∧ ru2 1 = ru 1 ∧ (∀ k, k ≠ 48 → mo2 k = mo k) := by
  obtain ⟨R0, ⟨R1, R2⟩, R3, R4⟩ := id hR
  generalize hB : up2 (up2 (up2 (up2 (up2 (up2 ru 5 0 a) 6 0 b) 7 0 c) 8 0 q) 3 0 0) 4 0 0 = ruB
  have b0 : ruB 0 = ru 0 := by rw [← hB, up2_k (by decide), up2_k (by decide), up2_k (by decide), up2_k (by decide), up2_k (by decide), up2_k (by decide)]
  have b1 : ruB 1 = ru 1 := by rw [← hB, up2_k (by decide), up2_k (by decide), up2_k (by decide), up2_k (by decide), up2_k (by decide), up2_k (by decide)]
  have b3 : ruB 3 0 = 0 := by rw [← hB, up2_k (by decide), up2_s]
  have b4 : ruB 4 0 = 0 := by rw [← hB, up2_s]
  have b5 : ruB 5 0 = a := by rw [← hB, up2_k (by decide), up2_k (by decide), up2_k (by decide), up2_k (by decide), up2_k (by decide), up2_s]
  have b6 : ruB 6 0 = b := by rw [← hB, up2_k (by decide), up2_k (by decide), up2_k (by decide), up2_k (by decide), up2_s]
  have b7 : ruB 7 0 = c := by rw [← hB, up2_k (by decide), up2_k (by decide), up2_k (by decide), up2_s]
  have b8 : ruB 8 0 = q := by rw [← hB, up2_k (by decide), up2_k (by decide), up2_s]
  unfold f_Rule_takes f_Mo_takes
  rw [hB]
  by_cases z : (mo 17 0).toInt = 0
  · have i0 : (0 : Int32).toInt = 0 := rfl
    have z' : mo 17 0 = 0 := i_ext (z.trans i0.symm)
    have hF : FU = 999999 + 1 := by decide
    rw [if_pos z', hF, f_Rule_takes_34, b0, R0, z', if_pos (by decide)]
    unfold f_Rule_takes_77
    rw [b4, if_pos rfl, b3, if_neg (by decide)]
    exact ⟨_, _, _, _, _, rfl, rfl, Or.inl rfl, b0, b1, fun k _ => rfl⟩
  · have z' : ¬ mo 17 0 = 0 := fun e => z (by rw [e]; rfl)
    rw [if_neg z']
    have hR2 : iRule ruB (up2 mo 48 0 0) := by
      unfold iRule
      rw [b0, b1, up2_k (by decide), up2_k (by decide), up2_k (by decide)]; exact hR
    obtain ⟨ru2, ruy2, mo2, moy2, r, e1, e2, e3, e4, e5⟩ := tk_loop hR2 a b c q b5 b6 b7 b8 (by rw [up2_k (by decide)]; exact h0) (by rw [up2_k (by decide)]; exact h1) (by rw [up2_k (by decide)]; exact h2) (by rw [up2_k (by decide)]; omega) (mo 17 0).toInt.toNat 0 FU FU ruB (up2 mo 48 0 0) ruy moy (by rw [up2_k (by decide)]; omega) (by unfold FU; omega) (by unfold FU; omega) (fun _ _ _ => rfl) b4 (fun _ _ => rfl) ⟨b3, up2_s, fun j hj => absurd hj (Nat.not_lt_zero j)⟩
    exact ⟨ru2, ruy2, mo2, moy2, r, e1, e2, e3, by rw [e4 0 (by decide) (by decide), b0], by rw [e4 1 (by decide) (by decide), b1], fun k hk => by rw [e5 k hk, up2_k hk]⟩
