theorem left_ok (fa m2 : jZ) (x : Int32) (h50 : m2 50 0 = fa 1 0) (h51 : m2 51 0 = fa 2 0) (b1 : 0 ≤ (fa 1 0).toInt) (b2 : (fa 2 0).toInt ≤ 324) (b3 : 0 ≤ (fa 2 0).toInt) (x1 : 0 ≤ x.toInt) (x2 : x.toInt ≤ 27000) : ∃ l : Int32, f_Falls_left fa x = some l ∧ f_Mo_landOf m2 x = some (x - l) ∧ 0 ≤ l.toInt ∧ l.toInt ≤ 10000000 := by
  have i0 : (0 : Int32).toInt = 0 := rfl
  unfold f_Falls_left f_Mo_landOf
  rw [h50, h51]
  by_cases c : fa 1 0 = 0
  · refine ⟨x, by rw [if_pos c], ?_, x1, by omega⟩
    rw [if_pos c, show x - x = 0 from i_ext (by rw [i_sub (by omega) (by omega), i0]; omega)]
  · have c0 : (fa 1 0).toInt ≠ 0 := fun e => c (i_ext (e.trans i0.symm))
    have pb := prod_bd (A := 27000) (B := 324) (by omega) x2 b3 b2
    have pn : 0 ≤ x.toInt * (fa 2 0).toInt := Int.mul_nonneg x1 b3
    have m1 : (x * fa 2 0).toInt = x.toInt * (fa 2 0).toInt := i_mul (by omega) (by omega)
    have d1 : (x * fa 2 0 / fa 1 0).toInt = x.toInt * (fa 2 0).toInt / (fa 1 0).toInt := by rw [i_div (by omega) (by omega), m1]
    have m2' : (Int32.toInt64 x * Int32.toInt64 (fa 2 0)).toInt = x.toInt * (fa 2 0).toInt := by rw [l_mul (by rw [i2l, i2l]; omega) (by rw [i2l, i2l]; omega), i2l, i2l]
    have d2 : (Int32.toInt64 x * Int32.toInt64 (fa 2 0) / Int32.toInt64 (fa 1 0)).toInt = x.toInt * (fa 2 0).toInt / (fa 1 0).toInt := by rw [l_div (by rw [i2l]; omega) (by omega), m2', i2l]
    have dn : 0 ≤ x.toInt * (fa 2 0).toInt / (fa 1 0).toInt := Int.ediv_nonneg pn b1
    have dl : x.toInt * (fa 2 0).toInt / (fa 1 0).toInt ≤ x.toInt * (fa 2 0).toInt := Int.ediv_le_self _ pn
    refine ⟨x * fa 2 0 / fa 1 0, by rw [if_neg c, nz_ok c0]; rfl, ?_, by omega, by omega⟩
    rw [if_neg c, nzl_ok (by rw [i2l]; exact c0), Option.bind_some]
    congr 2
    exact i_ext (by rw [l2i (by omega) (by omega), d1, d2])
theorem k1000 {b : Int32} (h1 : 0 ≤ b.toInt) (h2 : b.toInt ≤ 27) : (1000 * b).toInt = 1000 * b.toInt := by
  have e : (1000 : Int32).toInt = 1000 := rfl
  rw [i_mul (by rw [e]; omega) (by rw [e]; omega), e]
theorem sub_sub_i {x l : Int32} (h1 : 0 ≤ x.toInt) (h2 : x.toInt ≤ 27000) (h3 : 0 ≤ l.toInt) (h4 : l.toInt ≤ 10000000) : x - (x - l) = l := by
  have a : (x - l).toInt = x.toInt - l.toInt := i_sub (by omega) (by omega)
  apply i_ext; rw [i_sub (by omega) (by omega), a]; omega
theorem moved_ok {ro no mo fa m2 : jZ} (hp : iPlaces ro mo) (hn : iNotes no mo) (h4 : m2 4 = mo 4) (h11 : m2 11 = mo 11) (ht : ∀ j, j < 108 → m2 44 j = no 7 j) (x1 x2 : Int32) (hx0 : 0 ≤ x1.toInt) (h50 : m2 50 0 = fa 1 0) (h51 : m2 51 0 = fa 2 0) (b1 : 0 ≤ (fa 1 0).toInt) (b2 : (fa 2 0).toInt ≤ 324) (b3 : 0 ≤ (fa 2 0).toInt) :
    ∃ (fa2 : jZ) (r : Int32), f_Falls_movedTo fa ro no x1 x2 = some (fa2, r) ∧ f_Mo_movedTo m2 x1 x2 = some r ∧ ∀ k, k ≠ 3 → k ≠ 4 → fa2 k = fa k := by
  have P12 := hp.2.2.1
  unfold f_Falls_movedTo f_Mo_movedTo
  rw [isPlace_eq, h4, Option.bind_some]
  by_cases c : 0 ≤ x1.toInt ∧ x1.toInt < (mo 4 0).toInt
  · rw [if_pos c, if_neg (by decide), noBox_eq hp x1 (x2 + 2) x1.toInt.toNat (by omega) (by omega), without_eq m2 x1 x2 x1.toInt.toNat (by omega) (by omega), h11, Option.bind_some, Option.bind_some]
    simp only [b10]
    by_cases w : mo 11 x1.toInt.toNat = 0 ∨ (x2 + 2).toInt < (mo 11 x1.toInt.toNat).toInt
    · rw [if_neg (fun e => e w), if_neg (fun e => e w)]
      obtain ⟨b, a, s1, s2, s3, s4, s6, br, ar⟩ := six_ok (m2 := m2) hn ht x1 x2 (by omega) (by omega)
      rw [sums_eq fa x1 x2 s1 s2, s6, Option.bind_some, Option.bind_some]
      by_cases e : b = -1 ∨ a = -1
      · simp only [if_pos e, if_true]
        exact ⟨_, _, rfl, rfl, fun k k3 k4 => by rw [up2_k k4, up2_k k3]⟩
      · have hbr : 0 ≤ b.toInt ∧ b.toInt ≤ 27 := br.resolve_left (fun q => e (Or.inl q))
        have har : 0 ≤ a.toInt ∧ a.toInt ≤ 27 := ar.resolve_left (fun q => e (Or.inr q))
        have kb := k1000 hbr.1 hbr.2
        have u1 : up2 (up2 fa 3 0 b) 4 0 a 1 = fa 1 := by rw [up2_k (by decide), up2_k (by decide)]
        have u2 : up2 (up2 fa 3 0 b) 4 0 a 2 = fa 2 := by rw [up2_k (by decide), up2_k (by decide)]
        have u3 : up2 (up2 fa 3 0 b) 4 0 a 3 0 = b := by rw [up2_k (by decide), up2_s]
        have u4 : up2 (up2 fa 3 0 b) 4 0 a 4 0 = a := up2_s
        obtain ⟨l, l1, l2, l3, l4⟩ := left_ok (up2 (up2 fa 3 0 b) 4 0 a) m2 (1000 * b) (by rw [u1]; exact h50) (by rw [u2]; exact h51) (by rw [u1]; exact b1) (by rw [u2]; exact b2) (by rw [u2]; exact b3) (by omega) (by omega)
        simp only [if_neg e, u3, u4]
        rw [if_neg (by decide), if_neg (by decide), s3, s4, Option.bind_some, Option.bind_some, l1, l2, Option.bind_some, Option.bind_some, sub_sub_i (by omega) (by omega) l3 l4]
        exact ⟨_, _, rfl, rfl, fun k k3 k4 => by rw [up2_k k4, up2_k k3]⟩
    · rw [if_pos w, if_pos w]
      exact ⟨_, _, rfl, rfl, fun k _ _ => rfl⟩
  · rw [if_neg c, if_pos rfl]
    refine ⟨fa, 0, ?_, rfl, fun k _ _ => rfl⟩
    unfold f_Road_hasNoBoxBy
    rw [has_is hp, isPlace_eq, if_neg c, Option.bind_some, if_pos rfl, Option.bind_some, if_pos rfl]
theorem back_ok (od my : jY) (A B : Int64) (hA : od 2 0 = A) (hB : od 3 0 = B) (h : (A.toInt = 0 ∧ B.toInt = 0) ∨ (0 < B.toInt ∧ 0 ≤ A.toInt ∧ A.toInt ≤ 9 * B.toInt ∧ A.toInt ≤ 44550000000)) (b : Int32) (hb0 : 0 ≤ b.toInt) (hb : b.toInt ≤ 27000) : ∃ v : Int32, f_Odds_times od 3000 b = some v ∧ 0 ≤ v.toInt ∧ v.toInt ≤ 27000 ∧ v = (if lg_cmp B 0 = 0 then b else Int64.toInt32 (3000 * A / B)) := by
  unfold f_Odds_times
  rw [hA, hB]
  by_cases c : lg_cmp B 0 = 0
  · rw [if_pos c]
    exact ⟨_, rfl, hb0, hb, by rw [if_pos c]⟩
  · have c0 : B.toInt ≠ 0 := fun e => c ((lc_eq B 0).mpr (e.trans l0.symm))
    obtain ⟨p1, p2, p3, p4⟩ := h.resolve_left (fun q => c0 q.2)
    have e3 : (3000 : Int64).toInt = 3000 := rfl
    have m1 : (3000 * A).toInt = 3000 * A.toInt := by rw [l_mul (by rw [e3]; omega) (by rw [e3]; omega), e3]
    have d1 : (3000 * A / B).toInt = 3000 * A.toInt / B.toInt := by rw [l_div p1 (by omega), m1]
    have d2 : 0 ≤ 3000 * A.toInt / B.toInt := Int.ediv_nonneg (by omega) (by omega)
    have d3 : 3000 * A.toInt / B.toInt ≤ 27000 := by
      have := Int.ediv_le_ediv (a := 3000 * A.toInt) (b := 27000 * B.toInt) (c := B.toInt) p1 (by omega)
      rw [Int.mul_ediv_cancel _ c0] at this
      exact this
    rw [if_neg c, nzl_ok c0, Option.bind_some]
    have t : (Int64.toInt32 (3000 * A / B)).toInt = 3000 * A.toInt / B.toInt := by rw [l2i (by omega) (by omega), d1]
    exact ⟨_, rfl, by rw [show Int32.toInt64 3000 = 3000 from rfl, t]; exact d2, by rw [show Int32.toInt64 3000 = 3000 from rfl, t]; exact d3, by rw [if_neg c]; rfl⟩
