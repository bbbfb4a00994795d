/-! ===== rates of all places ===== -/
def isLast (no : jZ) (k : Nat) (r : Int32) : Prop := (r = -1 ∧ ∀ j, j < k → no 7 j = -1) ∨ (∃ y, y < 9 ∧ r = nI y ∧ (∃ j, j < k ∧ j % 9 = y ∧ ¬ no 7 j = -1) ∧ ∀ j, j < k → ¬ no 7 j = -1 → j % 9 ≤ y)
theorem isLast.uq {no : jZ} {k : Nat} {r s : Int32} (h : isLast no k r) (h2 : isLast no k s) : r = s := by
  rcases h with ⟨a, b⟩ | ⟨y, a, b, ⟨j, c, d, e⟩, f⟩
  · rcases h2 with ⟨a2, b2⟩ | ⟨y2, a2, b2, ⟨j2, c2, d2, e2⟩, f2⟩
    · rw [a, a2]
    · exact absurd (b j2 c2) e2
  · rcases h2 with ⟨a2, b2⟩ | ⟨y2, a2, b2, ⟨j2, c2, d2, e2⟩, f2⟩
    · exact absurd (b2 j c) e
    · have h1 := f2 j c e
      have h2 := f j2 c2 e2
      rw [b, b2]; congr 1; omega
theorem ly_9 (no : jZ) (k3 : Int32 → Option Int32) (y : Nat) (hy : y < 9) : ∀ (n p N : Nat), p + n = 12 → n < N → ((∃ j, p ≤ j ∧ j < 12 ∧ ¬ no 7 (9 * j + y) = -1) ∧ f_Notes_latestYear_9 no k3 N (nI y) (nI p) = some (nI y)) ∨ ((∀ j, p ≤ j → j < 12 → no 7 (9 * j + y) = -1) ∧ f_Notes_latestYear_9 no k3 N (nI y) (nI p) = k3 (nI y + (-1))) := by
  have i12 : (12 : Int32).toInt = 12 := rfl
  have ty : (nI y).toInt = y := nI_toInt (by omega)
  intro n
  induction n with
  | zero =>
    intro p N hp hN
    obtain ⟨N, rfl⟩ : ∃ k, N = k + 1 := ⟨N - 1, by omega⟩
    have tp : (nI p).toInt = p := nI_toInt (by omega)
    right
    exact ⟨fun j h1 h2 => by omega, by rw [f_Notes_latestYear_9, if_pos (by rw [i_le]; omega)]⟩
  | succ n ih =>
    intro p N hp hN
    obtain ⟨N, rfl⟩ : ∃ k, N = k + 1 := ⟨N - 1, by omega⟩
    have tp : (nI p).toInt = p := nI_toInt (by omega)
    rw [f_Notes_latestYear_9, if_neg (by rw [i_le]; omega), at_p no _ _ p y tp ty (by omega) hy, Option.bind_some, nI_1]
    by_cases c : no 7 (9 * p + y) = -1
    · rw [if_pos c]
      rcases ih (p + 1) N (by omega) (by omega) with ⟨⟨j, a, b, d⟩, e⟩ | ⟨a, e⟩
      · exact Or.inl ⟨⟨j, by omega, b, d⟩, e⟩
      · refine Or.inr ⟨fun j h1 h2 => ?_, e⟩
        by_cases f : j = p
        · rw [f]; exact c
        · exact a j (by omega) h2
    · rw [if_neg c]
      exact Or.inl ⟨⟨p, by omega, by omega, c⟩, rfl⟩
theorem ly_3 (no : jZ) : ∀ (n N : Nat) (v : Int32), n ≤ 9 → n < N → v.toInt = (n : Int) - 1 → (∀ j, j < 108 → ¬ no 7 j = -1 → j % 9 < n) → ∃ r, f_Notes_latestYear_3 no N v = some r ∧ isLast no 108 r := by
  have i0 : (0 : Int32).toInt = 0 := rfl
  have im : (-1 : Int32).toInt = -1 := rfl
  intro n
  induction n with
  | zero =>
    intro N v hn hN hv hj
    obtain ⟨N, rfl⟩ : ∃ k, N = k + 1 := ⟨N - 1, by omega⟩
    refine ⟨-1, by rw [f_Notes_latestYear_3, if_pos (by rw [i_lt]; omega)], Or.inl ⟨rfl, fun j hj' => ?_⟩⟩
    exact Classical.byContradiction fun e => by have := hj j hj' e; omega
  | succ n ih =>
    intro N v hn hN hv hj
    obtain ⟨N, rfl⟩ : ∃ k, N = k + 1 := ⟨N - 1, by omega⟩
    have tn : (nI n).toInt = n := nI_toInt (by omega)
    have hvn : v = nI n := i_ext (by rw [hv, tn]; omega)
    subst hvn
    rw [f_Notes_latestYear_3, if_neg (by rw [i_lt]; omega)]
    rcases ly_9 no (fun v1 => f_Notes_latestYear_3 no N v1) n (by omega) 12 0 FU rfl (by decide) with ⟨⟨j, a, b, d⟩, e⟩ | ⟨a, e⟩
    · refine ⟨nI n, e, Or.inr ⟨n, by omega, rfl, ⟨9 * j + n, by omega, by omega, d⟩, fun j' h1 h2 => ?_⟩⟩
      have := hj j' h1 h2; omega
    · rw [show f_Notes_latestYear_9 no (fun v1 => f_Notes_latestYear_3 no N v1) FU (nI n) 0 = _ from e]
      refine ih N (nI n + (-1)) (by omega) (by omega) (by rw [i_add (by omega) (by omega), im]; omega) (fun j h1 h2 => ?_)
      have h3 := hj j h1 h2
      by_cases f : j % 9 = n
      · exfalso
        have := a (j / 9) (by omega) (by omega)
        rw [show 9 * (j / 9) + n = j by omega] at this
        exact h2 this
      · omega
theorem md9 {k : Nat} (h : k < 108) : nI k - nI k / 9 * 9 = nI (k % 9) := by
  have i9 : (9 : Int32).toInt = 9 := rfl
  have tk : (nI k).toInt = k := nI_toInt (by omega)
  apply i_ext
  rw [mod_i (by omega) (by rw [i9]; decide), tk, i9, nI_toInt (by omega)]; omega
theorem ar_4 {no m2 : jZ} (ht : ∀ j, j < 108 → m2 44 j = no 7 j) (moy : jY) : ∀ (n k N : Nat) (v1 : Int32), k + n = 108 → n < N → isLast no k v1 → ∃ r, f_Mo_allRates_4 N m2 moy v1 (nI k) = f_Mo_allRates_37 FU m2 moy r 0 ∧ isLast no 108 r := by
  have i108 : (108 : Int32).toInt = 108 := rfl
  have im : (-1 : Int32).toInt = -1 := rfl
  intro n
  induction n with
  | zero =>
    intro k N v1 hk hN h
    obtain ⟨N, rfl⟩ : ∃ k, N = k + 1 := ⟨N - 1, by omega⟩
    have : k = 108 := by omega
    subst this
    exact ⟨v1, by rw [f_Mo_allRates_4, if_pos (by decide)], h⟩
  | succ n ih =>
    intro k N v1 hk hN h
    obtain ⟨N, rfl⟩ : ∃ k, N = k + 1 := ⟨N - 1, by omega⟩
    have tk : (nI k).toInt = k := nI_toInt (by omega)
    rw [f_Mo_allRates_4, if_neg (by rw [i_le]; omega), ix_ok (by omega) (by omega), Option.bind_some, i_tn, tk, Int.toNat_natCast, ht k (by omega), md9 (by omega), nI_1]
    have sp : ∀ j, j < k + 1 → j < k ∨ j = k := fun j hj => by omega
    by_cases c : no 7 k = -1
    · rw [if_pos c]
      refine ih (k + 1) N v1 (by omega) (by omega) ?_
      rcases h with ⟨a, b⟩ | ⟨y, a, b, ⟨j, c', d, e⟩, f⟩
      · exact Or.inl ⟨a, fun j hj => (sp j hj).elim (b j) (fun e => by rw [e]; exact c)⟩
      · exact Or.inr ⟨y, a, b, ⟨j, by omega, d, e⟩, fun j hj hn => (sp j hj).elim (fun q => f j q hn) (fun q => absurd (by rw [q]; exact c) hn)⟩
    · rw [if_neg c]
      have tm : (nI (k % 9)).toInt = ((k % 9 : Nat) : Int) := nI_toInt (by omega)
      refine ih (k + 1) N _ (by omega) (by omega) ?_
      rcases h with ⟨a, b⟩ | ⟨y, a, b, ⟨j, c', d, e⟩, f⟩
      · rw [if_pos (by rw [a, i_lt]; omega)]
        exact Or.inr ⟨k % 9, by omega, rfl, ⟨k, by omega, rfl, c⟩, fun j hj hn => (sp j hj).elim (fun q => absurd (b j q) hn) (fun q => by rw [q]; omega)⟩
      · have ty : (nI y).toInt = y := nI_toInt (by omega)
        rw [b]
        by_cases g : y < k % 9
        · rw [if_pos (by rw [i_lt]; omega)]
          exact Or.inr ⟨k % 9, by omega, rfl, ⟨k, by omega, rfl, c⟩, fun j hj hn => (sp j hj).elim (fun q => by have := f j q hn; omega) (fun q => by rw [q]; omega)⟩
        · rw [if_neg (by rw [i_lt]; omega)]
          exact Or.inr ⟨y, a, rfl, ⟨j, by omega, d, e⟩, fun j hj hn => (sp j hj).elim (fun q => f j q hn) (fun q => by rw [q]; omega)⟩
/-- what stands in the rows of poles for place j -/
def pRow (po m2 mo : jZ) (j : Nat) : Prop := po 2 j = m2 56 j ∧ (0 ≤ (m2 56 j).toInt ∧ (m2 56 j).toInt ≤ 9000) ∧ po 3 j = (m2 56 j * mo 18 0) / 10 ∧ po 4 j = (if (mo 4 0).toInt ≤ (j : Int) + 1 then 0 else (((m2 56 j * mo 18 0) / 10) * mo 19 0) / 10) ∧ po 5 j = mo 14 j
theorem rt_ok (od my : jY) (A B : Int64) (hA : od 2 0 = A) (hB : od 3 0 = B) (h : (A.toInt = 0 ∧ B.toInt = 0) ∨ (0 < B.toInt ∧ 0 ≤ A.toInt ∧ A.toInt ≤ 9 * B.toInt ∧ A.toInt ≤ 44550000000)) : ∃ v : Int32, f_Odds_times od 1000 0 = some v ∧ 0 ≤ v.toInt ∧ v.toInt ≤ 9000 ∧ v = (if lg_cmp B 0 = 0 then 0 else Int64.toInt32 (1000 * A / B)) := by
  unfold f_Odds_times
  rw [hA, hB]
  by_cases c : lg_cmp B 0 = 0
  · rw [if_pos c]
    exact ⟨_, rfl, by decide, by decide, by rw [if_pos c]⟩
  · have c0 : B.toInt ≠ 0 := fun e => c ((lc_eq B 0).mpr (e.trans l0.symm))
    obtain ⟨p1, p2, p3, p4⟩ := h.resolve_left (fun q => c0 q.2)
    have e3 : (1000 : Int64).toInt = 1000 := rfl
    have m1 : (1000 * A).toInt = 1000 * A.toInt := by rw [l_mul (by rw [e3]; omega) (by rw [e3]; omega), e3]
    have d1 : (1000 * A / B).toInt = 1000 * A.toInt / B.toInt := by rw [l_div p1 (by omega), m1]
    have d2 : 0 ≤ 1000 * A.toInt / B.toInt := Int.ediv_nonneg (by omega) (by omega)
    have d3 : 1000 * A.toInt / B.toInt ≤ 9000 := by
      have := Int.ediv_le_ediv (a := 1000 * A.toInt) (b := 9000 * B.toInt) (c := B.toInt) p1 (by omega)
      rw [Int.mul_ediv_cancel _ c0] at this
      exact this
    rw [if_neg c, nzl_ok c0, Option.bind_some]
    have t : (Int64.toInt32 (1000 * A / B)).toInt = 1000 * A.toInt / B.toInt := by rw [l2i (by omega) (by omega), d1]
    exact ⟨_, rfl, by rw [show Int32.toInt64 1000 = 1000 from rfl, t]; exact d2, by rw [show Int32.toInt64 1000 = 1000 from rfl, t]; exact d3, by rw [if_neg c]; rfl⟩
theorem al_loop {ro ki no mo mB : jZ} (hk : iKinds ki mo) (hp : iPlaces ro mo) (hn : iNotes no mo) (r3 : mRelA mo mB) (ht : ∀ j, j < 108 → mB 44 j = no 7 j) (la fi : Int32) (hl : la = -1 ∨ ∃ y, y < 9 ∧ la = nI y ∧ fi = nI (y - 5)) : ∀ (n i N1 N2 : Nat) (po : jZ) (pod : jY) (m2 : jZ) (moy : jY), (i : Int) + n = (mo 4 0).toInt → n < N1 → n < N2 → po 1 0 = mo 4 0 → (∀ q, q ≠ 56 → m2 q = mB q) → (∀ j, j < i → pRow po m2 mo j) →
    ∃ (po2 : jZ) (pod2 : jY) (m3 : jZ) (my3 : jY), f_Poles_seekRates_35 ro ki no N1 po pod la fi (nI i) = some (po2, pod2) ∧ f_Mo_allRates_37 N2 m2 moy la (nI i) = some (m3, my3) ∧ po2 1 0 = mo 4 0 ∧ (∀ q, q ≠ 56 → m3 q = mB q) ∧ (∀ j : Nat, (j : Int) < (mo 4 0).toInt → pRow po2 m3 mo j) := by
  have P0 := hp.2.1
  have P12 := hp.2.2.1
  have h5 := hp.2.2.2.1
  have h6 := hp.2.2.2.2.2.1
  have i1 : (1 : Int32).toInt = 1 := rfl
  intro n
  induction n with
  | zero =>
    intro i N1 N2 po pod m2 moy hi hN1 hN2 h1 hB hr
    obtain ⟨N1, rfl⟩ : ∃ k, N1 = k + 1 := ⟨N1 - 1, by omega⟩
    obtain ⟨N2, rfl⟩ : ∃ k, N2 = k + 1 := ⟨N2 - 1, by omega⟩
    have ti : (nI i).toInt = i := nI_toInt (by omega)
    refine ⟨po, pod, m2, moy, ?_, ?_, h1, hB, fun j hj => hr j (by omega)⟩
    · rw [f_Poles_seekRates_35, h1, if_pos (by rw [i_le]; omega)]
    · rw [f_Mo_allRates_37, hB 4 (by decide), r3 4 (by omega), if_pos (by rw [i_le]; omega)]
  | succ n ih =>
    intro i N1 N2 po pod m2 moy hi hN1 hN2 h1 hB hr
    obtain ⟨N1, rfl⟩ : ∃ k, N1 = k + 1 := ⟨N1 - 1, by omega⟩
    obtain ⟨N2, rfl⟩ : ∃ k, N2 = k + 1 := ⟨N2 - 1, by omega⟩
    have ti : (nI i).toInt = i := nI_toInt (by omega)
    have ti1 : (nI i + 1).toInt = (i : Int) + 1 := by rw [i_add (by omega) (by omega), ti, i1]
    obtain ⟨-, -, -, -, -, -, ⟨g14, -⟩⟩ := hp.2.2.2.2.2.2.2 i (by omega)
    -- one place more
    have S : ∀ (po' : jZ) (pod' : jY) (v : Int32) (m' : jZ) (moy' : jY), po' 1 0 = mo 4 0 → po' 2 i = v → (∀ q j, j ≠ i → po' q j = po q j) → (0 ≤ v.toInt ∧ v.toInt ≤ 9000) → (∀ q, q ≠ 56 → m' q = mB q) → m' 56 i = v → (∀ j, j ≠ i → m' 56 j = m2 56 j) →
        ∃ (po2 : jZ) (pod2 : jY) (m3 : jZ) (my3 : jY), f_Poles_seekRates_87 ro ki no (fun po_z pod_y v2 v3 v4 => f_Poles_seekRates_35 ro ki no N1 po_z pod_y v2 v3 v4) po' pod' la fi (nI i) = some (po2, pod2) ∧ f_Mo_allRates_37 N2 m' moy' la (nI (i + 1)) = some (m3, my3) ∧ po2 1 0 = mo 4 0 ∧ (∀ q, q ≠ 56 → m3 q = mB q) ∧ (∀ j : Nat, (j : Int) < (mo 4 0).toInt → pRow po2 m3 mo j) := fun po' pod' v m' moy' a1 a2 a3 a4 a5 a6 a7 => by
      have key : f_Poles_seekRates_87 ro ki no (fun po_z pod_y v2 v3 v4 => f_Poles_seekRates_35 ro ki no N1 po_z pod_y v2 v3 v4) po' pod' la fi (nI i) = f_Poles_seekRates_35 ro ki no N1 (up2 (up2 (up2 po' 3 i ((v * mo 18 0) / 10)) 4 i (if (mo 4 0).toInt ≤ (i : Int) + 1 then 0 else (((v * mo 18 0) / 10) * mo 19 0) / 10)) 5 i (mo 14 i)) pod' la fi (nI (i + 1)) := by
        unfold f_Poles_seekRates_87
        rw [ix_ok (by omega) (by omega)]
        simp only [Option.bind_some, i_tn, ti, Int.toNat_natCast, a1, a2, h5, h6, g14, nI_1, up2_s]
        by_cases c : (mo 4 0).toInt ≤ (i : Int) + 1
        · rw [if_pos (by rw [i_le, ← nI_1, ti1]; exact c), if_pos c]
        · rw [if_neg (by rw [i_le, ← nI_1, ti1]; exact c), if_neg c]
      rw [key]
      refine ih (i + 1) N1 N2 _ pod' m' moy' (by omega) (by omega) (by omega) ?_ a5 (fun j hj => ?_)
      · rw [up2_k (by decide), up2_k (by decide), up2_k (by decide)]; exact a1
      · by_cases c : j = i
        · subst c
          unfold pRow
          refine ⟨?_, ?_, ?_, ?_, ?_⟩
          · rw [up2_k (by decide), up2_k (by decide), up2_k (by decide), a2, a6]
          · rw [a6]; exact a4
          · rw [up2_k (by decide), up2_k (by decide), up2_s, a6]
          · rw [up2_k (by decide), up2_s, a6]
          · rw [up2_s]
        · obtain ⟨z1, z2, z3, z4, z5⟩ := hr j (by omega)
          unfold pRow
          rw [a7 j c]
          refine ⟨?_, z2, ?_, ?_, ?_⟩
          · rw [up2_k (by decide), up2_k (by decide), up2_k (by decide), a3 2 j c, z1]
          · rw [up2_k (by decide), up2_k (by decide), up2_j c, a3 3 j c, z3]
          · rw [up2_k (by decide), up2_j c, up2_k (by decide), a3 4 j c, z4]
          · rw [up2_j c, up2_k (by decide), up2_k (by decide), a3 5 j c, z5]
    rw [f_Poles_seekRates_35, h1, if_neg (by rw [i_le]; omega), ix_ok (by omega) (by omega), Option.bind_some, i_tn, ti, Int.toNat_natCast, f_Mo_allRates_37, hB 4 (by decide), r3 4 (by omega), if_neg (show ¬ mo 4 0 ≤ nI i by rw [i_le]; omega), ix_ok (by omega) (by omega), Option.bind_some, i_tn, ti, Int.toNat_natCast, nI_1]
    by_cases c : la = -1
    · rw [if_pos c, if_pos c]
      refine S (up2 po 2 i 0) pod 0 (up2 m2 56 i 0) moy (by rw [up2_k (by decide)]; exact h1) up2_s (fun q j hj => ?_) (by decide) (fun q hq => by rw [up2_k hq]; exact hB q hq) up2_s (fun j hj => up2_j hj)
      by_cases e : q = 2
      · rw [e, up2_j hj]
      · rw [up2_k e]
    · obtain ⟨y, y9, hy, hfi⟩ := hl.resolve_left c
      have ty : la.toInt = y := by rw [hy]; exact nI_toInt (by omega)
      have tf : fi.toInt = ((y - 5 : Nat) : Int) := by rw [hfi]; exact nI_toInt (by omega)
      obtain ⟨od2, A, B, q1, q2, q3, q4, q5⟩ := rate_bd (m2 := up2 m2 56 i 0) hk hn (by rw [up2_k (by decide), hB 3 (by decide)]; exact r3 3 (by omega)) (by rw [up2_k (by decide), hB 6 (by decide)]; exact r3 6 (by omega)) (by rw [up2_k (by decide), hB 7 (by decide)]; exact r3 7 (by omega)) (fun j hj => by rw [up2_k (by decide), hB 44 (by decide)]; exact ht j hj) i (y - 5) (y + 1 - (y - 5)) (by omega) (by omega) (by omega) (by omega) (nI i) fi la ti tf (by omega) pod moy
      obtain ⟨v, w1, w2, w3, w4⟩ := rt_ok od2 moy A B q2 q3 q5
      have i5 : (5 : Int32).toInt = 5 := rfl
      have i0 : (0 : Int32).toInt = 0 := rfl
      have t5 : (la - 5).toInt = (y : Int) - 5 := by rw [i_sub (by omega) (by omega), i5, ty]
      have hf : (if 0 < la - 5 then la - 5 else 0) = fi := by
        apply i_ext
        by_cases e : 0 < la - 5
        · rw [if_pos e]; rw [i_lt] at e; omega
        · rw [if_neg e]; rw [i_lt] at e; omega
      rw [if_neg c, if_neg c, q1, Option.bind_some, w1, hf, q4]
      simp only [Option.bind_some]
      rw [up2_s, show up2 (up2 moy 45 0 A) 46 0 B 45 0 = A by rw [up2_k (by decide), up2_s]]
      have F : (if lg_cmp B 0 = 0 then f_Mo_allRates_37 N2 (up2 (up2 m2 56 i 0) 56 i 0) (up2 (up2 moy 45 0 A) 46 0 B) la (nI (i + 1)) else (nzl B).bind fun _ => f_Mo_allRates_37 N2 (up2 (up2 m2 56 i 0) 56 i (Int64.toInt32 (1000 * A / B))) (up2 (up2 moy 45 0 A) 46 0 B) la (nI (i + 1))) = f_Mo_allRates_37 N2 (up2 (up2 m2 56 i 0) 56 i v) (up2 (up2 moy 45 0 A) 46 0 B) la (nI (i + 1)) := by
        by_cases e : lg_cmp B 0 = 0
        · rw [if_pos e] at w4 ⊢
          rw [w4]
        · rw [if_neg e] at w4 ⊢
          have e0 : B.toInt ≠ 0 := fun z => e ((lc_eq B 0).mpr (z.trans l0.symm))
          rw [nzl_ok e0, Option.bind_some, w4]
      rw [F]
      refine S (up2 (up2 po 2 i 0) 2 i v) od2 v _ _ (by rw [up2_k (by decide), up2_k (by decide)]; exact h1) up2_s (fun q j hj => ?_) ⟨w2, w3⟩ (fun q hq => by rw [up2_k hq, up2_k hq]; exact hB q hq) up2_s (fun j hj => by rw [up2_j hj, up2_j hj])
      by_cases e : q = 2
      · rw [e, up2_j hj, up2_j hj]
      · rw [up2_k e, up2_k e]
theorem rates_all {ro ki no mo mB : jZ} (hk : iKinds ki mo) (hp : iPlaces ro mo) (hn : iNotes no mo) (r3 : mRelA mo mB) (ht : ∀ j, j < 108 → mB 44 j = no 7 j) (po : jZ) (pod moy : jY) : ∃ (po2 : jZ) (pod2 : jY) (m3 : jZ) (my3 : jY), f_Poles_seekRates po pod ro ki no = some (po2, pod2) ∧ f_Mo_allRates mB moy = some (m3, my3) ∧ po2 1 0 = mo 4 0 ∧ (∀ q, q ≠ 56 → m3 q = mB q) ∧ (∀ j : Nat, (j : Int) < (mo 4 0).toInt → pRow po2 m3 mo j) := by
  have P0 := hp.2.1
  have P12 := hp.2.2.1
  have i12 : (12 : Int32).toInt = 12 := rfl
  obtain ⟨r, e1, e2⟩ := ly_3 no 9 FU 8 (by omega) (by decide) rfl (fun j _ _ => by omega)
  obtain ⟨s, f1, f2⟩ := ar_4 ht moy 108 0 FU (-1) rfl (by decide) (Or.inl ⟨rfl, fun j hj => absurd hj (Nat.not_lt_zero j)⟩)
  have rs : r = s := e2.uq f2
  have E : f_Notes_latestYear no = some r := e1
  have hl : r = -1 ∨ ∃ y, y < 9 ∧ r = nI y ∧ (if 0 < ((r - 6) + 1) then ((r - 6) + 1) else 0) = nI (y - 5) := by
    rcases e2 with ⟨a, -⟩ | ⟨y, a, b, -⟩
    · exact Or.inl a
    · refine Or.inr ⟨y, a, b, ?_⟩
      have ty : r.toInt = y := by rw [b]; exact nI_toInt (by omega)
      have i6 : (6 : Int32).toInt = 6 := rfl
      have i1 : (1 : Int32).toInt = 1 := rfl
      have i0 : (0 : Int32).toInt = 0 := rfl
      have t6 : (r - 6).toInt = (y : Int) - 6 := by rw [i_sub (by omega) (by omega), i6, ty]
      have t5 : (r - 6 + 1).toInt = (y : Int) - 5 := by rw [i_add (by omega) (by omega), i1, t6]; omega
      apply i_ext
      rw [nI_toInt (by omega)]
      by_cases e : 0 < r - 6 + 1
      · rw [if_pos e]; rw [i_lt] at e; omega
      · rw [if_neg e]; rw [i_lt] at e; omega
  have h7 : (if 12 < ro 7 0 then 12 else ro 7 0) = mo 4 0 := by
    rw [hp.1, if_neg (by rw [i_lt]; omega)]
  obtain ⟨po2, pod2, m3, my3, g1, g2, g3, g4, g5⟩ := al_loop hk hp hn r3 ht r _ hl (mo 4 0).toInt.toNat 0 FU FU (up2 po 1 0 (mo 4 0)) pod mB moy (by omega) (by unfold FU; omega) (by unfold FU; omega) up2_s (fun _ _ => rfl) (fun j hj => absurd hj (Nat.not_lt_zero j))
  refine ⟨po2, pod2, m3, my3, ?_, ?_, g3, g4, g5⟩
  · unfold f_Poles_seekRates
    rw [E, Option.bind_some, h7]
    exact g1
  · unfold f_Mo_allRates
    rw [show f_Mo_allRates_4 FU mB moy (-1) 0 = _ from f1, ← rs]
    exact g2
