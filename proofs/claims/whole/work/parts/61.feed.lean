theorem b10 {c : Prop} [Decidable c] : ((if c then (1 : Int32) else 0) = 0) ↔ ¬ c := by
  by_cases h : c
  · rw [if_pos h]; exact ⟨fun e => absurd e (by decide), fun e => absurd h e⟩
  · rw [if_neg h]; exact ⟨fun _ => h, fun _ => rfl⟩
theorem b8_and (y : Int32) : Int32.toInt8 (y &&& 255) = Int32.toInt8 y := by
  apply Int8.toBitVec_inj.mp
  simp only [Int32.toBitVec_toInt8, Int32.toBitVec_and]
  apply BitVec.eq_of_getLsbD_eq
  intro i hi
  have h8 : ∀ j, j < 8 → (255#32).getLsbD j = true := by decide
  have : (Int32.toBitVec 255) = 255#32 := rfl
  simp only [BitVec.getLsbD_signExtend, BitVec.getLsbD_and, this, h8 i hi, Bool.and_true]
  rw [if_pos (by omega), if_pos (by omega)]
theorem b8_rng (y : Int32) : 0 ≤ (y &&& 255).toInt ∧ (y &&& 255).toInt ≤ 255 := by
  have e : (y &&& 255).toBitVec.toNat ≤ 255 := by
    rw [Int32.toBitVec_and, BitVec.toNat_and]
    exact Nat.and_le_right
  have e2 : (y &&& 255).toInt = (y &&& 255).toBitVec.toInt := rfl
  rw [e2, BitVec.toInt_eq_toNat_cond]
  rw [if_pos (by omega)]
  omega
theorem b8_nar (y : Int32) : vp_nar .byte (Int8.toInt32 (Int32.toInt8 y)) = Int8.toInt32 (Int32.toInt8 y) := by
  show Int8.toInt32 (Int32.toInt8 (Int8.toInt32 (Int32.toInt8 y))) = _
  rw [Int8.toInt8_toInt32]
/-- the byte that is put -/
def pb (x : Int32) (j : Nat) : Int32 := Int8.toInt32 (Int32.toInt8 (x >>> ((24 - 8 * nI j) &&& 31)))
theorem put_1 (x : Int32) (N n : Nat) (ta : jZ) (v2 : Int32) (h : ta 1 0 = nI n) (hn : n < 600) (hv : ¬ v2 < 0) : f_Tape_put_3 x (N + 1) ta v2 = f_Tape_put_3 x N (up2 (up2 ta 0 n (Int8.toInt32 (Int32.toInt8 (x >>> (v2 &&& 31))))) 1 0 (nI (n + 1))) (v2 + (-8)) := by
  have e0 : (0 : Int32).toInt = 0 := rfl
  have e600 : (600 : Int32).toInt = 600 := rfl
  have ti : (nI n).toInt = n := nI_toInt (by omega)
  rw [f_Tape_put_3, h, if_neg hv, if_neg (by rw [i_lt]; omega), if_neg (by rw [i_le]; omega), ix_ok (by omega) (by omega), Option.bind_some, i_tn, ti, Int.toNat_natCast, nI_1, b8_nar]
theorem put_eq (ta : jZ) (x : Int32) (n : Nat) (h : ta 1 0 = nI n) (hn : n + 4 ≤ 600) : ∃ t2, f_Tape_put ta x = some t2 ∧ t2 1 0 = nI (n + 4) ∧ ∀ i, t2 0 i = if n ≤ i ∧ i < n + 4 then pb x (i - n) else ta 0 i := by
  unfold f_Tape_put
  have hF : FU = (FU - 5) + 1 + 1 + 1 + 1 + 1 := by decide
  rw [hF, put_1 x _ n ta 24 h (by omega) (by decide), put_1 x _ (n + 1) _ _ up2_s (by omega) (by decide), put_1 x _ (n + 2) _ _ up2_s (by omega) (by decide), put_1 x _ (n + 3) _ _ up2_s (by omega) (by decide), f_Tape_put_3, if_pos (by decide)]
  refine ⟨_, rfl, up2_s, fun i => ?_⟩
  have p0 : pb x 0 = Int8.toInt32 (Int32.toInt8 (x >>> (24 &&& 31))) := rfl
  have p1 : pb x 1 = Int8.toInt32 (Int32.toInt8 (x >>> ((24 + (-8)) &&& 31))) := rfl
  have p2 : pb x 2 = Int8.toInt32 (Int32.toInt8 (x >>> ((24 + (-8) + (-8)) &&& 31))) := rfl
  have p3 : pb x 3 = Int8.toInt32 (Int32.toInt8 (x >>> ((24 + (-8) + (-8) + (-8)) &&& 31))) := rfl
  rw [up2_k (by decide), up2_if, up2_k (by decide), up2_if, up2_k (by decide), up2_if, up2_k (by decide), up2_if]
  by_cases c3 : i = n + 3
  · rw [if_pos c3, if_pos (by omega), show i - n = 3 by omega, p3]
  · rw [if_neg c3]
    by_cases c2 : i = n + 2
    · rw [if_pos c2, if_pos (by omega), show i - n = 2 by omega, p2]
    · rw [if_neg c2]
      by_cases c1 : i = n + 1
      · rw [if_pos c1, if_pos (by omega), show i - n = 1 by omega, p1]
      · rw [if_neg c1]
        by_cases c0 : i = n
        · rw [if_pos c0, if_pos (by omega), show i - n = 0 by omega, p0]
        · rw [if_neg c0, if_neg (by omega)]
def pick5 (x1 x2 x3 x4 x5 : Int32) (k : Nat) : Int32 := if k < 4 then x1 else if k < 8 then x2 else if k < 12 then x3 else if k < 16 then x4 else x5
def mb (x1 x2 x3 x4 x5 : Int32) (k : Nat) : Int32 := (pick5 x1 x2 x3 x4 x5 k >>> ((24 - (8 * (nI k - nI k / 4 * 4))) &&& 31)) &&& 255
theorem fd_20 (x1 x2 x3 x4 x5 : Int32) (n : Nat) (hn : n + 20 ≤ 600) : ∀ (m k N : Nat) (mo : jZ), k + m = 20 → m < N → mo 2 0 = nI n → ∃ m2, f_Mo_feed_20 x1 x2 x3 x4 x5 N mo (nI k) = some (m2, nI (n + 20)) ∧ m2 2 0 = nI (n + 20) ∧ (∀ i, m2 1 i = if n + k ≤ i ∧ i < n + 20 then mb x1 x2 x3 x4 x5 (i - n) else mo 1 i) ∧ ∀ q, q ≠ 1 → q ≠ 2 → m2 q = mo q := by
  intro m
  have hadd : nI n + 20 = nI (n + 20) := by
    have e20 : (20 : Int32).toInt = 20 := rfl
    have ti : (nI n).toInt = n := nI_toInt (by omega)
    apply i_ext; rw [i_add (by omega) (by omega), ti, nI_toInt (by omega)]; omega
  induction m with
  | zero =>
    intro k N mo hk hN h2
    obtain ⟨N, rfl⟩ : ∃ k, N = k + 1 := ⟨N - 1, by omega⟩
    have : k = 20 := by omega
    subst this
    rw [f_Mo_feed_20, if_pos (by decide), h2, hadd]
    exact ⟨_, rfl, up2_s, fun i => by rw [up2_k (by decide), if_neg (by omega)], fun q a b => up2_k b⟩
  | succ m ih =>
    intro k N mo hk hN h2
    obtain ⟨N, rfl⟩ : ∃ k, N = k + 1 := ⟨N - 1, by omega⟩
    have ti : (nI k).toInt = k := nI_toInt (by omega)
    have e4 : (4 : Int32).toInt = 4 := rfl
    have e8 : (8 : Int32).toInt = 8 := rfl
    have e12 : (12 : Int32).toInt = 12 := rfl
    have e16 : (16 : Int32).toInt = 16 := rfl
    have e20 : (20 : Int32).toInt = 20 := rfl
    have tn : (nI n + nI k).toInt = ((n + k : Nat) : Int) := by
      have := nI_toInt (n := n) (by omega)
      rw [i_add (by omega) (by omega)]; omega
    have A : ∀ s : Int32, f_Mo_feed_73 x1 x2 x3 x4 x5 (fun mo_z v6 => f_Mo_feed_20 x1 x2 x3 x4 x5 N mo_z v6) mo (nI k) s = f_Mo_feed_20 x1 x2 x3 x4 x5 N (up2 mo 1 (n + k) ((s >>> ((24 - (8 * (nI k - nI k / 4 * 4))) &&& 31)) &&& 255)) (nI (k + 1)) := fun s => by
      unfold f_Mo_feed_73
      rw [h2, ix_ok (by omega) (by omega), Option.bind_some, i_tn, tn, Int.toNat_natCast, nI_1]
    have B : f_Mo_feed_20 x1 x2 x3 x4 x5 (N + 1) mo (nI k) = f_Mo_feed_20 x1 x2 x3 x4 x5 N (up2 mo 1 (n + k) (mb x1 x2 x3 x4 x5 k)) (nI (k + 1)) := by
      rw [f_Mo_feed_20, if_neg (by rw [i_le]; omega), A, A, A, A, A]
      unfold mb pick5
      simp only [i_le, ti, e4, e8, e12, e16]
      by_cases c1 : k < 4
      · rw [if_neg (by omega), if_pos c1]
      · rw [if_pos (by omega), if_neg c1]
        by_cases c2 : k < 8
        · rw [if_neg (by omega), if_pos c2]
        · rw [if_pos (by omega), if_neg c2]
          by_cases c3 : k < 12
          · rw [if_neg (by omega), if_pos c3]
          · rw [if_pos (by omega), if_neg c3]
            by_cases c4 : k < 16
            · rw [if_neg (by omega), if_pos c4]
            · rw [if_pos (by omega), if_neg c4]
    obtain ⟨m2, g1, g2, g3, g4⟩ := ih (k + 1) N (up2 mo 1 (n + k) (mb x1 x2 x3 x4 x5 k)) (by omega) (by omega) (by rw [up2_k (by decide)]; exact h2)
    refine ⟨m2, by rw [B]; exact g1, g2, fun i => ?_, fun q a b => by rw [g4 q a b, up2_k a]⟩
    rw [g3, up2_if]
    by_cases c : n + (k + 1) ≤ i ∧ i < n + 20
    · rw [if_pos c, if_pos (by omega)]
    · rw [if_neg c]
      by_cases d : i = n + k
      · rw [if_pos d, if_pos (by omega), show i - n = k by omega]
      · rw [if_neg d, if_neg (by omega)]
theorem pb_mb (x : Int32) : ∀ j k : Nat, j < 4 → (k = 0 ∨ k = 4 ∨ k = 8 ∨ k = 12 ∨ k = 16) → ∀ x1 x2 x3 x4 x5, pick5 x1 x2 x3 x4 x5 (k + j) = x → pb x j = Int8.toInt32 (Int32.toInt8 (mb x1 x2 x3 x4 x5 (k + j))) := by
  intro j k hj hk x1 x2 x3 x4 x5 hp
  unfold pb mb
  rw [b8_and, hp]
  have : ∀ j, j < 4 → ∀ k, k < 5 → (24 - 8 * nI j) &&& 31 = (24 - (8 * (nI (4 * k + j) - nI (4 * k + j) / 4 * 4))) &&& 31 := by decide
  obtain ⟨q, hq, rfl⟩ : ∃ q, q < 5 ∧ k = 4 * q := ⟨k / 4, by omega, by omega⟩
  rw [this j hj q hq]
/-- feed -/
theorem op_feed {ta mo : jZ} (h : iTape ta mo) (x1 x2 x3 x4 x5 : Int32) : ∃ ta2 m2 r, f_WP_feed ta x1 x2 x3 x4 x5 = some (ta2, r) ∧ f_Mo_feed mo x1 x2 x3 x4 x5 = some (m2, r) ∧ iTape ta2 m2 ∧ ∀ q, q ≠ 0 → q ≠ 1 → q ≠ 2 → m2 q = mo q := by
  obtain ⟨h1, h2, h3, h4⟩ := id h
  have e20 : (20 : Int32).toInt = 20 := rfl
  have e600 : (600 : Int32).toInt = 600 := rfl
  have e580 : (580 : Int32).toInt = 580 := rfl
  have s1 : (mo 2 0 + 20).toInt = (mo 2 0).toInt + 20 := by rw [i_add (by omega) (by omega), e20]
  unfold f_WP_feed f_Mo_feed
  rw [h1]
  by_cases c : (mo 2 0).toInt ≤ 580
  · rw [if_pos (show mo 2 0 + 20 ≤ 600 by rw [i_le]; omega), if_pos (show mo 2 0 ≤ 580 by rw [i_le]; omega)]
    generalize hn : (mo 2 0).toInt.toNat = n
    have h2n : mo 2 0 = nI n := i_ext (by rw [nI_toInt (by omega)]; omega)
    obtain ⟨t1, a1, b1, c1⟩ := put_eq ta x1 n (h1.trans h2n) (by omega)
    obtain ⟨t2, a2, b2, c2⟩ := put_eq t1 x2 (n + 4) b1 (by omega)
    obtain ⟨t3, a3, b3, c3⟩ := put_eq t2 x3 (n + 4 + 4) b2 (by omega)
    obtain ⟨t4, a4, b4, c4⟩ := put_eq t3 x4 (n + 4 + 4 + 4) b3 (by omega)
    obtain ⟨t5, a5, b5, c5⟩ := put_eq t4 x5 (n + 4 + 4 + 4 + 4) b4 (by omega)
    obtain ⟨m2, d1, d2, d3, d4⟩ := fd_20 x1 x2 x3 x4 x5 n (by omega) 20 0 FU (up2 mo 0 0 0) rfl (by decide) (by rw [up2_k (by decide)]; exact h2n)
    rw [a1, Option.bind_some, a2, Option.bind_some, a3, Option.bind_some, a4, Option.bind_some, a5, Option.bind_some, b5, show f_Mo_feed_20 x1 x2 x3 x4 x5 FU (up2 mo 0 0 0) 0 = _ from d1]
    refine ⟨t5, m2, _, rfl, rfl, ?_, fun q a b c => by rw [d4 q b c, up2_k a]⟩
    have tn : (nI (n + 20)).toInt = ((n + 20 : Nat) : Int) := nI_toInt (by omega)
    unfold iTape
    rw [d2, tn, b5]
    refine ⟨rfl, by omega, by omega, fun i hi => ?_⟩
    rw [c5, c4, c3, c2, c1, d3, up2_k (by decide)]
    by_cases o : i < n
    · rw [if_neg (by omega), if_neg (by omega), if_neg (by omega), if_neg (by omega), if_neg (by omega), if_neg (by omega)]
      exact h4 i (by omega)
    · rw [if_pos (show n + 0 ≤ i ∧ i < n + 20 by omega)]
      refine ⟨?_, b8_rng _⟩
      by_cases w5 : n + 16 ≤ i
      · rw [if_pos (by omega), show i - n = 16 + (i - (n + 4 + 4 + 4 + 4)) by omega]
        exact pb_mb x5 _ 16 (by omega) (by omega) x1 x2 x3 x4 x5 (by unfold pick5; rw [if_neg (by omega), if_neg (by omega), if_neg (by omega), if_neg (by omega)])
      · rw [if_neg (by omega)]
        by_cases w4 : n + 12 ≤ i
        · rw [if_pos (by omega), show i - n = 12 + (i - (n + 4 + 4 + 4)) by omega]
          exact pb_mb x4 _ 12 (by omega) (by omega) x1 x2 x3 x4 x5 (by unfold pick5; rw [if_neg (by omega), if_neg (by omega), if_neg (by omega), if_pos (by omega)])
        · rw [if_neg (by omega)]
          by_cases w3 : n + 8 ≤ i
          · rw [if_pos (by omega), show i - n = 8 + (i - (n + 4 + 4)) by omega]
            exact pb_mb x3 _ 8 (by omega) (by omega) x1 x2 x3 x4 x5 (by unfold pick5; rw [if_neg (by omega), if_neg (by omega), if_pos (by omega)])
          · rw [if_neg (by omega)]
            by_cases w2 : n + 4 ≤ i
            · rw [if_pos (by omega), show i - n = 4 + (i - (n + 4)) by omega]
              exact pb_mb x2 _ 4 (by omega) (by omega) x1 x2 x3 x4 x5 (by unfold pick5; rw [if_neg (by omega), if_pos (by omega)])
            · rw [if_neg (by omega), if_pos (by omega)]
              have := pb_mb x1 (i - n) 0 (by omega) (by omega) x1 x2 x3 x4 x5 (by unfold pick5; rw [if_pos (by omega)])
              rw [Nat.zero_add] at this
              exact this
  · rw [if_neg (show ¬ mo 2 0 + 20 ≤ 600 by rw [i_le]; omega), if_neg (show ¬ mo 2 0 ≤ 580 by rw [i_le]; omega)]
    exact ⟨_, _, _, rfl, rfl, h.to (m0 mo 0 0), fun q a _ _ => up2_k a⟩
/-- look, the reference's -/
theorem op_look {ro mo : jZ} (hp : iPlaces ro mo) (x1 x2 : Int32) : ∃ m2 r, f_Mo_look mo x1 x2 = some (m2, r) ∧ (∀ q, q ≠ 0 → m2 q = mo q) ∧
    m2 0 0 = (if 0 ≤ x1.toInt ∧ x1.toInt < (mo 4 0).toInt then (if 0 ≤ x2.toInt ∧ x2.toInt ≤ 5 then 0 else 2) else 1) ∧
    ((0 ≤ x1.toInt ∧ x1.toInt < (mo 4 0).toInt) ∧ (0 ≤ x2.toInt ∧ x2.toInt ≤ 5) → r = (if x2 = 0 then ro 9 x1.toInt.toNat else if x2 = 1 then (if ro 10 x1.toInt.toNat = 0 then 0 else 1) else if x2 = 2 then ro 11 x1.toInt.toNat else if x2 = 3 then ro 12 x1.toInt.toNat else if x2 = 4 then ro 13 x1.toInt.toNat else ro 14 x1.toInt.toNat)) := by
  have e0 : (0 : Int32).toInt = 0 := rfl
  have e5 : (5 : Int32).toInt = 5 := rfl
  have P12 := hp.2.2.1
  unfold f_Mo_look
  rw [isPlace_eq, Option.bind_some]
  simp only [b10, i_lt, i_le, e0, e5]
  have L : ∀ v, v ≠ 0 → f_Mo_look_27 x1 x2 mo v = some (up2 mo 0 0 v, 0) := fun v hv => by unfold f_Mo_look_27; rw [if_neg hv]
  by_cases c1 : 0 ≤ x1.toInt ∧ x1.toInt < (mo 4 0).toInt
  · rw [if_neg (by omega), if_pos c1]
    by_cases c2 : 0 ≤ x2.toInt ∧ x2.toInt ≤ 5
    · rw [if_neg (by omega), if_pos c2.2, if_pos c2]
      obtain ⟨-, ⟨g2, -⟩, ⟨g3, -⟩, ⟨g4, -⟩, ⟨g5, -⟩, ⟨g6, -⟩, ⟨g7, -⟩⟩ := hp.2.2.2.2.2.2.2 x1.toInt.toNat (by omega)
      unfold f_Mo_look_27
      rw [if_pos rfl, ix_ok (by omega) (by omega), ix_ok (by omega) (by omega), g2, g3, g4, g5, g6, g7]
      simp only [Option.bind_some, i_tn]
      refine ⟨up2 mo 0 0 0, _, ?_, fun q a => up2_k a, up2_s, fun _ => rfl⟩
      by_cases d0 : x2 = 0
      · rw [if_pos d0, if_pos d0]
      · rw [if_neg d0, if_neg d0]
        by_cases d1 : x2 = 1
        · rw [if_pos d1, if_pos d1]
          by_cases f : mo 10 x1.toInt.toNat = 0
          · rw [if_pos f, if_pos f]
          · rw [if_neg f, if_neg f]
        · rw [if_neg d1, if_neg d1]
          by_cases d2 : x2 = 2
          · rw [if_pos d2, if_pos d2]
          · rw [if_neg d2, if_neg d2]
            by_cases d3 : x2 = 3
            · rw [if_pos d3, if_pos d3]
            · rw [if_neg d3, if_neg d3]
              by_cases d4 : x2 = 4
              · rw [if_pos d4, if_pos d4]
              · rw [if_neg d4, if_neg d4]
    · rw [if_neg c2, L 2 (by decide)]
      refine ⟨up2 mo 0 0 2, 0, ?_, fun q a => up2_k a, up2_s, fun h => absurd h.2 c2⟩
      by_cases n : x2.toInt < 0
      · rw [if_pos n]
      · rw [if_neg n, if_neg (by omega)]
  · rw [if_pos (by omega), if_neg c1, L 1 (by decide)]
    exact ⟨up2 mo 0 0 1, 0, rfl, fun q a => up2_k a, up2_s, fun h => absurd h.1 c1⟩
