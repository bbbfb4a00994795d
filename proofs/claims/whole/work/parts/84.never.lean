theorem sh1 : ∀ n, n < 12 → ((1 : Int32) <<< (nI n &&& 31)).toBitVec = BitVec.twoPow 32 n := by decide
theorem ob_bit (f : Nat → Prop) [∀ i, Decidable (f i)] (j : Nat) : ∀ n, n ≤ 12 → (ob f n).toBitVec.getLsbD j = (decide (j < n) && decide (f j))
  | 0, _ => by
    rw [ob]
    show (0#32).getLsbD j = _
    simp
  | n + 1, hn => by
    have ih := ob_bit f j n (by omega)
    rw [ob]
    by_cases c : f n
    · rw [if_pos c, Int32.toBitVec_or, BitVec.getLsbD_or, ih, sh1 n (by omega), BitVec.getLsbD_twoPow]
      by_cases e : j = n
      · subst e
        simp [c, show j < 32 by omega]
      · have : (n = j) = False := by simp; omega
        by_cases l : j < n
        · simp [l, this, show j < n + 1 by omega]
        · simp [l, this, show ¬ j < n + 1 by omega]
    · rw [if_neg c, ih]
      by_cases e : j = n
      · subst e
        simp [c]
      · by_cases l : j < n
        · simp [l, show j < n + 1 by omega]
        · simp [l, show ¬ j < n + 1 by omega]
/-- taken in one of the first k years of 3 .. 9 -/
def sB (no mo : jZ) (p : Nat) : Nat → Bool
  | 0 => false
  | k + 1 => sB no mo p k || decide (¬ tkAt no mo p (3 + k) = 0)
theorem sB_mono (no mo : jZ) (p k : Nat) (h : sB no mo p k = true) : ∀ n, sB no mo p (k + n) = true
  | 0 => h
  | n + 1 => by rw [← Nat.add_assoc, sB, sB_mono no mo p k h n]; rfl
theorem nv_4 {ro ki no mo : jZ} (hp : iPlaces ro mo) (P : Nat) (hP : (mo 4 0).toInt.toNat = P) (po : jZ) (pod : jY) : ∀ (n k N : Nat) (ru : jZ) (ruy : jY) (v1 : Int32), k + n = 7 → n < N → iRule ru mo → (∀ j, v1.toBitVec.getLsbD j = (decide (j < P) && sB no mo j k)) →
    ∃ ru2 ruy2 w, f_WP_never_4 ro ki no N ru ruy po pod v1 (nI (3 + k)) = ((f_Poles_seekRates po pod ro ki no).bind fun q2 => (f_Poles_aboveSomeBox q2.1 ro).bind fun q4 => some (ru2, ruy2, q2.1, q2.2, (q4 &&& (w ^^^ (-1))))) ∧ (∀ j, w.toBitVec.getLsbD j = (decide (j < P) && sB no mo j 7)) ∧ ru2 0 = ru 0 ∧ ru2 1 = ru 1 := by
  have P0 := hp.2.1
  have P12 := hp.2.2.1
  have i9 : (9 : Int32).toInt = 9 := rfl
  intro n
  induction n with
  | zero =>
    intro k N ru ruy v1 hk hN hR hv
    obtain ⟨N, rfl⟩ : ∃ k, N = k + 1 := ⟨N - 1, by omega⟩
    have : k = 7 := by omega
    subst this
    exact ⟨ru, ruy, v1, by rw [f_WP_never_4, if_pos (by decide)], hv, rfl, rfl⟩
  | succ n ih =>
    intro k N ru ruy v1 hk hN hR hv
    obtain ⟨N, rfl⟩ : ∃ k, N = k + 1 := ⟨N - 1, by omega⟩
    have tk : (nI (3 + k)).toInt = ((3 + k : Nat) : Int) := nI_toInt (by omega)
    obtain ⟨ru2, ruy2, w1, w2, w3⟩ := takenIn_ok (no := no) hp hR ruy (nI (3 + k)) (3 + k) tk (by omega) (by omega)
    rw [f_WP_never_4, if_neg (by rw [i_lt]; omega), w1, Option.bind_some, nI_1]
    dsimp only
    obtain ⟨ru3, ruy3, w, y1, y2, y3, y4⟩ := ih (k + 1) N ru2 ruy2 (v1 ||| ob (fun p => ¬ tkAt no mo p (3 + k) = 0) (mo 4 0).toInt.toNat) (by omega) (by omega) (hR.ru w2 w3) (fun j => by
      rw [Int32.toBitVec_or, BitVec.getLsbD_or, hv, ob_bit _ j _ (by omega), hP, sB]
      cases decide (j < P) <;> simp)
    exact ⟨ru3, ruy3, w, y1, y2, y3.trans w2, y4.trans w3⟩
/-- the lowest rate of a place with a box, on both sides -/
def lRel (lo le : Int32) : Prop := (lo = 2147483647 ∧ le = -1) ∨ (lo = le ∧ 0 ≤ le.toInt ∧ le.toInt ≤ 9000)
theorem lo_loop {ro mo po m3 : jZ} (hp : iPlaces ro mo) (h4 : m3 4 = mo 4) (h11 : m3 11 = mo 11) (hr : ∀ j : Nat, (j : Int) < (mo 4 0).toInt → pRow po m3 mo j) (moy : jY) : ∀ (n i N1 N2 : Nat) (lo le : Int32), (i : Int) + n = (mo 4 0).toInt → n < N1 → n < N2 → lRel lo le → ∃ lo2 le2, f_Poles_aboveSomeBox_5 po ro N1 lo (nI i) = f_Poles_aboveSomeBox_50 po ro FU lo2 0 0 ∧ f_Mo_never_17 N2 m3 moy le (nI i) = f_Mo_never_66 FU m3 moy le2 0 0 ∧ lRel lo2 le2 := by
  have P0 := hp.2.1
  have P12 := hp.2.2.1
  have i12 : (12 : Int32).toInt = 12 := rfl
  intro n
  induction n with
  | zero =>
    intro i N1 N2 lo le hi hN1 hN2 hL
    obtain ⟨N1, rfl⟩ : ∃ k, N1 = k + 1 := ⟨N1 - 1, by omega⟩
    obtain ⟨N2, rfl⟩ : ∃ k, N2 = k + 1 := ⟨N2 - 1, by omega⟩
    have ti : (nI i).toInt = i := nI_toInt (by omega)
    refine ⟨lo, le, ?_, ?_, hL⟩
    · rw [f_Poles_aboveSomeBox_5]
      by_cases c : 12 ≤ nI i
      · rw [if_pos c]
      · rw [if_neg c, has_is hp, isPlace_eq, if_neg (by rw [ti]; omega), Option.bind_some, if_pos rfl]
    · rw [f_Mo_never_17, h4, if_pos (by rw [i_le]; omega)]
  | succ n ih =>
    intro i N1 N2 lo le hi hN1 hN2 hL
    obtain ⟨N1, rfl⟩ : ∃ k, N1 = k + 1 := ⟨N1 - 1, by omega⟩
    obtain ⟨N2, rfl⟩ : ∃ k, N2 = k + 1 := ⟨N2 - 1, by omega⟩
    have ti : (nI i).toInt = i := nI_toInt (by omega)
    obtain ⟨-, -, -, ⟨g11, -⟩, -⟩ := hp.2.2.2.2.2.2.2 i (by omega)
    obtain ⟨z1, z2, -⟩ := hr i (by omega)
    have A : f_Poles_aboveSomeBox_5 po ro (N1 + 1) lo (nI i) = if mo 11 i = 0 then f_Poles_aboveSomeBox_5 po ro N1 lo (nI (i + 1)) else f_Poles_aboveSomeBox_5 po ro N1 (if m3 56 i < lo then m3 56 i else lo) (nI (i + 1)) := by
      rw [f_Poles_aboveSomeBox_5, if_neg (by rw [i_le]; omega), has_is hp, isPlace_eq, if_pos (by rw [ti]; omega), Option.bind_some, if_neg (by decide), ix_ok (by omega) (by omega), Option.bind_some, Option.bind_some, i_tn, ti, Int.toNat_natCast, g11, z1, nI_1]
    have B : f_Mo_never_17 (N2 + 1) m3 moy le (nI i) = if mo 11 i = 0 then f_Mo_never_17 N2 m3 moy le (nI (i + 1)) else if le = -1 then f_Mo_never_17 N2 m3 moy (m3 56 i) (nI (i + 1)) else if le ≤ m3 56 i then f_Mo_never_17 N2 m3 moy le (nI (i + 1)) else f_Mo_never_17 N2 m3 moy (m3 56 i) (nI (i + 1)) := by
      rw [f_Mo_never_17, h4, if_neg (by rw [i_le]; omega), ix_ok (by omega) (by omega), ix_ok (by omega) (by omega)]
      simp only [Option.bind_some, i_tn, ti, Int.toNat_natCast, h11, nI_1]
    rw [A, B]
    by_cases c : mo 11 i = 0
    · rw [if_pos c, if_pos c]
      exact ih (i + 1) N1 N2 lo le (by omega) (by omega) (by omega) hL
    · rw [if_neg c, if_neg c]
      generalize hm : m3 56 i = m at z2
      have imx : (2147483647 : Int32).toInt = 2147483647 := rfl
      have im : (-1 : Int32).toInt = -1 := rfl
      rcases hL with ⟨a, b⟩ | ⟨a, b1, b2⟩
      · rw [if_pos (by rw [a, i_lt]; omega), if_pos b]
        exact ih (i + 1) N1 N2 m m (by omega) (by omega) (by omega) (Or.inr ⟨rfl, z2⟩)
      · rw [if_neg (show ¬ le = -1 from fun e => by rw [e] at b1; omega), a]
        by_cases d : le ≤ m
        · rw [if_pos d]
          rw [i_le] at d
          rw [if_neg (by rw [i_lt]; omega)]
          exact ih (i + 1) N1 N2 le le (by omega) (by omega) (by omega) (Or.inr ⟨rfl, b1, b2⟩)
        · rw [if_neg d]
          rw [i_le] at d
          rw [if_pos (by rw [i_lt]; omega)]
          exact ih (i + 1) N1 N2 m m (by omega) (by omega) (by omega) (Or.inr ⟨rfl, z2⟩)
def abv (mo m3 : jZ) (lo : Int32) (p : Nat) : Prop := mo 11 p = 0 ∧ lo.toInt < (m3 56 p).toInt
theorem ab_50 {ro mo po m3 : jZ} (hp : iPlaces ro mo) (hr : ∀ j : Nat, (j : Int) < (mo 4 0).toInt → pRow po m3 mo j) (lo : Int32) : ∀ (n i N : Nat), (i : Int) + n = (mo 4 0).toInt → n < N → f_Poles_aboveSomeBox_50 po ro N lo (ob (fun p => mo 11 p = 0 ∧ lo.toInt < (m3 56 p).toInt) i) (nI i) = some (ob (fun p => mo 11 p = 0 ∧ lo.toInt < (m3 56 p).toInt) (i + n)) := by
  have P0 := hp.2.1
  have P12 := hp.2.2.1
  have i12 : (12 : Int32).toInt = 12 := rfl
  intro n
  induction n with
  | zero =>
    intro i N hi hN
    obtain ⟨N, rfl⟩ : ∃ k, N = k + 1 := ⟨N - 1, by omega⟩
    have ti : (nI i).toInt = i := nI_toInt (by omega)
    rw [f_Poles_aboveSomeBox_50]
    by_cases c : 12 ≤ nI i
    · rw [if_pos c, Nat.add_zero]
    · rw [if_neg c, has_is hp, isPlace_eq, if_neg (by rw [ti]; omega), Option.bind_some, if_pos rfl, Nat.add_zero]
  | succ n ih =>
    intro i N hi hN
    obtain ⟨N, rfl⟩ : ∃ k, N = k + 1 := ⟨N - 1, by omega⟩
    have ti : (nI i).toInt = i := nI_toInt (by omega)
    obtain ⟨-, -, -, ⟨g11, -⟩, -⟩ := hp.2.2.2.2.2.2.2 i (by omega)
    obtain ⟨z1, z2, -⟩ := hr i (by omega)
    rw [f_Poles_aboveSomeBox_50, if_neg (by rw [i_le]; omega), has_is hp, isPlace_eq, if_pos (by rw [ti]; omega), Option.bind_some, if_neg (by decide), ix_ok (by omega) (by omega), Option.bind_some, Option.bind_some, i_tn, ti, Int.toNat_natCast, g11, z1, nI_1]
    have ob1 : ob (fun p => mo 11 p = 0 ∧ lo.toInt < (m3 56 p).toInt) (i + 1) = if (mo 11 i = 0 ∧ lo.toInt < (m3 56 i).toInt) then ob (fun p => mo 11 p = 0 ∧ lo.toInt < (m3 56 p).toInt) i ||| (1 <<< (nI i &&& 31)) else ob (fun p => mo 11 p = 0 ∧ lo.toInt < (m3 56 p).toInt) i := rfl
    have g := ih (i + 1) N (by omega) (by omega)
    rw [show i + 1 + n = i + (n + 1) by omega] at g
    by_cases c : mo 11 i = 0
    · rw [if_pos c]
      by_cases d : m3 56 i ≤ lo
      · rw [if_pos d]
        rw [i_le] at d
        rw [if_neg (by rintro ⟨-, e⟩; omega)] at ob1
        rw [← ob1]; exact g
      · rw [if_neg d]
        rw [i_le] at d
        rw [if_pos ⟨c, by omega⟩] at ob1
        rw [← ob1]; exact g
    · rw [if_neg c]
      rw [if_neg (fun e => c e.1)] at ob1
      rw [← ob1]; exact g
theorem nv_108 {ru no mo mB : jZ} (hR : iRule ru mo) (r3 : mRelA mo mB) (ht : ∀ j, j < 108 → mB 44 j = no 7 j) (k66 : jZ → jY → Int32 → Int32 → Int32 → Option (jZ × jY × Int32)) (v1 v2 : Int32) (p : Nat) (hp : p < 12) : ∀ (n k N : Nat) (m2 : jZ) (moy : jY), k + n = 7 → n + 1 < N → (∀ q, q ≠ 48 → q ≠ 49 → m2 q = mB q) → sB no mo p k = false →
    ∃ m3 my3, f_Mo_never_108 k66 N m2 moy v1 v2 (nI p) 1 (nI (3 + k)) = k66 m3 my3 v1 (if sB no mo p 7 = true then v2 else v2 ||| (1 <<< (nI p &&& 31))) (nI (p + 1)) ∧ (∀ q, q ≠ 48 → q ≠ 49 → m3 q = mB q) := by
  have i9 : (9 : Int32).toInt = 9 := rfl
  have tp : (nI p).toInt = p := nI_toInt (by omega)
  intro n
  induction n with
  | zero =>
    intro k N m2 moy hk hN hB hs
    obtain ⟨N, rfl⟩ : ∃ k, N = k + 1 := ⟨N - 1, by omega⟩
    have : k = 7 := by omega
    subst this
    refine ⟨m2, moy, ?_, hB⟩
    rw [f_Mo_never_108, if_pos (by decide), if_neg (by decide), if_neg (by rw [hs]; decide), nI_1]
  | succ n ih =>
    intro k N m2 moy hk hN hB hs
    obtain ⟨N, rfl⟩ : ∃ k, N = k + 1 + 1 := ⟨N - 2, by omega⟩
    have tk : (nI (3 + k)).toInt = ((3 + k : Nat) : Int) := nI_toInt (by omega)
    obtain ⟨m3, my3, g1, g2⟩ := isTaken_ok (no := no) (m2 := m2) hR (by rw [hB 15 (by decide) (by decide)]; exact r3 15 (by omega)) (by rw [hB 16 (by decide) (by decide)]; exact r3 16 (by omega)) (by rw [hB 17 (by decide) (by decide)]; exact r3 17 (by omega)) (by rw [hB 9 (by decide) (by decide)]; exact r3 9 (by omega)) (fun j hj => by rw [hB 44 (by decide) (by decide)]; exact ht j hj) (nI p) (nI (3 + k)) p (3 + k) tp tk hp (by omega) (by omega) moy
    have kB : ∀ q, q ≠ 48 → q ≠ 49 → m3 q = mB q := fun q a b => (g2 q a b).trans (hB q a b)
    rw [f_Mo_never_108, if_neg (by rw [i_lt]; omega), if_neg (by decide), g1, Option.bind_some, nI_1]
    dsimp only
    have s1 : sB no mo p (k + 1) = (sB no mo p k || decide (¬ tkAt no mo p (3 + k) = 0)) := rfl
    by_cases c : tkAt no mo p (3 + k) = 0
    · rw [if_pos c]
      exact ih (k + 1) (N + 1) m3 my3 (by omega) (by omega) kB (by rw [s1, hs]; simp [c])
    · rw [if_neg c]
      have s7 : sB no mo p 7 = true := by
        have := sB_mono no mo p (k + 1) (by rw [s1]; simp [c]) n
        rw [show k + 1 + n = 7 by omega] at this
        exact this
      refine ⟨m3, my3, ?_, kB⟩
      rw [if_pos s7, f_Mo_never_108, if_pos rfl, if_pos rfl, ite_self, nI_1]
theorem nv_66 {ru no mo mB : jZ} (hR : iRule ru mo) (r3 : mRelA mo mB) (hP12 : (mo 4 0).toInt ≤ 12) (ht : ∀ j, j < 108 → mB 44 j = no 7 j) (lo le : Int32) (hL : lRel lo le) (hb : ∀ j : Nat, (j : Int) < (mo 4 0).toInt → 0 ≤ (mB 56 j).toInt ∧ (mB 56 j).toInt ≤ 9000) : ∀ (n i N : Nat) (m2 : jZ) (moy : jY), (i : Int) + n = (mo 4 0).toInt → n < N → (∀ q, q ≠ 48 → q ≠ 49 → m2 q = mB q) → ∃ m3 my3, f_Mo_never_66 N m2 moy le (ob (fun p => (mo 11 p = 0 ∧ lo.toInt < (mB 56 p).toInt) ∧ sB no mo p 7 = false) i) (nI i) = some (m3, my3, ob (fun p => (mo 11 p = 0 ∧ lo.toInt < (mB 56 p).toInt) ∧ sB no mo p 7 = false) (i + n)) ∧ (∀ q, q ≠ 48 → q ≠ 49 → m3 q = mB q) := by
  intro n
  induction n with
  | zero =>
    intro i N m2 moy hi hN hB
    obtain ⟨N, rfl⟩ : ∃ k, N = k + 1 := ⟨N - 1, by omega⟩
    have ti : (nI i).toInt = i := nI_toInt (by omega)
    refine ⟨m2, moy, ?_, hB⟩
    rw [f_Mo_never_66, hB 4 (by decide) (by decide), r3 4 (by omega), if_pos (by rw [i_le]; omega), Nat.add_zero]
  | succ n ih =>
    intro i N m2 moy hi hN hB
    obtain ⟨N, rfl⟩ : ∃ k, N = k + 1 := ⟨N - 1, by omega⟩
    have ti : (nI i).toInt = i := nI_toInt (by omega)
    have m11 : m2 11 = mo 11 := (hB 11 (by decide) (by decide)).trans (r3 11 (by omega))
    have m56 : m2 56 = mB 56 := hB 56 (by decide) (by decide)
    have ob1 : ob (fun p => (mo 11 p = 0 ∧ lo.toInt < (mB 56 p).toInt) ∧ sB no mo p 7 = false) (i + 1) = if ((mo 11 i = 0 ∧ lo.toInt < (mB 56 i).toInt) ∧ sB no mo i 7 = false) then ob (fun p => (mo 11 p = 0 ∧ lo.toInt < (mB 56 p).toInt) ∧ sB no mo p 7 = false) i ||| (1 <<< (nI i &&& 31)) else ob (fun p => (mo 11 p = 0 ∧ lo.toInt < (mB 56 p).toInt) ∧ sB no mo p 7 = false) i := rfl
    have Z : ∀ v, f_Mo_never_108 (fun mo_z mo_y v1 v2 v3 => f_Mo_never_66 N mo_z mo_y v1 v2 v3) FU m2 moy le v (nI i) 0 3 = f_Mo_never_66 N m2 moy le v (nI (i + 1)) := fun v => by
      have hF : FU = 999999 + 1 := by decide
      rw [hF, f_Mo_never_108, if_pos rfl, if_pos rfl, ite_self, nI_1]
    have E0 : ¬ ((mo 11 i = 0 ∧ lo.toInt < (mB 56 i).toInt) ∧ sB no mo i 7 = false) → ∃ m3 my3, f_Mo_never_66 N m2 moy le (ob (fun p => (mo 11 p = 0 ∧ lo.toInt < (mB 56 p).toInt) ∧ sB no mo p 7 = false) i) (nI (i + 1)) = some (m3, my3, ob (fun p => (mo 11 p = 0 ∧ lo.toInt < (mB 56 p).toInt) ∧ sB no mo p 7 = false) (i + (n + 1))) ∧ (∀ q, q ≠ 48 → q ≠ 49 → m3 q = mB q) := fun h => by
      rw [if_neg h] at ob1
      obtain ⟨m3, my3, g1, g2⟩ := ih (i + 1) N m2 moy (by omega) (by omega) hB
      rw [show i + 1 + n = i + (n + 1) by omega] at g1
      exact ⟨m3, my3, by rw [← ob1]; exact g1, g2⟩
    rw [f_Mo_never_66, hB 4 (by decide) (by decide), r3 4 (by omega), if_neg (by rw [i_le]; omega), ix_ok (by omega) (by omega), ix_ok (by omega) (by omega), Option.bind_some, Option.bind_some, i_tn, ti, Int.toNat_natCast, m11, m56, Z]
    have bi' := hb i (by omega)
    rcases hL with ⟨a, b⟩ | ⟨a, b1, b2⟩
    · rw [if_pos b]
      refine E0 (fun e => ?_)
      have := e.1.2
      rw [a, show (2147483647 : Int32).toInt = 2147483647 from rfl] at this
      omega
    · have nm : ¬ le = -1 := fun e => by rw [e, show (-1 : Int32).toInt = -1 from rfl] at b1; omega
      rw [if_neg nm]
      by_cases c : mo 11 i = 0
      · rw [if_pos c]
        by_cases d : mB 56 i ≤ le
        · rw [if_pos d]
          rw [i_le, ← a] at d
          exact E0 (fun e => by have := e.1.2; omega)
        · rw [if_neg d]
          rw [i_le, ← a] at d
          obtain ⟨m3, my3, g1, g2⟩ := nv_108 hR r3 ht (fun mo_z mo_y v1 v2 v3 => f_Mo_never_66 N mo_z mo_y v1 v2 v3) le (ob (fun p => (mo 11 p = 0 ∧ lo.toInt < (mB 56 p).toInt) ∧ sB no mo p 7 = false) i) i (by omega) 7 0 FU m2 moy rfl (by decide) hB rfl
          rw [show f_Mo_never_108 (fun mo_z mo_y v1 v2 v3 => f_Mo_never_66 N mo_z mo_y v1 v2 v3) FU m2 moy le (ob (fun p => (mo 11 p = 0 ∧ lo.toInt < (mB 56 p).toInt) ∧ sB no mo p 7 = false) i) (nI i) 1 3 = _ from g1]
          obtain ⟨m4, my4, y1, y2⟩ := ih (i + 1) N m3 my3 (by omega) (by omega) g2
          rw [show i + 1 + n = i + (n + 1) by omega] at y1
          refine ⟨m4, my4, ?_, y2⟩
          rw [← y1, ob1]
          by_cases s : sB no mo i 7 = true
          · rw [if_pos s, if_neg (fun e => by rw [e.2] at s; exact absurd s (by decide))]
          · have s' : sB no mo i 7 = false := by simpa using s
            rw [if_neg s, if_pos ⟨⟨c, by omega⟩, s'⟩]
      · rw [if_neg c]
        exact E0 (fun e => c e.1.1)
/-- never -/
theorem op_never {ro ki ru no mo po : jZ} {ruy pod my : jY} (hk : iKinds ki mo) (hp : iPlaces ro mo) (hn : iNotes no mo) (hR : iRule ru mo) : ∃ ru2 ruy2 po2 pod2 m2 my2 r, f_WP_never ro ki ru ruy no po pod = some (ru2, ruy2, po2, pod2, r) ∧ f_Mo_never mo my = some (m2, my2, r) ∧ mRel mo m2 ∧ ru2 0 = ru 0 ∧ ru2 1 = ru 1 := by
  have P0 := hp.2.1
  have P12 := hp.2.2.1
  obtain ⟨m2, k1, k2, k3, k4⟩ := knows_i (hn.to (m0 mo 0 0))
  have r3 : mRel mo m2 := (m0 mo 0 0).tr k2
  obtain ⟨po2, pod2, m3, my3, g1, g2, g3, g4, g5⟩ := rates_all hk hp hn r3.A k4 po pod my
  have r33 : mRel mo m3 := fun q hq => (g4 q (by unfold mKeep at hq; omega)).trans (r3 q hq)
  obtain ⟨ru2, ruy2, w, y1, y2, y3, y4⟩ := nv_4 (ki := ki) (no := no) hp (mo 4 0).toInt.toNat rfl po pod 7 0 FU ru ruy 0 rfl (by decide) hR (fun j => by
    show (0#32).getLsbD j = _
    simp [sB])
  obtain ⟨lo, le, z1, z2, z3⟩ := lo_loop hp (r33 4 (by unfold mKeep; omega)) (r33 11 (by unfold mKeep; omega)) g5 my3 (mo 4 0).toInt.toNat 0 FU FU 2147483647 (-1) (by omega) (by unfold FU; omega) (by unfold FU; omega) (Or.inl ⟨rfl, rfl⟩)
  have ab := ab_50 hp g5 lo (mo 4 0).toInt.toNat 0 FU (by omega) (by unfold FU; omega)
  rw [Nat.zero_add] at ab
  have AB : f_Poles_aboveSomeBox po2 ro = some (ob (fun p => mo 11 p = 0 ∧ lo.toInt < (m3 56 p).toInt) (mo 4 0).toInt.toNat) := by
    unfold f_Poles_aboveSomeBox
    rw [show f_Poles_aboveSomeBox_5 po2 ro FU 2147483647 0 = _ from z1]
    exact ab
  obtain ⟨m4, my4, e1, e2⟩ := nv_66 (no := no) hR r33.A P12 (fun j hj => by rw [g4 44 (by decide)]; exact k4 j hj) lo le z3 (fun j hj => (g5 j hj).2.1) (mo 4 0).toInt.toNat 0 FU m3 my3 (by omega) (by unfold FU; omega) (fun _ _ _ => rfl)
  rw [Nat.zero_add] at e1
  refine ⟨ru2, ruy2, po2, pod2, m4, my4, ob (fun p => (mo 11 p = 0 ∧ lo.toInt < (m3 56 p).toInt) ∧ sB no mo p 7 = false) (mo 4 0).toInt.toNat, ?_, ?_, fun q hq => (e2 q (by unfold mKeep at hq; omega) (by unfold mKeep at hq; omega)).trans (r33 q hq), y3, y4⟩
  rotate_left
  · unfold f_Mo_never
    rw [k1, Option.bind_some, g2, Option.bind_some]
    dsimp only
    rw [show f_Mo_never_17 FU m3 my3 (-1) 0 = _ from z2]
    exact e1
  · unfold f_WP_never
    rw [show f_WP_never_4 ro ki no FU ru ruy po pod 0 3 = _ from y1, g1, Option.bind_some]
    dsimp only
    rw [AB, Option.bind_some]
    congr 5
    apply Int32.toBitVec_inj.mp
    apply BitVec.eq_of_getLsbD_eq
    intro j hj
    rw [Int32.toBitVec_and, BitVec.getLsbD_and, Int32.toBitVec_xor, BitVec.getLsbD_xor, ob_bit _ j _ (by omega), ob_bit _ j _ (by omega), y2]
    have h1 : ∀ j, j < 32 → (Int32.toBitVec (-1)).getLsbD j = true := by decide
    rw [h1 j hj]
    cases hsb : sB no mo j 7 <;> cases decide (j < (mo 4 0).toInt.toNat) <;> simp
