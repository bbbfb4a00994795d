theorem Kp_inj (e f : Nat → Nat) : ∀ j, (∀ i, i < j → e i < 32) → (∀ i, i < j → f i < 32) → Kp e j = Kp f j → ∀ i, i < j → e i = f i
  | 0, _, _, _, i, hi => absurd hi (Nat.not_lt_zero i)
  | j + 1, h1, h2, h, i, hi => by
    rw [Kp, Kp] at h
    have a := h1 j (by omega)
    have b := h2 j (by omega)
    have hk : Kp e j = Kp f j := by omega
    by_cases c : i = j
    · rw [c]; omega
    · exact Kp_inj e f j (fun i hi => h1 i (by omega)) (fun i hi => h2 i (by omega)) hk i (by omega)
theorem mW_iff (mo : jZ) (P L n : Nat) (hn : n < 17) (hL : L ≤ 6) (hl : ∀ i, i < L → isL (mo 1 (P + i))) : mW mo P L n ↔ ((Kp (fun i => if i < L then lt mo P i else 0) 6 : Nat) : Int) = (wv n).toInt := by
  obtain ⟨t1, t2, t3, t4, t5, t6, t7⟩ := wtab n hn
  rw [t7]
  constructor
  · rintro ⟨a, b⟩
    congr 1
    refine Kp_cg _ _ 6 (fun i _ => ?_)
    unfold wd lt
    rw [a]
    by_cases c : i < wl n
    · rw [if_pos c, if_pos c, b i c]
    · rw [if_neg c, if_neg c]
  · intro h
    have hk : Kp (fun i => if i < L then lt mo P i else 0) 6 = Kp (wd n) 6 := by omega
    have lt1 : ∀ i, i < L → 1 ≤ lt mo P i ∧ lt mo P i ≤ 26 ∧ (mo 1 (P + i)).toInt = (lt mo P i : Int) + 96 := fun i hi => by
      have := hl i hi
      unfold isL at this
      unfold lt; omega
    have wd1 : ∀ i, i < wl n → 1 ≤ wd n i ∧ wd n i ≤ 26 ∧ (strC 2 (wo n + i)).toInt = (wd n i : Int) + 96 := fun i hi => by
      have := (t6 i hi).2
      unfold wd; rw [if_pos hi]; omega
    have inj := Kp_inj _ _ 6 (fun i _ => by
      try dsimp only
      by_cases c : i < L
      · rw [if_pos c]; have := lt1 i c; omega
      · rw [if_neg c]; omega) (fun i _ => by
      by_cases c : i < wl n
      · have := wd1 i c; omega
      · unfold wd; rw [if_neg c]; omega) hk
    have hLw : L = wl n := by
      by_cases c : L < wl n
      · have := inj L (by omega)
        try dsimp only at this
        rw [if_neg (Nat.lt_irrefl L)] at this
        have := wd1 L c
        omega
      · by_cases d : wl n < L
        · have := inj (wl n) (by omega)
          try dsimp only at this
          rw [if_pos d] at this
          have h3 := lt1 (wl n) d
          unfold wd at this
          rw [if_neg (Nat.lt_irrefl _)] at this
          omega
        · omega
    refine ⟨hLw, fun i hi => i_ext ?_⟩
    have := inj i (by omega)
    try dsimp only at this
    rw [if_pos (by omega)] at this
    have a := lt1 i (by omega)
    have b := wd1 i hi
    omega
def tok (s v S V : Int32) : Prop := (s = 0 ∧ S = 4) ∨ (s = 1 ∧ S = 0 ∧ ∃ w, w < 17 ∧ v = wv w ∧ V = nI w) ∨ (s = 1 ∧ S = 1 ∧ v = V ∧ ∀ w, w < 17 → ¬ v = wv w) ∨ (s = 4 ∧ S = 5) ∨ (s = 2 ∧ S = 2 ∧ dR v V) ∨ (s = 3 ∧ S = 3 ∧ v = V ∧ isSg v) ∨ (s = 3 ∧ S = 5 ∧ ¬ isSg v ∧ v.toInt ≤ 127)
/-- both stand at the same token -/
def T (ta mo : jZ) : Prop := tPos ta mo ∧ ta 6 0 = mo 29 0 ∧ (0 ≤ (mo 29 0).toInt ∧ (mo 29 0).toInt ≤ (mo 28 0).toInt) ∧ (¬ ta 4 0 = 0 → (mo 29 0).toInt < (mo 28 0).toInt) ∧ tok (ta 4 0) (ta 5 0) (mo 30 0) (mo 31 0)
theorem step_ok {ta mo : jZ} (h : tPos ta mo) : ∃ ta2 mo2, f_Tape_step ta = some ta2 ∧ f_Mo_next mo = some mo2 ∧ T ta2 mo2 ∧ (mo 28 0).toInt ≤ (mo2 29 0).toInt ∧ (∀ q, q < 3 → ta2 q = ta q) ∧ (∀ q, q < 28 ∨ 31 < q → mo2 q = mo q) := by
  have i0 : (0 : Int32).toInt = 0 := rfl
  have i97 : (97 : Int32).toInt = 97 := rfl
  have i122 : (122 : Int32).toInt = 122 := rfl
  have i48 : (48 : Int32).toInt = 48 := rfl
  have i57 : (57 : Int32).toInt = 57 := rfl
  obtain ⟨h1, h2, ⟨h3, h4, h5⟩, h6⟩ := id h
  obtain ⟨tb, mb, e1, e2, e3, e4, e5, e6⟩ := ws_loop ((mo 27 0).toInt - (mo 28 0).toInt).toNat FU FU ta mo h (by omega) (by unfold FU; omega) (by unfold FU; omega)
  unfold f_Tape_step f_Mo_next
  rw [e1, e2]
  obtain ⟨k1, k2, ⟨k3, k4, k5⟩, k6⟩ := id e3
  -- the place
  generalize hm : up2 mb 29 0 (mb 28 0) = m1
  generalize ht : up2 (up2 tb 6 0 (mb 28 0)) 5 0 0 = t1
  have m1k : ∀ q, q ≠ 29 → m1 q = mb q := fun q hq => by rw [← hm, up2_k hq]
  have m29 : m1 29 0 = mb 28 0 := by rw [← hm, up2_s]
  have m28 : m1 28 0 = mb 28 0 := by rw [m1k 28 (by decide)]
  have t1k : ∀ q, q ≠ 5 → q ≠ 6 → t1 q = tb q := fun q a b => by rw [← ht, up2_k a, up2_k b]
  have t6 : t1 6 0 = mb 28 0 := by rw [← ht, up2_k (by decide), up2_s]
  have t5 : t1 5 0 = 0 := by rw [← ht, up2_s]
  have p1 : tPos t1 m1 := e3.mv t1 m1 (mb 28 0) (by rw [t1k 3 (by decide) (by decide)]; exact k1) m28 (t1k 0 (by decide) (by decide)) (t1k 2 (by decide) (by decide)) (m1k 1 (by decide)) (m1k 27 (by decide)) k3 k4
  have fT : ∀ ta2 : jZ, (∀ q, q ≠ 3 → q ≠ 4 → q ≠ 5 → ta2 q = t1 q) → ∀ q, q < 3 → ta2 q = ta q := fun ta2 hh q hq => by
    rw [hh q (by omega) (by omega) (by omega), t1k q (by omega) (by omega), e5 q (by omega)]
  have fM : ∀ mo2 : jZ, (∀ q, q < 28 ∨ 31 < q → mo2 q = m1 q) → ∀ q, q < 28 ∨ 31 < q → mo2 q = mo q := fun mo2 hh q hq => by
    rw [hh q hq, m1k q (by omega), e6 q (by omega)]
  have C59 : f_Tape_step_59 tb = f_Tape_step_103 t1 (if (mb 28 0).toInt < (mb 27 0).toInt then tb 0 (mb 28 0).toInt.toNat else 0) := by
    unfold f_Tape_step_59
    rw [k1, k2, if_neg (by rw [i_lt]; omega), ht]
    by_cases c : (mb 28 0).toInt < (mb 27 0).toInt
    · rw [if_neg (by rw [i_le]; omega), ix_ok (by omega) (by omega), Option.bind_some, i_tn, if_pos c]
    · rw [if_pos (by rw [i_le]; omega), if_neg c]
  have t13 : t1 3 0 = mb 28 0 := by rw [t1k 3 (by decide) (by decide)]; exact k1
  have t12 : t1 2 0 = mb 27 0 := by rw [t1k 2 (by decide) (by decide)]; exact k2
  rw [C59]
  unfold nxA f_Tape_step_103
  rw [hm, here_eq p1, m28, m1k 27 (by decide), m1k 1 (by decide), t13, t12]
  by_cases c : (mb 28 0).toInt < (mb 27 0).toInt
  · obtain ⟨b1, b2, b3⟩ := k6 (mb 28 0).toInt.toNat (by omega)
    rw [if_pos c, if_pos c, if_pos (show mb 28 0 < mb 27 0 by rw [i_lt]; exact c), Option.bind_some]
    generalize hC : mb 1 (mb 28 0).toInt.toNat = C at b1 b2 b3
    generalize hc : tb 0 (mb 28 0).toInt.toNat = cc at b1
    have cC : ∀ lo hi : Int, 0 ≤ lo → hi ≤ 127 → ((lo ≤ cc.toInt ∧ cc.toInt ≤ hi) ↔ (lo ≤ C.toInt ∧ C.toInt ≤ hi)) := fun lo hi a b => by
      rw [b1]
      rcases sb_toInt _ b2 b3 with ⟨x, y⟩ | ⟨x, y⟩
      · rw [y]
      · omega
    have im : (-1 : Int32).toInt = -1 := rfl
    rw [if_neg (show ¬ C = -1 by rw [i_eq]; omega), small_eq, Option.bind_some]
    by_cases dl : 97 ≤ C.toInt ∧ C.toInt ≤ 122
    · -- a word
      have dl' := (cC 97 122 (by decide) (by decide)).mpr dl
      rw [if_pos dl, if_neg (show ¬ (1 : Int32) = 0 by decide), if_neg (show ¬ cc < 97 by rw [i_lt]; omega), if_neg (show ¬ 122 < cc by rw [i_lt]; omega)]
      generalize hP : (mb 28 0).toInt.toNat = P
      have hPt : (mb 28 0).toInt = (P : Int) := by omega
      obtain ⟨ta2, mo2, L, w1, w2, w3, w4, w5, w6, w7, w8, w9, w10⟩ := wd_loop P ((mb 27 0).toInt - (mb 28 0).toInt).toNat FU FU 0 t1 m1 p1 (by rw [m28, m1k 27 (by decide)]; omega) (by unfold FU; omega) (by unfold FU; omega) (by rw [m28]; omega) (fun i hi => absurd hi (Nat.not_lt_zero i)) (fun _ => by rw [t5]; simp [Kp])
      have L0 : 0 < L := w7 (by rw [m28, m1k 27 (by decide)]; exact c) (by rw [m1k 1 (by decide), Nat.add_zero, ← hP, hC]; exact dl)
      have W1 : f_Tape_stepWord t1 = some (up2 ta2 4 0 (if 6 < L then 4 else 1)) := w1
      rw [W1, Option.bind_some, w2]
      obtain ⟨x1, x2, ⟨x3, x4, x5⟩, x6⟩ := id w3
      have n29 : mo2 29 0 = mb 28 0 := by rw [w10 29 (by decide)]; exact m29
      have n1 : mo2 1 = m1 1 := w10 1 (by decide)
      have l2 : ∀ i, i < L → isL (mo2 1 (P + i)) := by rw [n1]; exact w6
      have ltm : lt mo2 P = lt m1 P := by funext i; unfold lt; rw [n1]
      have n27 : (mo2 27 0).toInt ≤ 600 := x5
      have Wd := w_4 mo2 P L (by omega) w5 (by rw [n29]; exact hPt) 17 0 FU rfl (by decide)
      have n29t : (mo2 29 0).toInt = (P : Int) := by rw [n29]; exact hPt
      have d28 : (mo2 28 0 - mo2 29 0).toInt = L := by rw [i_sub (by omega) (by omega), w5, n29t]; omega
      have i6 : (6 : Int32).toInt = 6 := rfl
      unfold wEnd
      -- the packed value
      have val : L ≤ 6 → (ta2 5 0).toInt = ((Kp (fun i => if i < L then lt mo2 P i else 0) 6 : Nat) : Int) := fun hL => by
        rw [w8 hL, ltm]
        congr 1
        have := Kp_0 (fun i => if i < L then lt m1 P i else 0) L (fun i hi => if_neg (by omega)) (6 - L)
        rw [show L + (6 - L) = 6 by omega] at this
        rw [this, Nat.mul_comm]
        congr 1
        exact Kp_cg _ _ L (fun i hi => (if_pos hi).symm)
      have fin : ∀ (M : jZ), (∀ q, q ≠ 30 → q ≠ 31 → M q = mo2 q) → tok (if 6 < L then 4 else 1) (ta2 5 0) (M 30 0) (M 31 0) → ∃ ta3 mo3, some (up2 ta2 4 0 (if 6 < L then 4 else 1)) = some ta3 ∧ (some M : Option jZ) = some mo3 ∧ T ta3 mo3 ∧ (mo 28 0).toInt ≤ (mo3 29 0).toInt ∧ (∀ q, q < 3 → ta3 q = ta q) ∧ (∀ q, q < 28 ∨ 31 < q → mo3 q = mo q) := fun M hM ht => by
        have M28 := hM 28 (by decide) (by decide)
        have M29 := hM 29 (by decide) (by decide)
        refine ⟨_, _, rfl, rfl, ⟨?_, ?_, ?_, ?_, ?_⟩, ?_, ?_, ?_⟩
        · exact w3.mv _ _ (mo2 28 0) (by rw [up2_k (by decide)]; exact x1) (by rw [M28]) (up2_k (by decide)) (up2_k (by decide)) (hM 1 (by decide) (by decide)) (hM 27 (by decide) (by decide)) x3 x4
        · rw [up2_k (by decide), w9 6 (by decide) (by decide), t6, M29, n29]
        · rw [M28, M29, n29]; omega
        · intro _; rw [M28, M29, n29]; omega
        · rw [up2_s, up2_k (by decide)]; exact ht
        · rw [M29, n29]; exact e4
        · exact fT _ (fun q a b d => by rw [up2_k b, w9 q a d])
        · exact fM _ (fun q hq => by rw [hM q (by omega) (by omega), w10 q (by omega)])
      rcases Wd with ⟨k, ka, kb, kc⟩ | ⟨ka, kb⟩
      · have kc' : f_Mo_word mo2 = some (nI k) := kc
        have tk : (nI k).toInt = k := nI_toInt (by omega)
        rw [kc', Option.bind_some, if_neg (show ¬ nI k = -1 by rw [i_eq]; omega)]
        have hL6 : L ≤ 6 := by rw [kb.1]; exact (wtab k ka).2.1
        refine fin (up2 (up2 mo2 31 0 (nI k)) 30 0 0) (fun q a b => by rw [up2_k a, up2_k b]) ?_
        rw [up2_s, up2_k (by decide), up2_s, if_neg (by omega)]
        refine Or.inr (Or.inl ⟨rfl, rfl, k, ka, i_ext ?_, rfl⟩)
        rw [val hL6]
        exact (mW_iff mo2 P L k ka hL6 l2).mp kb
      · have kb' : f_Mo_word mo2 = some (-1) := kb
        rw [kb', Option.bind_some, if_pos rfl]
        by_cases hL6 : L ≤ 6
        · rw [if_pos (show mo2 28 0 - mo2 29 0 ≤ 6 by rw [i_le]; omega)]
          obtain ⟨m3, y1, y2, y3⟩ := nm_loop P L (by omega) 6 0 FU (up2 (up2 (up2 mo2 31 0 (-1)) 30 0 1) 31 0 0) rfl (by decide) (by rw [up2_k (by decide), up2_k (by decide), up2_k (by decide)]; exact w5) (by rw [up2_k (by decide), up2_k (by decide), up2_k (by decide), n29]; exact hPt) (by rw [up2_k (by decide), up2_k (by decide), up2_k (by decide)]; exact l2) (by rw [up2_s]; rfl)
          have ltm2 : lt (up2 (up2 (up2 mo2 31 0 (-1)) 30 0 1) 31 0 0) P = lt mo2 P := by funext i; unfold lt; rw [up2_k (by decide), up2_k (by decide), up2_k (by decide)]
          rw [ltm2] at y2
          have y1' : f_Mo_name (up2 (up2 mo2 31 0 (-1)) 30 0 1) = some m3 := y1
          rw [y1', Option.bind_some]
          refine fin m3 (fun q a b => by rw [y3 q b, up2_k b, up2_k a, up2_k b]) ?_
          rw [y3 30 (by decide), up2_k (by decide), up2_s, if_neg (by omega)]
          refine Or.inr (Or.inr (Or.inl ⟨rfl, rfl, i_ext ?_, fun w hw e => ?_⟩))
          · rw [y2, val hL6]
          · refine ka w (by omega) hw ((mW_iff mo2 P L w hw hL6 l2).mpr ?_)
            rw [← val hL6, e]
        · rw [if_neg (show ¬ mo2 28 0 - mo2 29 0 ≤ 6 by rw [i_le]; omega)]
          refine fin (up2 (up2 mo2 31 0 (-1)) 30 0 5) (fun q a b => by rw [up2_k a, up2_k b]) ?_
          rw [up2_s, if_pos (by omega)]
          exact Or.inr (Or.inr (Or.inr (Or.inl ⟨rfl, rfl⟩)))
    · have dl' : ¬ (97 ≤ cc.toInt ∧ cc.toInt ≤ 122) := fun e => dl ((cC 97 122 (by decide) (by decide)).mp e)
      have E142 : (if cc < 97 then f_Tape_step_142 t1 cc else (if 122 < cc then f_Tape_step_142 t1 cc else (f_Tape_stepWord t1).bind fun q13 => some q13)) = f_Tape_step_142 t1 cc := by
        by_cases a : cc < 97
        · rw [if_pos a]
        · rw [if_neg a]
          rw [i_lt] at a
          rw [if_pos (by rw [i_lt]; omega)]
      rw [if_neg dl, if_pos rfl, E142]
      have isd : f_Mo_isDigit C = some (if 48 ≤ C.toInt ∧ C.toInt ≤ 57 then 1 else 0) := by
        unfold f_Mo_isDigit
        simp only [i_lt, i48, i57]
        by_cases a : C.toInt < 48
        · rw [if_pos a, if_neg (by omega)]
        · by_cases b : 57 < C.toInt
          · rw [if_neg a, if_pos b, if_neg (by omega)]
          · rw [if_neg a, if_neg b, if_pos (by omega)]
      rw [isd, Option.bind_some]
      unfold f_Tape_step_142
      by_cases dd : 48 ≤ C.toInt ∧ C.toInt ≤ 57
      · have dd' := (cC 48 57 (by decide) (by decide)).mpr dd
        rw [if_pos dd, if_neg (show ¬ (1 : Int32) = 0 by decide), if_neg (show ¬ cc < 48 by rw [i_lt]; omega), if_neg (show ¬ 57 < cc by rw [i_lt]; omega)]
        obtain ⟨ta2, mo2, g1, g2, g3, g4, g5, g6, g7, g8⟩ := dg_loop ((mb 27 0).toInt - (mb 28 0).toInt).toNat FU FU t1 (up2 (up2 m1 30 0 2) 31 0 0) (p1.mv _ _ (mb 28 0) t13 (by rw [up2_k (by decide), up2_k (by decide)]; exact m28) rfl rfl (by rw [up2_k (by decide), up2_k (by decide)]) (by rw [up2_k (by decide), up2_k (by decide)]) k3 (by rw [m1k 27 (by decide)]; exact k4)) (by rw [up2_k (by decide), up2_k (by decide), up2_k (by decide), up2_k (by decide), m28, m1k 27 (by decide)]; omega) (by unfold FU; omega) (by unfold FU; omega) (by rw [t5, up2_s]; exact Or.inl ⟨rfl, by decide, by decide⟩)
        have G1 : f_Tape_stepDigits t1 = some (up2 ta2 4 0 2) := g1
        rw [G1, Option.bind_some, g2]
        obtain ⟨x1, x2, ⟨x3, x4, x5⟩, x6⟩ := id g3
        have a28 : (up2 (up2 m1 30 0 2) 31 0 0) 28 0 = mb 28 0 := by rw [up2_k (by decide), up2_k (by decide)]; exact m28
        have a27 : (up2 (up2 m1 30 0 2) 31 0 0) 27 0 = mb 27 0 := by rw [up2_k (by decide), up2_k (by decide), m1k 27 (by decide)]
        have a1 : (up2 (up2 m1 30 0 2) 31 0 0) 1 = mb 1 := by rw [up2_k (by decide), up2_k (by decide), m1k 1 (by decide)]
        rw [a28, a27, a1, hC] at g5
        have lt' := g5 c dd.1 dd.2
        have n29 : mo2 29 0 = mb 28 0 := by rw [g8 29 (by decide) (by decide), up2_k (by decide), up2_k (by decide)]; exact m29
        have n30 : mo2 30 0 = 2 := by rw [g8 30 (by decide) (by decide), up2_k (by decide), up2_s]
        refine ⟨_, _, rfl, rfl, ⟨?_, ?_, ?_, ?_, ?_⟩, ?_, ?_, ?_⟩
        · exact g3.mv _ _ (mo2 28 0) (by rw [up2_k (by decide)]; exact x1) rfl (up2_k (by decide)) (up2_k (by decide)) rfl rfl x3 x4
        · rw [up2_k (by decide), g7 6 (by decide) (by decide), t6, n29]
        · rw [n29]; omega
        · intro _; rw [n29]; exact lt'
        · rw [up2_s, up2_k (by decide), n30]
          exact Or.inr (Or.inr (Or.inr (Or.inr (Or.inl ⟨rfl, rfl, g6⟩))))
        · rw [n29]; exact e4
        · exact fT _ (fun q a b d => by rw [up2_k b, g7 q a d])
        · exact fM _ (fun q hq => by rw [g8 q (by omega) (by omega), up2_k (by omega), up2_k (by omega)])
      · have dd' : ¬ (48 ≤ cc.toInt ∧ cc.toInt ≤ 57) := fun e => dd ((cC 48 57 (by decide) (by decide)).mp e)
        have E : (if cc < 48 then (f_Tape_stepSign t1 cc).bind fun q16 => some q16 else (if 57 < cc then (f_Tape_stepSign t1 cc).bind fun q19 => some q19 else (f_Tape_stepDigits t1).bind fun q21 => some q21)) = (f_Tape_stepSign t1 cc).bind fun q16 => some q16 := by
          by_cases a : cc < 48
          · rw [if_pos a]
          · rw [if_neg a]
            rw [i_lt] at a
            rw [if_pos (by rw [i_lt]; omega)]
        rw [if_neg dd, if_pos rfl, E]
        obtain ⟨ta2, mo2, g1, g2, g3, g4, g5, g6, g7, g8⟩ := sgn_ok p1 (by rw [m28, m1k 27 (by decide)]; exact c) cc C (by rw [m28, t1k 0 (by decide) (by decide)]; exact hc) (by rw [m28, m1k 1 (by decide)]; exact hC)
        rw [g1, Option.bind_some, g2, Option.bind_some]
        rw [m28] at g4
        have n29 : mo2 29 0 = mb 28 0 := by rw [g8 29 (by decide) (by decide) (by decide)]; exact m29
        refine ⟨_, _, rfl, rfl, ⟨g3, ?_, ?_, ?_, ?_⟩, ?_, ?_, ?_⟩
        · rw [g7 6 (by decide) (by decide) (by decide), t6, n29]
        · rw [n29]; omega
        · intro _; rw [n29]; exact g4
        · rcases g6 with ⟨q1, q2, q3⟩ | ⟨q1, q2, q3⟩
          · exact Or.inr (Or.inr (Or.inr (Or.inr (Or.inr (Or.inl ⟨g5, q1, q2, q3⟩)))))
          · exact Or.inr (Or.inr (Or.inr (Or.inr (Or.inr (Or.inr ⟨g5, q1, q2, q3⟩)))))
        · rw [n29]; exact e4
        · exact fT _ g7
        · exact fM _ (fun q hq => g8 q (by omega) (by omega) (by omega))
  · rw [if_neg c, if_neg c, if_neg (show ¬ mb 28 0 < mb 27 0 by rw [i_lt]; exact c), Option.bind_some, if_pos rfl]
    refine ⟨_, _, rfl, rfl, ⟨?_, ?_, ?_, ?_, ?_⟩, ?_, ?_, ?_⟩
    · exact p1.mv _ _ (mb 28 0) (by rw [up2_k (by decide)]; exact t13) (by rw [up2_k (by decide)]; exact m28) (up2_k (by decide)) (up2_k (by decide)) (up2_k (by decide)) (up2_k (by decide)) k3 (by rw [m1k 27 (by decide)]; exact k4)
    · rw [up2_k (by decide), up2_k (by decide), t6, m29]
    · rw [up2_k (by decide), up2_k (by decide), m29, m28]; omega
    · intro e; rw [up2_s] at e; exact absurd rfl e
    · rw [up2_s, up2_s]; exact Or.inl ⟨rfl, rfl⟩
    · rw [up2_k (by decide), m29]; exact e4
    · exact fT _ (fun q a b d => up2_k b)
    · exact fM _ (fun q hq => up2_k (by omega))
