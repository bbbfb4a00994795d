/-! what a faulty text leaves as it was -/
theorem iKinds.oR {ki a b : jZ} (h : iKinds ki a) (o : oR a b) : iKinds ki b := by
  obtain ⟨h0, h1, h2, h3, h4⟩ := h
  unfold iKinds
  rw [o.1 3 (by omega)]
  refine ⟨h0, h1, h2, ?_, fun k hk => ?_⟩
  · rw [h3]
    exact sm_cg _ _ 0 _ (fun j hj => ((o.2.1 (0 + j) (by omega)).2).symm)
  · obtain ⟨g1, g2, g3, g4, g5, g6, g7⟩ := h4 k hk
    have e7 : ∀ f, f < 10 → b 7 (10 * k + f) = a 7 (10 * k + f) := fun f hf => o.2.2.1 _ (by omega)
    rw [(o.2.1 k (by omega)).1, (o.2.1 k (by omega)).2]
    refine ⟨g1, g2, g3, g4, fun f hf => by rw [e7 f hf]; exact g5 f hf, ?_, fun c hc => ?_⟩
    · rw [g6]; exact sm_cg _ _ _ _ (fun j hj => (e7 j hj).symm)
    · rw [g7 c hc, cnt_cg (a 7) (b 7) (10 * k) c 10 (fun j hj => (e7 j hj).symm)]
theorem iPlaces.oR {ro a b : jZ} (h : iPlaces ro a) (o : oR a b) : iPlaces ro b := by
  obtain ⟨h0, h1, h2, h3, h4, h5, h6, h7⟩ := h
  unfold iPlaces
  rw [o.1 4 (by omega), o.1 18 (by omega), o.1 19 (by omega), o.1 14 (by omega)]
  refine ⟨h0, h1, h2, h3, h4, h5, h6, fun p hp => ?_⟩
  have e : ∀ q, 8 ≤ q → q ≤ 13 → b q p = a q p := fun q x y => o.2.2.2.1 q x y p (by omega)
  rw [e 8 (by omega) (by omega), e 9 (by omega) (by omega), e 10 (by omega) (by omega), e 11 (by omega) (by omega), e 12 (by omega) (by omega), e 13 (by omega) (by omega)]
  exact h7 p hp
theorem iRule.oR {ru a b : jZ} (h : iRule ru a) (o : oR a b) : iRule ru b := by
  obtain ⟨h0, ⟨h1, h2⟩, h3, h4⟩ := h
  have d : ∀ i : Nat, i ≤ 64 → dpt (b 15) (b 16) i = dpt (a 15) (a 16) i := fun i hi => dpt_cg _ _ _ _ i (fun j hj => o.2.2.2.2 j (by omega))
  unfold iRule
  rw [o.1 17 (by omega)]
  refine ⟨h0, ⟨h1, h2⟩, fun i hi => ?_, ?_⟩
  · rw [(o.2.2.2.2 i (by omega)).1, (o.2.2.2.2 i (by omega)).2, d i (by omega)]; exact h3 i hi
  · rw [d _ (by omega)]; exact h4
theorem iNotes.oR {no a b : jZ} (h : iNotes no a) (o : oR a b) : iNotes no b := by
  unfold iNotes
  rw [o.1 38 (by omega), o.1 39 (by omega), o.1 40 (by omega), o.1 41 (by omega), o.1 42 (by omega)]; exact h
theorem TK_same {ru a b : jZ} (h : iRule ru a) (g : iRule ru b) (x y z q : Int32) : TK b x y z q = TK a x y z q := by
  have e : ∀ m : jZ, iRule ru m → ∃ ru2 ruy2, f_Rule_takes ru (fun _ _ => 0) x y z q = some (ru2, ruy2, TK m x y z q) := fun m hm => by
    obtain ⟨ru2, ruy2, m3, my3, g1, -⟩ := takes_det (m2 := up2 (up2 (up2 m 49 0 x) 49 1 y) 49 2 z) hm (by rw [up2_k (by decide), up2_k (by decide), up2_k (by decide)]) (by rw [up2_k (by decide), up2_k (by decide), up2_k (by decide)]) (by rw [up2_k (by decide), up2_k (by decide), up2_k (by decide)]) (fun _ _ => 0) (fun _ _ => 0) x y z q (by rw [up2_j (by decide), up2_j (by decide), up2_s]) (by rw [up2_j (by decide), up2_s]) up2_s
    exact ⟨ru2, ruy2, g1⟩
  obtain ⟨r1, r2, e1⟩ := e a h
  obtain ⟨r3, r4, e2⟩ := e b g
  rw [e1] at e2
  obtain ⟨-, k⟩ := Prod.mk.inj (Option.some.inj e2)
  exact (Prod.mk.inj k).2.symm
theorem LW_cg {a b : jZ} (h3 : b 3 = a 3) (hk : (a 3 0).toInt ≤ 5) (h7 : ∀ j, j < 50 → b 7 j = a 7 j) (f g : Nat → Nat → Nat → Nat → Int) (hf : ∀ k x y z, k < 5 → g k x y z = f k x y z) : LW g b = LW f a := by
  unfold LW
  rw [h3]
  refine sI_cong _ (fun k hk' => sI_cong _ (fun i hi => ?_))
  unfold lwR
  rw [hf k _ _ _ (by omega), h7 _ (by omega), h7 _ (by omega), h7 _ (by omega)]
theorem iLuck.oR {ki ru lu a b : jZ} {luy : jY} (h : iLuck lu luy a) (hk : iKinds ki a) (hR : iRule ru a) (o : oR a b) : iLuck lu luy b := by
  have T := TK_same hR (hR.oR o)
  have h5 := hk.2.2.1
  rcases h with h | ⟨h1, h2, h3⟩
  · exact Or.inl h
  · refine Or.inr ⟨?_, ?_, ?_⟩
    · rw [h1]; exact (LW_cg (o.1 3 (by omega)) h5 o.2.2.1 _ _ (fun k x y z hk' => by unfold hT; rw [T, (o.2.1 k hk').2])).symm
    · rw [h2]; exact (LW_cg (o.1 3 (by omega)) h5 o.2.2.1 _ _ (fun k x y z hk' => by unfold hH; rw [T, (o.2.1 k hk').2])).symm
    · rw [h3]; exact (LW_cg (o.1 3 (by omega)) h5 o.2.2.1 _ _ (fun k x y z hk' => by unfold hS; rw [T, (o.2.1 k hk').2, sm_cg (b 7) (a 7) (10 * k) 10 (fun j hj => o.2.2.1 _ (by omega))])).symm
/-! clearing -/
theorem NCLR (no : jZ) : ∃ no2, f_Notes_clear no = some no2 ∧ ∀ mo : jZ, mo 38 0 = 0 → mo 39 0 = -1 → iNotes no2 mo := by
  have a0 : (up2 (up2 no 0 0 0) 1 0 (-1)) 0 0 = 0 := by rw [up2_k (by decide), up2_s]
  have a1 : (up2 (up2 no 0 0 0) 1 0 (-1)) 1 0 = -1 := up2_s
  have i0 : (0 : Int32).toInt = 0 := rfl
  have im : (-1 : Int32).toInt = -1 := rfl
  have R := fun P Y O => refresh_ok (up2 (up2 no 0 0 0) 1 0 (-1)) P Y O (by rw [a0, i0]; omega) (by rw [a0, i0]; omega) (by rw [a1, im]; omega) (by rw [a0, a1, i0, im]; omega) (fun i hi => by rw [a0, i0] at hi; omega)
  obtain ⟨no2, e1, e2, e3⟩ := R (fun _ => 0) (fun _ => 0) (fun _ => 0)
  refine ⟨no2, by unfold f_Notes_clear; rw [e1, Option.bind_some], fun mo m38 m39 => ?_⟩
  obtain ⟨no3, f1, f2, f3⟩ := R (mo 40) (mo 41) (mo 42)
  rw [e1] at f1
  have : no2 = no3 := Option.some.inj f1
  subst this
  have k0 : no2 0 0 = 0 := by rw [← e2 0 (by omega)]; exact a0
  have k1 : no2 1 0 = -1 := by rw [← e2 1 (by omega)]; exact a1
  unfold iNotes
  rw [m38, m39, k0, k1, i0, im]
  refine ⟨rfl, by omega, rfl, by omega, fun i hi => by omega, fun j hj => ?_⟩
  rw [f3 j hj, a0, a1]
theorem kc_32 : ∀ (n i N : Nat) (ki : jZ), i + n = 50 → n < N → ∃ ki2, f_Kinds_clear_32 N ki (nI i) = some ki2 ∧ (∀ q, q ≠ 6 → ki2 q = ki q) ∧ (∀ j, i ≤ j → j < 50 → ki2 6 j = 0) ∧ (∀ j, j < i → ki2 6 j = ki 6 j) := by
  have i50 : (50 : Int32).toInt = 50 := rfl
  intro n
  induction n with
  | zero =>
    intro i N ki hn hN
    obtain ⟨M, rfl⟩ : ∃ M, N = M + 1 := ⟨N - 1, by omega⟩
    have ti : (nI i).toInt = i := nI_toInt (by omega)
    rw [f_Kinds_clear_32, if_pos (by rw [i_le]; omega)]
    exact ⟨ki, rfl, fun _ _ => rfl, fun j a b => by omega, fun _ _ => rfl⟩
  | succ n ih =>
    intro i N ki hn hN
    obtain ⟨M, rfl⟩ : ∃ M, N = M + 1 := ⟨N - 1, by omega⟩
    have ti : (nI i).toInt = i := nI_toInt (by omega)
    rw [f_Kinds_clear_32, if_neg (by rw [i_le]; omega), ix_ok (by omega) (by omega), Option.bind_some, i_tn, ti, Int.toNat_natCast, nI_1]
    obtain ⟨k2, e1, e2, e3, e4⟩ := ih (i + 1) M (up2 ki 6 i 0) (by omega) (by omega)
    refine ⟨k2, e1, fun q hq => by rw [e2 q hq, up2_k hq], fun j a b => ?_, fun j hj => by rw [e4 j (by omega), up2_j (by omega)]⟩
    by_cases c : j = i
    · rw [c, e4 i (by omega), up2_s]
    · exact e3 j (by omega) b
theorem kc_12 : ∀ (n i N : Nat) (ki : jZ), i + n = 5 → n < N → ∃ ki2, f_Kinds_clear_12 N ki (nI i) = some ki2 ∧ (∀ q, q ≠ 4 → q ≠ 6 → ki2 q = ki q) ∧ (∀ j, i ≤ j → j < 5 → ki2 4 j = 0) ∧ (∀ j, j < i → ki2 4 j = ki 4 j) ∧ (∀ j, j < 50 → ki2 6 j = 0) := by
  have i5 : (5 : Int32).toInt = 5 := rfl
  intro n
  induction n with
  | zero =>
    intro i N ki hn hN
    obtain ⟨M, rfl⟩ : ∃ M, N = M + 1 := ⟨N - 1, by omega⟩
    have ti : (nI i).toInt = i := nI_toInt (by omega)
    rw [f_Kinds_clear_12, if_pos (by rw [i_le]; omega)]
    obtain ⟨k2, e1, e2, e3, e4⟩ := kc_32 50 0 FU ki (by omega) (by unfold FU; omega)
    exact ⟨k2, e1, fun q _ b => e2 q b, fun j a b => by omega, fun j _ => by rw [e2 4 (by decide)], fun j hj => e3 j (by omega) hj⟩
  | succ n ih =>
    intro i N ki hn hN
    obtain ⟨M, rfl⟩ : ∃ M, N = M + 1 := ⟨N - 1, by omega⟩
    have ti : (nI i).toInt = i := nI_toInt (by omega)
    rw [f_Kinds_clear_12, if_neg (by rw [i_le]; omega), ix_ok (by omega) (by omega), Option.bind_some, i_tn, ti, Int.toNat_natCast, nI_1]
    obtain ⟨k2, e1, e2, e3, e4, e5⟩ := ih (i + 1) M (up2 ki 4 i 0) (by omega) (by omega)
    refine ⟨k2, e1, fun q a b => by rw [e2 q a b, up2_k a], fun j a b => ?_, fun j hj => by rw [e4 j (by omega), up2_j (by omega)], e5⟩
    by_cases c : j = i
    · rw [c, e4 i (by omega), up2_s]
    · exact e3 j (by omega) b
theorem KCLR (ki : jZ) : ∃ ki2, f_Kinds_clear ki = some ki2 ∧ ∀ mo : jZ, mo 20 0 = 0 → nK ki2 mo 0 := by
  obtain ⟨k2, e1, e2, e3, e4, e5⟩ := kc_12 5 0 FU (up2 (up2 ki 0 0 0) 1 0 0) (by omega) (by unfold FU; omega)
  refine ⟨k2, e1, fun mo m20 => ⟨?_, m20, by omega, ?_, fun k hk => by omega, fun k _ hk => ⟨e3 k (by omega) hk, fun c hc => e5 _ (by omega)⟩⟩⟩
  · rw [e2 0 (by decide) (by decide), up2_k (by decide), up2_s]; rfl
  · rw [e2 1 (by decide) (by decide), up2_s]; rfl
theorem rc_49 (ki ru no : jZ) : ∀ (n i N : Nat) (ro : jZ), i + n = 12 → n < N → ∃ ro2, f_Road_clear_49 N ro ki ru no (nI i) = some (ro2, ki, ru, no) ∧ (∀ q, q < 10 ∨ 14 < q → ro2 q = ro q) ∧ (∀ j, i ≤ j → j < 12 → ro2 10 j = 0 ∧ ro2 11 j = 0 ∧ ro2 12 j = -1 ∧ ro2 13 j = 0 ∧ ro2 14 j = 0) ∧ (∀ q j, j < i → ro2 q j = ro q j) := by
  have i12 : (12 : Int32).toInt = 12 := rfl
  intro n
  induction n with
  | zero =>
    intro i N ro hn hN
    obtain ⟨M, rfl⟩ : ∃ M, N = M + 1 := ⟨N - 1, by omega⟩
    have ti : (nI i).toInt = i := nI_toInt (by omega)
    rw [f_Road_clear_49, if_pos (by rw [i_le]; omega)]
    exact ⟨ro, rfl, fun _ _ => rfl, fun j a b => by omega, fun _ _ _ => rfl⟩
  | succ n ih =>
    intro i N ro hn hN
    obtain ⟨M, rfl⟩ : ∃ M, N = M + 1 := ⟨N - 1, by omega⟩
    have ti : (nI i).toInt = i := nI_toInt (by omega)
    rw [f_Road_clear_49, if_neg (by rw [i_le]; omega), ix_ok (by omega) (by omega), Option.bind_some, Option.bind_some, Option.bind_some, Option.bind_some, Option.bind_some, i_tn, ti, Int.toNat_natCast, nI_1]
    obtain ⟨r2, e1, e2, e3, e4⟩ := ih (i + 1) M (up2 (up2 (up2 (up2 (up2 ro 10 i 0) 11 i 0) 12 i (-1)) 13 i 0) 14 i 0) (by omega) (by omega)
    refine ⟨r2, e1, fun q hq => by rw [e2 q hq, up2_k (by omega), up2_k (by omega), up2_k (by omega), up2_k (by omega), up2_k (by omega)], fun j a b => ?_, fun q j hj => ?_⟩
    · by_cases c : j = i
      · rw [c, e4 10 i (by omega), e4 11 i (by omega), e4 12 i (by omega), e4 13 i (by omega), e4 14 i (by omega)]
        refine ⟨?_, ?_, ?_, ?_, up2_s⟩
        · rw [up2_k (by decide), up2_k (by decide), up2_k (by decide), up2_k (by decide), up2_s]
        · rw [up2_k (by decide), up2_k (by decide), up2_k (by decide), up2_s]
        · rw [up2_k (by decide), up2_k (by decide), up2_s]
        · rw [up2_k (by decide), up2_s]
      · exact e3 j (by omega) b
    · rw [e4 q j (by omega)]
      have : ∀ (z : jZ) (k : Nat) (v : Int32), up2 z k i v q j = z q j := fun z k v => by
        by_cases e : q = k
        · rw [e, up2_j (by omega)]
        · rw [up2_k e]
      rw [this, this, this, this, this]
