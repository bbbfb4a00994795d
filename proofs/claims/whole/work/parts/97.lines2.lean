def pK (ki mo : jZ) (k f : Nat) : Prop := (∀ g, g < f → ki 5 (10 * k + g) = mo 7 (10 * (5 + k) + g) ∧ 0 ≤ (mo 7 (10 * (5 + k) + g)).toInt ∧ (mo 7 (10 * (5 + k) + g)).toInt ≤ 9) ∧ (ki 4 k).toInt = sm (mo 7) (10 * (5 + k)) f ∧ ∀ c : Nat, c < 10 → (ki 6 (10 * k + c)).toInt = cnt (mo 7) (10 * (5 + k)) c f
def cK (ki mo : jZ) (k : Nat) : Prop := ki 2 k = mo 5 (5 + k) ∧ ki 3 k = mo 6 (5 + k) ∧ (1 ≤ (mo 6 (5 + k)).toInt ∧ (mo 6 (5 + k)).toInt ≤ 99) ∧ pK ki mo k 10
def nK (ki mo : jZ) (K : Nat) : Prop := ki 0 0 = nI K ∧ mo 20 0 = nI K ∧ K ≤ 5 ∧ (ki 1 0).toInt = sm (mo 6) 5 K ∧ (∀ k, k < K → cK ki mo k) ∧ (∀ k, K ≤ k → k < 5 → ki 4 k = 0 ∧ ∀ c, c < 10 → ki 6 (10 * k + c) = 0)
theorem sm_cg (f g : Nat → Int32) (b : Nat) : ∀ n, (∀ j, j < n → f (b + j) = g (b + j)) → sm f b n = sm g b n
  | 0, _ => rfl
  | n + 1, h => by rw [sm, sm, sm_cg f g b n (fun j hj => h j (by omega)), h n (by omega)]
theorem cnt_cg (f g : Nat → Int32) (b : Nat) (c : Int) : ∀ n, (∀ j, j < n → f (b + j) = g (b + j)) → cnt f b c n = cnt g b c n
  | 0, _ => rfl
  | n + 1, h => by rw [cnt, cnt, cnt_cg f g b c n (fun j hj => h j (by omega)), h n (by omega)]
theorem pK.cg {ki mo ki2 mo2 : jZ} {k f : Nat} (h : pK ki mo k f) (h5 : ∀ g, g < f → ki2 5 (10 * k + g) = ki 5 (10 * k + g)) (h4 : ki2 4 k = ki 4 k) (h6 : ∀ c, c < 10 → ki2 6 (10 * k + c) = ki 6 (10 * k + c)) (h7 : ∀ g, g < f → mo2 7 (10 * (5 + k) + g) = mo 7 (10 * (5 + k) + g)) : pK ki2 mo2 k f := by
  obtain ⟨a, b, c⟩ := h
  refine ⟨fun g hg => by rw [h5 g hg, h7 g hg]; exact a g hg, by rw [h4, b]; exact (sm_cg _ _ _ f h7).symm, fun e he => by rw [h6 e he, c e he, cnt_cg _ _ _ _ f h7]⟩
theorem kl_f (K : Nat) (hK : K < 5) : ∀ (n f N : Nat) (mf : jZ), ¬ mf 32 0 = 0 → f + n = 10 → n < N → ∃ mf', f_Mo_kindLine_34 (nI (5 + K)) N mf (nI f) = some mf' ∧ fR mf mf' := by
  have i10 : (10 : Int32).toInt = 10 := rfl
  intro n
  induction n with
  | zero =>
    intro f N mf nf hf hN
    obtain ⟨N, rfl⟩ : ∃ k, N = k + 1 := ⟨N - 1, by omega⟩
    have : f = 10 := by omega
    subst this
    exact ⟨_, by rw [f_Mo_kindLine_34, if_pos (by decide)], up2_k (by decide), up2_k (by decide), oR.of (fun q hq => up2_k (by omega))⟩
  | succ n ih =>
    intro f N mf nf hf hN
    obtain ⟨N, rfl⟩ : ∃ k, N = k + 1 := ⟨N - 1, by omega⟩
    have tf : (nI f).toInt = f := nI_toInt (by omega)
    have q := t10 (k := 5 + K) (d := f) (by omega) (by omega)
    obtain ⟨mf', e1, e2⟩ := ih (f + 1) N (up2 mf 7 (10 * (5 + K) + f) 0) (by rw [up2_k (by decide)]; exact nf) (by omega) (by omega)
    refine ⟨mf', ?_, fR.tr ⟨up2_k (by decide), up2_k (by decide), ⟨fun q hq => up2_k (by omega), fun k _ => ⟨by rw [up2_k (by decide)], by rw [up2_k (by decide)]⟩, fun j hj => by rw [up2_j (by omega)], fun q a b p _ => by rw [up2_k (by omega)], fun i _ => ⟨by rw [up2_k (by decide)], by rw [up2_k (by decide)]⟩⟩⟩ e2⟩
    rw [f_Mo_kindLine_34, if_neg (by rw [i_le]; omega), num_f nf, Option.bind_some, ix_ok (by omega) (by omega), Option.bind_some, i_tn, q, Int.toNat_natCast, nI_1]
    exact e1
theorem put_face (ki : jZ) (K f : Nat) (hK : K < 5) (hf : f < 10) (n : Int32) (c : Nat) (hc : c < 10) (hn : n.toInt = c) : f_Kinds_putFace ki (nI K) (nI f) n = some (up2 (up2 (up2 ki 5 (10 * K + f) n) 6 (10 * K + c) (ki 6 (10 * K + c) + 1)) 4 K (ki 4 K + n)) := by
  have i0 : (0 : Int32).toInt = 0 := rfl
  have i5 : (5 : Int32).toInt = 5 := rfl
  have i10 : (10 : Int32).toInt = 10 := rfl
  have tK : (nI K).toInt = K := nI_toInt (by omega)
  have tf : (nI f).toInt = f := nI_toInt (by omega)
  have m : (nI K * 10).toInt = (K : Int) * 10 := by rw [i_mul (by rw [tK, i10]; omega) (by rw [tK, i10]; omega), tK, i10]
  have a1 : (nI K * 10 + nI f).toInt = ((10 * K + f : Nat) : Int) := by rw [i_add (by omega) (by omega), m, tf]; omega
  have a2 : (nI K * 10 + n).toInt = ((10 * K + c : Nat) : Int) := by rw [i_add (by omega) (by omega), m, hn]; omega
  unfold f_Kinds_putFace
  rw [if_neg (by rw [i_lt]; omega), if_neg (by rw [i_le]; omega), if_neg (by rw [i_lt]; omega), if_neg (by rw [i_le]; omega), if_neg (by rw [i_lt]; omega), if_neg (by rw [i_le]; omega), ix_ok (show 0 ≤ (nI K * 10 + nI f).toInt by omega) (by omega), ix_ok (show 0 ≤ (nI K * 10 + n).toInt by omega) (by omega), ix_ok (show 0 ≤ (nI K).toInt by omega) (by omega)]
  simp only [Option.bind_some, i_tn, a1, a2, tK, Int.toNat_natCast]
/-- the faces of a kind -/
theorem face_loop (K : Nat) (hK : K < 5) (re : jZ) (w : Int32) : ∀ (n f N1 N2 : Nat) (ta ki mo : jZ), f + n = 10 → n < N1 → n < N2 → T ta mo → mo 32 0 = 0 → pK ki mo K f →
    (∃ re' ta' ki' mf, f_Reader_readKind_59 N1 re ta ki (nI K) w (nI f) = some (re', ta', ki', 0) ∧ f_Mo_kindLine_34 (nI (5 + K)) N2 mo (nI f) = some mf ∧ ¬ mf 32 0 = 0 ∧ re' 1 0 = mf 32 0 ∧ re' 2 0 = mf 33 0 ∧ oR mo mf ∧ (∀ q, q < 3 → ta' q = ta q)) ∨
    (∃ ta2 ki2 mo2, f_Reader_readKind_59 N1 re ta ki (nI K) w (nI f) = some (re, ta2, up2 (up2 (up2 ki2 3 K w) 1 0 (ki2 1 0 + w)) 0 0 (nI (K + 1)), 1) ∧ f_Mo_kindLine_34 (nI (5 + K)) N2 mo (nI f) = some (up2 mo2 20 0 (mo2 20 0 + 1)) ∧ T ta2 mo2 ∧ mo2 32 0 = 0 ∧ pK ki2 mo2 K 10 ∧ (mo 29 0).toInt ≤ (mo2 29 0).toInt ∧ (∀ q, q < 3 → ta2 q = ta q) ∧ (∀ q, ¬ q = 7 → q < 28 ∨ 31 < q → mo2 q = mo q) ∧ (∀ j, j < 10 * (5 + K) ∨ 10 * (5 + K) + 10 ≤ j → mo2 7 j = mo 7 j) ∧ (∀ q, q ≠ 4 → q ≠ 5 → q ≠ 6 → ki2 q = ki q) ∧ (∀ k, k ≠ K → ki2 4 k = ki 4 k) ∧ (∀ j, j < 10 * K ∨ 10 * K + 10 ≤ j → ki2 5 j = ki 5 j ∧ ki2 6 j = ki 6 j)) := by
  have i10 : (10 : Int32).toInt = 10 := rfl
  have i1 : (1 : Int32).toInt = 1 := rfl
  have tK : (nI K).toInt = K := nI_toInt (by omega)
  intro n
  induction n with
  | zero =>
    intro f N1 N2 ta ki mo hf hN1 hN2 hT h0 hp
    obtain ⟨N1, rfl⟩ : ∃ k, N1 = k + 1 := ⟨N1 - 1, by omega⟩
    obtain ⟨N2, rfl⟩ : ∃ k, N2 = k + 1 := ⟨N2 - 1, by omega⟩
    have : f = 10 := by omega
    subst this
    right
    refine ⟨ta, ki, mo, ?_, ?_, hT, h0, hp, Int.le_refl _, fun _ _ => rfl, fun _ _ _ => rfl, fun _ _ => rfl, fun _ _ _ _ => rfl, fun _ _ => rfl, fun _ _ => ⟨rfl, rfl⟩⟩
    · rw [f_Reader_readKind_59, if_pos (by decide), ix_ok (by omega) (by omega), Option.bind_some, i_tn, tK, Int.toNat_natCast, nI_1]
    · rw [f_Mo_kindLine_34, if_pos (by decide)]
  | succ n ih =>
    intro f N1 N2 ta ki mo hf hN1 hN2 hT h0 hp
    obtain ⟨N1, rfl⟩ : ∃ k, N1 = k + 1 := ⟨N1 - 1, by omega⟩
    obtain ⟨N2, rfl⟩ : ∃ k, N2 = k + 1 := ⟨N2 - 1, by omega⟩
    have tf : (nI f).toInt = f := nI_toInt (by omega)
    have qi := t10 (k := 5 + K) (d := f) (by omega) (by omega)
    rw [f_Reader_readKind_59, if_neg (by rw [i_le]; omega), f_Mo_kindLine_34, if_neg (show ¬ (10 : Int32) ≤ nI f by rw [i_le]; omega)]
    rcases num_ok hT h0 0 9 (by decide) (by decide) with ⟨x, hx, c1, c2⟩ | ⟨ta1, mo1, v, c1, c2, c3, c4, c5, c6, c7, c8⟩
    · left
      have nf : ¬ (flt mo x) 32 0 = 0 := by rw [flt_32]; exact hx
      obtain ⟨mf, e1, e2⟩ := kl_f K hK n (f + 1) N2 (up2 (flt mo x) 7 (10 * (5 + K) + f) 0) (by rw [up2_k (by decide)]; exact nf) (by omega) (by omega)
      refine ⟨stp re ta x, ta, ki, mf, ?_, ?_, ?_, ?_, ?_, ?_, fun _ _ => rfl⟩
      · rw [c1, Option.bind_some]
        dsimp only
        rw [if_pos rfl]
      · rw [c2, Option.bind_some, ix_ok (by omega) (by omega), Option.bind_some, i_tn, qi, Int.toNat_natCast, nI_1]
        exact e1
      · rw [e2.1, up2_k (by decide)]; exact nf
      · rw [stp_1, e2.1, up2_k (by decide), flt_32]
      · rw [stp_2, e2.2.1, up2_k (by decide), flt_33, hT.2.1]
      · refine (flt_o mo x).tr (oR.tr ⟨fun q hq => up2_k (by omega), fun k _ => ⟨by rw [up2_k (by decide)], by rw [up2_k (by decide)]⟩, fun j hj => by rw [up2_j (by omega)], fun q a b p _ => by rw [up2_k (by omega)], fun i _ => ⟨by rw [up2_k (by decide)], by rw [up2_k (by decide)]⟩⟩ e2.2.2)
    · have i0 : (0 : Int32).toInt = 0 := rfl
      have i9 : (9 : Int32).toInt = 9 := rfl
      generalize hcn : v.toInt.toNat = cn
      have hv : v.toInt = (cn : Int) := by omega
      have pf := put_face ki K f hK (by omega) v cn (by omega) hv
      rw [c1, Option.bind_some, c2, Option.bind_some]
      dsimp only
      rw [if_neg c4, pf, Option.bind_some, nI_1, ix_ok (by omega) (by omega), Option.bind_some, i_tn, qi, Int.toNat_natCast]
      generalize hki : up2 (up2 (up2 ki 5 (10 * K + f) v) 6 (10 * K + cn) (ki 6 (10 * K + cn) + 1)) 4 K (ki 4 K + v) = ki1
      generalize hm : up2 mo1 7 (10 * (5 + K) + f) v = m1
      have m1k : ∀ q, q ≠ 7 → m1 q = mo1 q := fun q hq => by rw [← hm, up2_k hq]
      have m17 : ∀ j, j ≠ 10 * (5 + K) + f → m1 7 j = mo 7 j := fun j hj => by rw [← hm, up2_j hj, c8 7 (by omega)]
      have m17f : m1 7 (10 * (5 + K) + f) = v := by rw [← hm, up2_s]
      have k4 : ki1 4 K = ki 4 K + v := by rw [← hki, up2_s]
      have k4' : ∀ k, k ≠ K → ki1 4 k = ki 4 k := fun k hk => by rw [← hki, up2_j hk, up2_k (by decide), up2_k (by decide)]
      have k5 : ∀ j, j ≠ 10 * K + f → ki1 5 j = ki 5 j := fun j hj => by rw [← hki, up2_k (by decide), up2_k (by decide), up2_j hj]
      have k5f : ki1 5 (10 * K + f) = v := by rw [← hki, up2_k (by decide), up2_k (by decide), up2_s]
      have k6 : ∀ j, j ≠ 10 * K + cn → ki1 6 j = ki 6 j := fun j hj => by rw [← hki, up2_k (by decide), up2_j hj, up2_k (by decide)]
      have k6c : ki1 6 (10 * K + cn) = ki 6 (10 * K + cn) + 1 := by rw [← hki, up2_k (by decide), up2_s]
      obtain ⟨p1, p2, p3⟩ := hp
      have smb : ∀ n, n ≤ f → 0 ≤ sm (mo 7) (10 * (5 + K)) n ∧ sm (mo 7) (10 * (5 + K)) n ≤ 9 * n := by
        intro n
        induction n with
        | zero => intro _; simp [sm]
        | succ n ihn => intro hn; have := ihn (by omega); have := (p1 n (by omega)).2; rw [sm]; omega
      have sb := smb f (Nat.le_refl _)
      have cl := cnt_le (mo 7) (10 * (5 + K)) cn f
      have hp' : pK ki1 m1 K (f + 1) := by
        refine ⟨fun g hg => ?_, ?_, fun c hc => ?_⟩
        · by_cases e : g = f
          · rw [e, k5f, m17f]; exact ⟨rfl, by omega, by omega⟩
          · rw [k5 _ (by omega), m17 _ (by omega)]; exact p1 g (by omega)
        · rw [k4, sm, m17f, sm_cg (m1 7) (mo 7) _ f (fun j hj => m17 _ (by omega)), i_add (by omega) (by omega), p2]
        · rw [cnt, m17f, cnt_cg (m1 7) (mo 7) _ _ f (fun j hj => m17 _ (by omega))]
          by_cases e : c = cn
          · have p3' := p3 cn (by omega)
            rw [e, k6c, i_add (by omega) (by omega), p3', i1, if_pos (by omega)]; omega
          · rw [k6 _ (by omega), if_neg (by omega), p3 c hc]; omega
      rcases ih (f + 1) N1 N2 ta1 ki1 m1 (by omega) (by omega) (by omega) (by
        obtain ⟨y1, y2, y3, y4, y5⟩ := c5
        refine ⟨tPos_cg y1 (m1k 1 (by decide)) (m1k 27 (by decide)) (m1k 28 (by decide)), ?_, ?_, ?_, ?_⟩
        · rw [m1k 29 (by decide)]; exact y2
        · rw [m1k 29 (by decide), m1k 28 (by decide)]; exact y3
        · rw [m1k 29 (by decide), m1k 28 (by decide)]; exact y4
        · rw [m1k 30 (by decide), m1k 31 (by decide)]; exact y5) (by rw [m1k 32 (by decide), c8 32 (by omega)]; exact h0) hp' with ⟨re', ta', ki', mf, d1, d2, d3, d4, d5, d6, d7⟩ | ⟨ta2, ki2, mo2, d1, d2, d3, d4, d5, d6, d7, d8, d9, d10, d11, d12⟩
      · left
        refine ⟨re', ta', ki', mf, d1, d2, d3, d4, d5, oR.tr ⟨fun q hq => by rw [m1k q (by omega), c8 q (by omega)], fun k _ => ⟨by rw [m1k 5 (by decide), c8 5 (by omega)], by rw [m1k 6 (by decide), c8 6 (by omega)]⟩, fun j hj => m17 j (by omega), fun q a b p _ => by rw [m1k q (by omega), c8 q (by omega)], fun i _ => ⟨by rw [m1k 15 (by decide), c8 15 (by omega)], by rw [m1k 16 (by decide), c8 16 (by omega)]⟩⟩ d6, fun q hq => (d7 q hq).trans (c7 q hq)⟩
      · right
        refine ⟨ta2, ki2, mo2, d1, d2, d3, d4, d5, ?_, fun q hq => (d7 q hq).trans (c7 q hq), fun q a b => by rw [d8 q a b, m1k q a, c8 q b], fun j hj => by rw [d9 j hj, m17 j (by omega)], fun q a b c => by rw [d10 q a b c, ← hki, up2_k a, up2_k c, up2_k b], fun k hk => by rw [d11 k hk, k4' k hk], fun j hj => ⟨by rw [(d12 j hj).1, k5 j (by omega)], by rw [(d12 j hj).2, k6 j (by omega)]⟩⟩
        rw [m1k 29 (by decide)] at d6
        omega
