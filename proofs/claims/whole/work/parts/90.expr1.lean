/-! ===== the rule's text: pile and output beside the descent ===== -/
def rk (x : Int32) : Int32 := (if x = 42 then 6 else (if x = 43 then 5 else (if x = 45 then 5 else (if x = 47 then 6 else (if x = 60 then 4 else (if x = 61 then 4 else (if x = 62 then 4 else (if x = 256 then 4 else (if x = 257 then 4 else (if x = 258 then 4 else (if x = 48365568 then 2 else (if x = 486146048 then 3 else (if x = 522190848 then 1 else 0)))))))))))))
theorem rk_all (x : Int32) : f_Reader_rankOf x = some (rk x) ∧ 0 ≤ (rk x).toInt ∧ (rk x).toInt ≤ 6 := by
  unfold rk f_Reader_rankOf
  by_cases h0 : x = 42
  · rw [if_pos h0, if_pos h0]; exact ⟨rfl, by decide, by decide⟩
  rw [if_neg h0, if_neg h0]
  by_cases h1 : x = 43
  · rw [if_pos h1, if_pos h1]; exact ⟨rfl, by decide, by decide⟩
  rw [if_neg h1, if_neg h1]
  by_cases h2 : x = 45
  · rw [if_pos h2, if_pos h2]; exact ⟨rfl, by decide, by decide⟩
  rw [if_neg h2, if_neg h2]
  by_cases h3 : x = 47
  · rw [if_pos h3, if_pos h3]; exact ⟨rfl, by decide, by decide⟩
  rw [if_neg h3, if_neg h3]
  by_cases h4 : x = 60
  · rw [if_pos h4, if_pos h4]; exact ⟨rfl, by decide, by decide⟩
  rw [if_neg h4, if_neg h4]
  by_cases h5 : x = 61
  · rw [if_pos h5, if_pos h5]; exact ⟨rfl, by decide, by decide⟩
  rw [if_neg h5, if_neg h5]
  by_cases h6 : x = 62
  · rw [if_pos h6, if_pos h6]; exact ⟨rfl, by decide, by decide⟩
  rw [if_neg h6, if_neg h6]
  by_cases h7 : x = 256
  · rw [if_pos h7, if_pos h7]; exact ⟨rfl, by decide, by decide⟩
  rw [if_neg h7, if_neg h7]
  by_cases h8 : x = 257
  · rw [if_pos h8, if_pos h8]; exact ⟨rfl, by decide, by decide⟩
  rw [if_neg h8, if_neg h8]
  by_cases h9 : x = 258
  · rw [if_pos h9, if_pos h9]; exact ⟨rfl, by decide, by decide⟩
  rw [if_neg h9, if_neg h9]
  by_cases h10 : x = 48365568
  · rw [if_pos h10, if_pos h10]; exact ⟨rfl, by decide, by decide⟩
  rw [if_neg h10, if_neg h10]
  by_cases h11 : x = 486146048
  · rw [if_pos h11, if_pos h11]; exact ⟨rfl, by decide, by decide⟩
  rw [if_neg h11, if_neg h11]
  by_cases h12 : x = 522190848
  · rw [if_pos h12, if_pos h12]; exact ⟨rfl, by decide, by decide⟩
  rw [if_neg h12, if_neg h12]
  exact ⟨rfl, by decide, by decide⟩
theorem rk_eq (x : Int32) : f_Reader_rankOf x = some (rk x) := (rk_all x).1
theorem rk_rng (x : Int32) : 0 ≤ (rk x).toInt ∧ (rk x).toInt ≤ 6 := (rk_all x).2
/-- signs on the pile -/
def np (z : Nat → Int32) : Nat → Nat
  | 0 => 0
  | t + 1 => np z t + (if z t = 40 then 0 else 1)
theorem np_cg (z w : Nat → Int32) : ∀ t, (∀ j, j < t → z j = w j) → np z t = np w t
  | 0, _ => rfl
  | t + 1, h => by rw [np, np, np_cg z w t (fun j hj => h j (by omega)), h t (by omega)]
theorem np_le (z : Nat → Int32) : ∀ t, np z t ≤ t
  | 0 => Nat.le_refl 0
  | t + 1 => by rw [np]; have := np_le z t; split <;> omega
theorem np_mono (z : Nat → Int32) (b : Nat) : ∀ n, (∀ j, b ≤ j → j < b + n → ¬ z j = 40) → np z (b + n) = np z b + n
  | 0, _ => rfl
  | n + 1, h => by
    rw [← Nat.add_assoc, np, np_mono z b n (fun j a c => h j a (by omega)), if_neg (h (b + n) (by omega) (by omega))]
    omega
theorem add_ok (ru : jZ) (x : Int32) (s : Nat) (h : ru 0 0 = nI s) (hs : s < 64) : f_Rule_add ru x = some (up2 (up2 ru 1 s x) 0 0 (nI (s + 1))) := by
  have ts : (nI s).toInt = s := nI_toInt (by omega)
  have i0 : (0 : Int32).toInt = 0 := rfl
  have i64 : (64 : Int32).toInt = 64 := rfl
  unfold f_Rule_add
  rw [h, if_neg (by rw [i_lt]; omega), if_neg (by rw [i_le]; omega), ix_ok (by omega) (by omega), Option.bind_some, i_tn, ts, Int.toNat_natCast, nI_1]
theorem ld_ok (r : Int32) : ∀ (n N : Nat) (re ru : jZ) (b t s : Nat), t = b + n → t ≤ 72 → n < N → re 5 0 = nI t → ru 0 0 = nI s → s + n ≤ 64 → (∀ j, b ≤ j → j < t → r.toInt ≤ (rk (re 3 j)).toInt) → (b = 0 ∨ (rk (re 3 (b - 1))).toInt < r.toInt) →
    ∃ re2 ru2, f_Reader_layDown_0 r N re ru = some (re2, ru2) ∧ re2 5 0 = nI b ∧ (∀ q, q ≠ 5 → re2 q = re q) ∧ ru2 0 0 = nI (s + n) ∧ (∀ i, i < s → ru2 1 i = ru 1 i) ∧ (∀ j, j < n → ru2 1 (s + j) = re 3 (t - 1 - j)) := by
  have i0 : (0 : Int32).toInt = 0 := rfl
  have i1 : (1 : Int32).toInt = 1 := rfl
  have i72 : (72 : Int32).toInt = 72 := rfl
  intro n
  induction n with
  | zero =>
    intro N re ru b t s ht h72 hN h5 h0 hs hr hb
    obtain ⟨N, rfl⟩ : ∃ k, N = k + 1 := ⟨N - 1, by omega⟩
    have : t = b := by omega
    subst this
    have tt : (nI t).toInt = t := nI_toInt (by omega)
    refine ⟨re, ru, ?_, h5, fun _ _ => rfl, by rw [Nat.add_zero]; exact h0, fun _ _ => rfl, fun j hj => absurd hj (Nat.not_lt_zero j)⟩
    rw [f_Reader_layDown_0, h5]
    rcases hb with hb | hb
    · rw [if_pos (by rw [i_le]; omega)]
    · by_cases c : t = 0
      · rw [if_pos (by rw [i_le]; omega)]
      · have s1 : (nI t - 1).toInt = ((t - 1 : Nat) : Int) := by rw [i_sub (by omega) (by omega), tt, i1]; omega
        rw [if_neg (by rw [i_le]; omega), if_neg (by rw [i_lt]; omega), ix_ok (by omega) (by omega), Option.bind_some, i_tn, s1, Int.toNat_natCast, rk_eq, Option.bind_some, if_pos (by rw [i_lt]; exact hb)]
  | succ n ih =>
    intro N re ru b t s ht h72 hN h5 h0 hs hr hb
    obtain ⟨N, rfl⟩ : ∃ k, N = k + 1 := ⟨N - 1, by omega⟩
    have tt : (nI t).toInt = t := nI_toInt (by omega)
    have s1 : (nI t - 1).toInt = ((t - 1 : Nat) : Int) := by rw [i_sub (by omega) (by omega), tt, i1]; omega
    have e1 : nI t - 1 = nI (t - 1) := i_ext (by rw [s1, nI_toInt (by omega)])
    have r1 := hr (t - 1) (by omega) (by omega)
    obtain ⟨re2, ru2, g1, g2, g3, g4, g5, g6⟩ := ih N (up2 re 5 0 (nI (t - 1))) (up2 (up2 ru 1 s (re 3 (t - 1))) 0 0 (nI (s + 1))) b (t - 1) (s + 1) (by omega) (by omega) (by omega) up2_s up2_s (by omega) (fun j a c => by rw [up2_k (by decide)]; exact hr j a (by omega)) (by rw [up2_k (by decide)]; exact hb)
    refine ⟨re2, ru2, ?_, g2, fun q hq => by rw [g3 q hq, up2_k hq], by rw [g4]; congr 1; omega, fun i hi => ?_, fun j hj => ?_⟩
    · rw [f_Reader_layDown_0, h5, if_neg (by rw [i_le]; omega), if_neg (by rw [i_lt]; omega), ix_ok (by omega) (by omega), Option.bind_some, i_tn, s1, Int.toNat_natCast, rk_eq, Option.bind_some, if_neg (by rw [i_lt]; omega), Option.bind_some, add_ok ru _ s h0 (by omega), Option.bind_some, e1]
      exact g1
    · rw [g5 i (by omega), up2_k (by decide), up2_j (by omega)]
    · by_cases c : j = 0
      · subst c
        rw [Nat.add_zero, g5 s (by omega), up2_k (by decide), up2_s]; congr 1
      · have := g6 (j - 1) (by omega)
        rw [show s + 1 + (j - 1) = s + j by omega, up2_k (by decide)] at this
        rw [this]; congr 1; omega
/-! the class's loop -/
def tLP (v : Nat) (re ta ru : jZ) : Option (jZ × jZ × jZ × Int32) := f_Reader_readTake_54 (FU - v) re ta ru (nI v)
theorem FU_s {v : Nat} (h : v ≤ 600) : FU - v = (FU - (v + 1)) + 1 := by unfold FU; omega
theorem csig (ta : jZ) (x : Int32) : f_Tape_isSign ta x = some (if ta 4 0 = 3 ∧ ta 5 0 = x then 1 else 0) := by
  unfold f_Tape_isSign
  by_cases c : ta 4 0 = 3
  · rw [if_pos c]
    by_cases d : ta 5 0 = x
    · rw [if_pos d, if_pos ⟨c, d⟩]
    · rw [if_neg d, if_neg (fun e => d e.2)]
  · rw [if_neg c, if_neg (fun e => c e.1)]
theorem cwrd (ta : jZ) (x : Int32) : f_Tape_isWord ta x = some (if ta 4 0 = 1 ∧ ta 5 0 = x then 1 else 0) := by
  unfold f_Tape_isWord
  by_cases c : ta 4 0 = 1
  · rw [if_pos c]
    by_cases d : ta 5 0 = x
    · rw [if_pos d, if_pos ⟨c, d⟩]
    · rw [if_neg d, if_neg (fun e => d e.2)]
  · rw [if_neg c, if_neg (fun e => c e.1)]
theorem tLP_val {v : Nat} {re ta ru : jZ} (hv : v ≤ 600) (h8 : re 8 0 = 1) : tLP v re ta ru = (f_Reader_readValue re ta ru).bind fun q24 => (if q24.2.2 = 0 then some (q24.1, ta, q24.2.1, 0) else (f_Tape_step ta).bind fun q27 => tLP (v + 1) q24.1 q27 q24.2.1) := by
  have tv : (nI v).toInt = v := nI_toInt (by omega)
  have i600 : (600 : Int32).toInt = 600 := rfl
  unfold tLP
  rw [FU_s hv, f_Reader_readTake_54, if_neg (by rw [i_lt]; omega), h8, if_neg (by decide)]
  unfold f_Reader_readTake_95
  rw [h8, if_neg (by decide), nI_1]
theorem tLP_beh {v : Nat} {re ta ru : jZ} (hv : v ≤ 600) (h8 : re 8 0 = 0) (hs : re 6 0 = 0 → ¬ (ta 4 0 = 3 ∧ ta 5 0 = 59)) : tLP v re ta ru = (f_Reader_readBehind re ta ru).bind fun q19 => (if q19.2.2 = 0 then some (q19.1, ta, q19.2.1, 0) else (f_Tape_step ta).bind fun q22 => tLP (v + 1) q19.1 q22 q19.2.1) := by
  have tv : (nI v).toInt = v := nI_toInt (by omega)
  have i600 : (600 : Int32).toInt = 600 := rfl
  have E : ∀ k54, f_Reader_readTake_95 k54 re ta ru (nI v) = (f_Reader_readBehind re ta ru).bind fun q19 => (if q19.2.2 = 0 then some (q19.1, ta, q19.2.1, 0) else (f_Tape_step ta).bind fun q22 => k54 q19.1 q22 q19.2.1 (nI (v + 1))) := fun k54 => by
    unfold f_Reader_readTake_95
    rw [h8, if_pos rfl, nI_1]
  unfold tLP
  rw [FU_s hv, f_Reader_readTake_54, if_neg (by rw [i_lt]; omega), h8, if_pos rfl, csig, Option.bind_some, E]
  by_cases c : re 6 0 = 0
  · rw [if_pos c, if_neg (hs c), if_pos rfl]
  · rw [if_neg c]
theorem tLP_end {v : Nat} {re ta ru : jZ} (hv : v ≤ 600) (h8 : re 8 0 = 0) (h6 : re 6 0 = 0) (hs : ta 4 0 = 3 ∧ ta 5 0 = 59) : tLP v re ta ru = (f_Reader_layDown re ru 1).bind fun q16 => some (q16.1, ta, q16.2, 1) := by
  have tv : (nI v).toInt = v := nI_toInt (by omega)
  have i600 : (600 : Int32).toInt = 600 := rfl
  unfold tLP
  rw [FU_s hv, f_Reader_readTake_54, if_neg (by rw [i_lt]; omega), h8, if_pos rfl, h6, if_pos rfl, csig, Option.bind_some, if_pos hs, if_neg (by decide)]
/-! tokens -/
theorem wv_inj : ∀ a, a < 17 → ∀ b, b < 17 → wv a = wv b → a = b := by decide +kernel
theorem nI_inj {a b : Nat} (ha : a < 1000) (hb : b < 1000) (h : nI a = nI b) : a = b := by
  have := congrArg Int32.toInt h
  rw [nI_toInt (by omega), nI_toInt (by omega)] at this
  omega
theorem sg_iff {s v S V x : Int32} (h : tok s v S V) (hx : isSg x) : (s = 3 ∧ v = x) ↔ (S = 3 ∧ V = x) := by
  rcases h with ⟨a, b⟩ | ⟨a, b, -⟩ | ⟨a, b, -⟩ | ⟨a, b⟩ | ⟨a, b, -⟩ | ⟨a, b, c, d⟩ | ⟨a, b, c, -⟩
  · rw [a, b]; exact ⟨fun e => absurd e.1 (by decide), fun e => absurd e.1 (by decide)⟩
  · rw [a, b]; exact ⟨fun e => absurd e.1 (by decide), fun e => absurd e.1 (by decide)⟩
  · rw [a, b]; exact ⟨fun e => absurd e.1 (by decide), fun e => absurd e.1 (by decide)⟩
  · rw [a, b]; exact ⟨fun e => absurd e.1 (by decide), fun e => absurd e.1 (by decide)⟩
  · rw [a, b]; exact ⟨fun e => absurd e.1 (by decide), fun e => absurd e.1 (by decide)⟩
  · rw [a, b, c]
  · rw [a, b]; exact ⟨fun e => absurd (by rw [e.2]; exact hx) c, fun e => absurd e.1 (by decide)⟩
theorem wd_iff {s v S V : Int32} (h : tok s v S V) (w : Nat) (hw : w < 17) : (s = 1 ∧ v = wv w) ↔ (S = 0 ∧ V = nI w) := by
  rcases h with ⟨a, b⟩ | ⟨a, b, k, c, d, e⟩ | ⟨a, b, c, d⟩ | ⟨a, b⟩ | ⟨a, b, -⟩ | ⟨a, b, -⟩ | ⟨a, b, -⟩
  · rw [a, b]; exact ⟨fun e => absurd e.1 (by decide), fun e => absurd e.1 (by decide)⟩
  · rw [a, b, d, e]
    exact ⟨fun z => ⟨rfl, by rw [wv_inj k c w hw z.2]⟩, fun z => ⟨rfl, by rw [nI_inj (by omega) (by omega) z.2]⟩⟩
  · rw [a, b]; exact ⟨fun e => absurd e.2 (d w hw), fun e => absurd e.1 (by decide)⟩
  · rw [a, b]; exact ⟨fun e => absurd e.1 (by decide), fun e => absurd e.1 (by decide)⟩
  · rw [a, b]; exact ⟨fun e => absurd e.1 (by decide), fun e => absurd e.1 (by decide)⟩
  · rw [a, b]; exact ⟨fun e => absurd e.1 (by decide), fun e => absurd e.1 (by decide)⟩
  · rw [a, b]; exact ⟨fun e => absurd e.1 (by decide), fun e => absurd e.1 (by decide)⟩
theorem msig {ta mo : jZ} (hT : T ta mo) (h0 : mo 32 0 = 0) (x : Int32) (hx : isSg x) : f_Mo_isSign mo x = some (if ta 4 0 = 3 ∧ ta 5 0 = x then 1 else 0) := by
  unfold f_Mo_isSign
  rw [if_pos h0]
  have := sg_iff hT.2.2.2.2 hx
  by_cases c : mo 30 0 = 3
  · rw [if_pos c]
    by_cases d : mo 31 0 = x
    · rw [if_pos d, if_pos (this.mpr ⟨c, d⟩)]
    · rw [if_neg d, if_neg (fun e => d (this.mp e).2)]
  · rw [if_neg c, if_neg (fun e => c (this.mp e).1)]
theorem mwrd {ta mo : jZ} (hT : T ta mo) (h0 : mo 32 0 = 0) (w : Nat) (hw : w < 17) : f_Mo_isWord mo (nI w) = some (if ta 4 0 = 1 ∧ ta 5 0 = wv w then 1 else 0) := by
  unfold f_Mo_isWord
  rw [if_pos h0]
  have := wd_iff hT.2.2.2.2 w hw
  by_cases c : mo 30 0 = 0
  · rw [if_pos c]
    by_cases d : mo 31 0 = nI w
    · rw [if_pos d, if_pos (this.mpr ⟨c, d⟩)]
    · rw [if_neg d, if_neg (fun e => d (this.mp e).2)]
  · rw [if_neg c, if_neg (fun e => c (this.mp e).1)]
/-! what has been read of a rule -/
def ES (b o c t s : Nat) (re ru mo : jZ) : Prop :=
  (re 5 0 = nI t ∧ re 6 0 = nI o ∧ mo 36 0 = nI o ∧ re 7 0 = nI c ∧ mo 37 0 = nI c) ∧ (c ≤ 64 ∧ o ≤ 8 ∧ b ≤ t) ∧ t = np (re 3) t + o ∧ np (re 3) t = np (re 3) b + (t - b) ∧ ru 0 0 = nI s ∧ s + np (re 3) t = c ∧ mo 22 0 = nI (s + (t - b)) ∧
  (∀ i, i < s → kStep (ru 1 i) (mo 15 (64 + i)) (mo 16 (64 + i))) ∧
  (∀ j, j < t - b → kStep (re 3 (t - 1 - j)) (mo 15 (64 + s + j)) (mo 16 (64 + s + j)))
def DD (mo : jZ) (m : Nat) : Nat := dpt (fun i => mo 15 (64 + i)) (fun i => mo 16 (64 + i)) m
def okI (mo : jZ) (i : Nat) : Prop := mo 15 (64 + i) = 2 → if mo 16 (64 + i) = 260 then 1 ≤ DD mo i else 2 ≤ DD mo i
theorem dpt_cg (so va so2 va2 : Nat → Int32) : ∀ m, (∀ i, i < m → so2 i = so i ∧ va2 i = va i) → dpt so2 va2 m = dpt so va m
  | 0, _ => rfl
  | m + 1, h => by rw [dpt, dpt, dpt_cg so va so2 va2 m (fun i hi => h i (by omega)), (h m (by omega)).1, (h m (by omega)).2]
/-- a phrase: one value more -/
def phr (mo mo' : jZ) (m m' : Nat) : Prop := (∀ j, j < 64 + m → mo' 15 j = mo 15 j ∧ mo' 16 j = mo 16 j) ∧ m ≤ m' ∧ DD mo' m' = DD mo' m + 1 ∧ ∀ i, m ≤ i → i < m' → okI mo' i
theorem DD_cg {a b : jZ} {m : Nat} (h : ∀ j, j < 64 + m → b 15 j = a 15 j ∧ b 16 j = a 16 j) : DD b m = DD a m := dpt_cg _ _ _ _ m (fun i hi => h (64 + i) (by omega))
theorem okI_cg {a b : jZ} {i : Nat} (h : ∀ j, j < 64 + (i + 1) → b 15 j = a 15 j ∧ b 16 j = a 16 j) (ho : okI a i) : okI b i := by
  unfold okI
  rw [(h (64 + i) (by omega)).1, (h (64 + i) (by omega)).2, DD_cg (fun j hj => h j (by omega))]
  exact ho
theorem phr.val {mo mo' : jZ} {m : Nat} (h : ∀ j, j < 64 + m → mo' 15 j = mo 15 j ∧ mo' 16 j = mo 16 j) (hv : ¬ mo' 15 (64 + m) = 2) : phr mo mo' m (m + 1) := by
  refine ⟨h, by omega, ?_, fun i h1 h2 => ?_⟩
  · unfold DD; rw [dpt, if_neg hv]
  · have : i = m := by omega
    subst this
    exact fun e => absurd e hv
theorem phr.cg {mo a a' : jZ} {m m' : Nat} (h : phr mo a m m') (h15 : a' 15 = a 15) (h16 : a' 16 = a 16) : phr mo a' m m' := by
  obtain ⟨h1, h2, h3, h4⟩ := h
  unfold phr okI DD at *
  rw [h15, h16]
  exact ⟨h1, h2, h3, h4⟩
theorem phr.cgl {mo mo2 a : jZ} {m m' : Nat} (h : phr mo a m m') (h15 : mo2 15 = mo 15) (h16 : mo2 16 = mo 16) : phr mo2 a m m' := by
  obtain ⟨h1, h2, h3, h4⟩ := h
  exact ⟨by rw [h15, h16]; exact h1, h2, h3, h4⟩
theorem phr.not {mo a c : jZ} {m m1 : Nat} (h : phr mo a m m1) (hc : ∀ j, j < 64 + m1 → c 15 j = a 15 j ∧ c 16 j = a 16 j) (h15 : c 15 (64 + m1) = 2) (h16 : c 16 (64 + m1) = 260) : phr mo c m (m1 + 1) := by
  obtain ⟨h1, h2, h3, h4⟩ := h
  have d1 : DD c m1 = DD a m1 := DD_cg hc
  have d0 : DD c m = DD a m := DD_cg (fun j hj => hc j (by omega))
  refine ⟨fun j hj => ⟨((hc j (by omega)).1).trans (h1 j hj).1, ((hc j (by omega)).2).trans (h1 j hj).2⟩, by omega, ?_, fun i a1 a2 => ?_⟩
  · have : DD c (m1 + 1) = DD c m1 := by
      show dpt _ _ (m1 + 1) = dpt _ _ m1
      rw [dpt, if_pos h15, if_pos h16]
    rw [this, d1, d0, h3]
  · by_cases e : i = m1
    · subst e
      intro _
      rw [if_pos h16, d1, h3]; omega
    · exact okI_cg (fun j hj => hc j (by omega)) (h4 i a1 (by omega))
theorem phr.bin {mo a b c : jZ} {m m1 m2 : Nat} (h : phr mo a m m1) (g : phr a b m1 m2) (hc : ∀ j, j < 64 + m2 → c 15 j = b 15 j ∧ c 16 j = b 16 j) (h15 : c 15 (64 + m2) = 2) (h16 : ¬ c 16 (64 + m2) = 260) : phr mo c m (m2 + 1) := by
  obtain ⟨h1, h2, h3, h4⟩ := h
  obtain ⟨g1, g2, g3, g4⟩ := g
  have ca : ∀ j, j < 64 + m1 → c 15 j = a 15 j ∧ c 16 j = a 16 j := fun j hj => ⟨((hc j (by omega)).1).trans (g1 j hj).1, ((hc j (by omega)).2).trans (g1 j hj).2⟩
  have e2 : DD c m2 = DD b m2 := DD_cg hc
  have e1 : DD b m1 = DD a m1 := DD_cg g1
  have e1' : DD c m1 = DD a m1 := DD_cg ca
  have e0 : DD c m = DD a m := DD_cg (fun j hj => ca j (by omega))
  refine ⟨fun j hj => ⟨((ca j (by omega)).1).trans (h1 j hj).1, ((ca j (by omega)).2).trans (h1 j hj).2⟩, by omega, ?_, fun i a1 a2 => ?_⟩
  · have : DD c (m2 + 1) = DD c m2 - 1 := by
      show dpt _ _ (m2 + 1) = dpt _ _ m2 - 1
      rw [dpt, if_pos h15, if_neg h16]
    rw [this, e2, g3, e1, h3, e0]; omega
  · by_cases e : i = m2
    · subst e
      intro _
      rw [if_neg h16, e2, g3, e1, h3]; omega
    · by_cases f : i < m1
      · exact okI_cg (fun j hj => ca j (by omega)) (h4 i a1 f)
      · exact okI_cg (fun j hj => hc j (by omega)) (g4 i (by omega) (by omega))
