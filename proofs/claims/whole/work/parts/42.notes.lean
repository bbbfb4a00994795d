/-! ===== notes: what is struck, what is known ===== -/
def fillR {α : Type} (z : Nat → Nat → α) (k lo hi : Nat) (v : α) : Nat → Nat → α := fun k' j => if k' = k ∧ lo ≤ j ∧ j < hi then v else z k' j
theorem fillR_step {α : Type} (z : Nat → Nat → α) (k i hi : Nat) (v : α) (h : i < hi) : fillR (up2 z k i v) k (i + 1) hi v = fillR z k i hi v := by
  funext k' j
  unfold fillR
  by_cases hk : k' = k
  · subst hk
    by_cases hj : j = i
    · subst hj
      rw [if_neg (by omega), if_pos (by omega), up2_s]
    · rw [up2_j hj]
      by_cases c : i ≤ j ∧ j < hi
      · rw [if_pos (by omega), if_pos (by omega)]
      · rw [if_neg (by omega), if_neg (by omega)]
  · rw [if_neg (fun e => hk e.1), if_neg (fun e => hk e.1), up2_k hk]
theorem fillR_end {α : Type} (z : Nat → Nat → α) (k hi : Nat) (v : α) : fillR z k hi hi v = z := by
  funext k' j
  unfold fillR
  rw [if_neg (by omega)]
def skStep (P O : Nat → Int32) (st : Nat → Int32) (k : Nat) : Nat → Int32 := if st k = 0 ∧ P k = -1 then (fun j => if j = (O k).toInt.toNat then 1 else st j) else st
def skRun (P O : Nat → Int32) : Nat → (Nat → Int32) → (Nat → Int32)
  | 0, st => st
  | k + 1, st => skRun P O k (skStep P O st k)
def tbStep (P Y O st : Nat → Int32) (tab : Nat → Int32) (k : Nat) : Nat → Int32 := if st k = 0 ∧ ¬ P k = -1 then (fun j => if j = ((P k).toInt * 9 + (Y k).toInt).toNat then O k else tab j) else tab
def tbRun (P Y O st : Nat → Int32) : Nat → (Nat → Int32)
  | 0 => fun _ => -1
  | k + 1 => tbStep P Y O st (tbRun P Y O st k) k
def knownTab (P Y O : Nat → Int32) (n : Nat) : Nat → Int32 := tbRun P Y O (skRun P O n (fun _ => 0)) n
/-- one entry, as it stands in the class (no) and in the reference (P, Y, O) -/
def iNote (no : jZ) (P Y O : Nat → Int32) (i : Nat) : Prop :=
  (no 2 i = P i ∧ no 3 i = Y i ∧ no 4 i = O i ∧ no 5 i = -1 ∧ (0 ≤ (P i).toInt ∧ (P i).toInt ≤ 11) ∧ (0 ≤ (Y i).toInt ∧ (Y i).toInt ≤ 8) ∧ (0 ≤ (O i).toInt ∧ (O i).toInt ≤ 9)) ∨
  (P i = -1 ∧ no 2 i = -1 ∧ no 3 i = -1 ∧ no 5 i = O i ∧ 0 ≤ (O i).toInt ∧ (O i).toInt < i)
/-- findStruck, its first loop -/
theorem fs_2 (x1 : Int32) : ∀ (n i N : Nat) (no : jZ), i + n = 150 → n < N → f_Notes_findStruck_2 x1 N no (nI i) = f_Notes_findStruck_32 x1 FU (fillR no 6 i 150 0) ((if 150 < x1 then 150 else x1) - 1) := by
  have e150 : (150 : Int32).toInt = 150 := rfl
  intro n
  induction n with
  | zero =>
    intro i N no hi hN
    obtain ⟨N, rfl⟩ : ∃ k, N = k + 1 := ⟨N - 1, by omega⟩
    have ti : (nI i).toInt = i := nI_toInt (by omega)
    have : i = 150 := by omega
    subst this
    rw [f_Notes_findStruck_2, if_pos (by rw [i_le, ti, e150]; omega), fillR_end]
  | succ n ih =>
    intro i N no hi hN
    obtain ⟨N, rfl⟩ : ∃ k, N = k + 1 := ⟨N - 1, by omega⟩
    have ti : (nI i).toInt = i := nI_toInt (by omega)
    rw [f_Notes_findStruck_2, if_neg (by rw [i_le, ti, e150]; omega), ix_ok (by omega) (by omega)]
    simp only [Option.bind_some, i_tn, ti, Int.toNat_natCast, nI_1]
    rw [ih (i + 1) N _ (by omega) (by omega), fillR_step no 6 i 150 0 (by omega)]
/-- what the second loop keeps: all rows but the sixth -/
def sameBut (k : Nat) (a b : jZ) : Prop := ∀ k', k' ≠ k → a k' = b k'
theorem sameBut.up {k : Nat} {a b : jZ} (h : sameBut k a b) {j : Nat} {v : Int32} : sameBut k a (up2 b k j v) := fun k' hk => by rw [up2_k hk]; exact h k' hk
theorem fs_32 (x1 : Int32) (P Y O : Nat → Int32) : ∀ (n N : Nat) (no : jZ) (st : Nat → Int32), n ≤ 150 → n < N → (∀ i, i < n → iNote no P Y O i) → (∀ i, i < 150 → no 6 i = st i) →
    ∃ no2, f_Notes_findStruck_32 x1 N no (nI n - 1) = some no2 ∧ sameBut 6 no no2 ∧ ∀ i, i < 150 → no2 6 i = skRun P O n st i := by
  have e0 : (0 : Int32).toInt = 0 := rfl
  have em : (-1 : Int32).toInt = -1 := rfl
  have e1 : (1 : Int32).toInt = 1 := rfl
  have e150 : (150 : Int32).toInt = 150 := rfl
  intro n
  induction n with
  | zero =>
    intro N no st hn hN hE hst
    obtain ⟨N, rfl⟩ : ∃ k, N = k + 1 := ⟨N - 1, by omega⟩
    refine ⟨no, ?_, fun _ _ => rfl, hst⟩
    rw [f_Notes_findStruck_32, if_pos (by decide)]
  | succ n ih =>
    intro N no st hn hN hE hst
    obtain ⟨N, rfl⟩ : ∃ k, N = k + 1 := ⟨N - 1, by omega⟩
    have hp : nI (n + 1) - 1 = nI n := nI_pred n
    have ti : (nI n).toInt = n := nI_toInt (by omega)
    have hback : nI n + (-1) = nI n - 1 := by apply i_ext; rw [i_add (by omega) (by omega), i_sub (by omega) (by omega)]; omega
    rw [hp]
    have A : f_Notes_findStruck_32 x1 (N + 1) no (nI n) = (if no 6 n = 0 then (if no 5 n < 0 then f_Notes_findStruck_32 x1 N no (nI n - 1) else (if 150 ≤ no 5 n then f_Notes_findStruck_32 x1 N no (nI n - 1) else (ix (no 5 n) 150).bind fun _ => f_Notes_findStruck_32 x1 N (up2 no 6 (no 5 n).toInt.toNat 1) (nI n - 1))) else f_Notes_findStruck_32 x1 N no (nI n - 1)) := by
      rw [f_Notes_findStruck_32, if_neg (by rw [i_lt, ti]; omega), ix_ok (by omega) (by omega)]
      simp only [Option.bind_some, i_tn, ti, Int.toNat_natCast, hback]
    rw [A, hst n (by omega), skRun]
    unfold skStep
    by_cases c : st n = 0
    · rw [if_pos c]
      rcases hE n (by omega) with ⟨h2, h3, h4, h5, h6, -⟩ | ⟨h2, h3, h4, h5, h6, h7⟩
      · rw [h5, if_pos (by decide), if_neg (fun e => by have := congrArg Int32.toInt e.2; rw [em] at this; omega)]
        exact ih N no st (by omega) (by omega) (fun i hi => hE i (by omega)) hst
      · rw [h5, if_neg (by rw [i_lt]; omega), if_neg (by rw [i_le]; omega), ix_ok (by omega) (by omega), if_pos ⟨c, h2⟩, Option.bind_some]
        obtain ⟨no2, g1, g2, g3⟩ := ih N (up2 no 6 (O n).toInt.toNat 1) (fun j => if j = (O n).toInt.toNat then 1 else st j) (by omega) (by omega) (fun i hi => by
          have := hE i (by omega)
          unfold iNote at this ⊢
          rw [up2_k (by decide), up2_k (by decide), up2_k (by decide), up2_k (by decide)]
          exact this) (fun i hi => by
          by_cases e : i = (O n).toInt.toNat
          · rw [e, up2_s, if_pos rfl]
          · rw [up2_j e, if_neg e]; exact hst i hi)
        exact ⟨no2, g1, fun k' hk => (up2_k hk).symm.trans (g2 k' hk), g3⟩
    · rw [if_neg c, if_neg (fun e => c e.1)]
      exact ih N no st (by omega) (by omega) (fun i hi => hE i (by omega)) hst
