def jnM (va : Int32) (mo : jZ) (moy : jY) : Option Int64 → Option (jZ × jY × Int32)
  | some v => f_Mo_works_407 va mo moy v
  | none => some (mo, moy, 0)
theorem mul_ref (x y : Int64) (hx : inB x) (hy : inB y) (va : Int32) (mo : jZ) (moy : jY) : (if (lg_cmp x 0) = 0 then f_Mo_works_407 va mo moy (x * y) else (nzl (if 0 < x then x else -x)).bind fun _ => (if (lg_cmp (if 0 < y then y else -y) (1000000000000 / (if 0 < x then x else -x))) ≤ 0 then f_Mo_works_407 va mo moy (x * y) else some (mo, moy, 0))) = jnM va mo moy (if x.toInt.natAbs * y.toInt.natAbs ≤ 1000000000000 then some (x * y) else none) := by
  unfold inB at hx hy
  have nx : (-x).toInt = -x.toInt := l_neg (by omega)
  have ny : (-y).toInt = -y.toInt := l_neg (by omega)
  have bL : (1000000000000 : Int64).toInt = 1000000000000 := rfl
  have ax : (if 0 < x then x else -x).toInt = x.toInt.natAbs := by
    by_cases c : 0 < x
    · rw [if_pos c]; rw [l_lt, l0] at c; omega
    · rw [if_neg c]; rw [l_lt, l0] at c; omega
  have ay : (if 0 < y then y else -y).toInt = y.toInt.natAbs := by
    by_cases c : 0 < y
    · rw [if_pos c]; rw [l_lt, l0] at c; omega
    · rw [if_neg c]; rw [l_lt, l0] at c; omega
  generalize (if 0 < x then x else -x) = b at ax
  generalize (if 0 < y then y else -y) = a at ay
  by_cases c : x.toInt = 0
  · rw [if_pos (by rw [lc_eq, l0]; exact c), c, if_pos (by simp)]; rfl
  · have hb0 : 0 < b.toInt := by omega
    have d1 : (1000000000000 / b).toInt = 1000000000000 / b.toInt := by rw [l_div hb0 (by rw [bL]; omega), bL]
    have key : a.toInt ≤ 1000000000000 / b.toInt ↔ x.toInt.natAbs * y.toInt.natAbs ≤ 1000000000000 := by
      rw [Int.le_ediv_iff_mul_le hb0, ax, ay, ← Int.natCast_mul, Nat.mul_comm]
      omega
    rw [if_neg (by rw [lc_eq, l0]; exact c), nzl_ok (by omega), Option.bind_some]
    by_cases e : x.toInt.natAbs * y.toInt.natAbs ≤ 1000000000000
    · rw [if_pos (by rw [lc_le, d1]; exact key.mpr e), if_pos e]; rfl
    · rw [if_neg (by rw [lc_le, d1]; exact fun q => e (key.mp q)), if_neg e]; rfl
theorem works_eq (mo : jZ) (moy : jY) (s va : Int32) (d : Nat) (h48 : mo 48 0 = nI (d + 2)) (hd : d + 2 ≤ 64) (h : kBin s va) (hx : inB (moy 47 d)) (hy : inB (moy 47 (d + 1))) : f_Mo_works mo moy va = jnM va (up2 mo 48 0 (nI (d + 1))) moy (jn va (moy 47 d) (moy 47 (d + 1))) := by
  have B : ∀ (p : Prop) [Decidable p], (bi p = if p then 1 else 0) := fun p _ => rfl
  have t : (nI (d + 2)).toInt = ((d + 2 : Nat) : Int) := nI_toInt (by omega)
  have i1 : (1 : Int32).toInt = 1 := rfl
  have i2 : (2 : Int32).toInt = 2 := rfl
  have s1 : (nI (d + 2) - 1).toInt = ((d + 1 : Nat) : Int) := by rw [i_sub (by omega) (by omega), t, i1]; omega
  have s2 : (nI (d + 2) - 2).toInt = (d : Int) := by rw [i_sub (by omega) (by omega), t, i2]; omega
  have e1 : nI (d + 2) - 1 = nI (d + 1) := i_ext (by rw [s1, nI_toInt (by omega)])
  have n260 : ¬ va = 260 := by
    rcases h with ⟨h1, -⟩ | ⟨h1, -⟩ | ⟨h1, -⟩ | ⟨h1, -⟩ | ⟨h1, -⟩ | ⟨h1, -⟩ | ⟨h1, -⟩ | ⟨h1, -⟩ | ⟨h1, -⟩ | ⟨h1, -⟩ | ⟨h1, -⟩ | ⟨h1, -⟩ <;> subst h1 <;> decide
  unfold f_Mo_works
  rw [h48, ix_ok (by omega) (by omega), Option.bind_some, if_neg n260, ix_ok (by omega) (by omega), Option.bind_some]
  have I0 : f_Mo_is 0 = some 0 := by unfold f_Mo_is; rw [if_pos rfl]
  have I1 : f_Mo_is 1 = some 1 := by unfold f_Mo_is; rw [if_neg (by decide)]
  have td1 : (nI (d + 1)).toInt = ((d + 1 : Nat) : Int) := nI_toInt (by omega)
  simp only [i_tn, s1, s2, Int.toNat_natCast, e1, td1, I0, I1, Option.bind_some]
  generalize moy 47 d = x at hx
  generalize moy 47 (d + 1) = y at hy
  generalize up2 mo 48 0 (nI (d + 1)) = mo'
  rcases h with ⟨h1, h2⟩ | ⟨h1, h2⟩ | ⟨h1, h2⟩ | ⟨h1, h2⟩ | ⟨h1, h2⟩ | ⟨h1, h2⟩ | ⟨h1, h2⟩ | ⟨h1, h2⟩ | ⟨h1, h2⟩ | ⟨h1, h2⟩ | ⟨h1, h2⟩ | ⟨h1, h2⟩ <;> subst h1
  · rw [jn_42, if_pos rfl]; exact mul_ref x y hx hy 42 mo' moy
  · rw [jn_43, if_neg (by decide), if_pos rfl]; rfl
  · rw [jn_45, if_neg (by decide), if_neg (by decide), if_pos rfl]; rfl
  · rw [jn_47, if_neg (by decide), if_neg (by decide), if_neg (by decide), if_pos rfl]
    by_cases c : y.toInt = 0
    · rw [if_pos (by rw [lc_eq, l0]; exact c), if_pos c]; rfl
    · rw [if_neg (by rw [lc_eq, l0]; exact c), if_neg c, nzl_ok c]; rfl
  · rw [jn_60, if_neg (by decide), if_neg (by decide), if_neg (by decide), if_neg (by decide), if_pos rfl]
    rw [B]
    by_cases c : x.toInt < y.toInt
    · rw [if_pos c, if_neg (by rw [lc_ge]; omega)]; rfl
    · rw [if_neg c, if_pos (by rw [lc_ge]; omega)]; rfl
  · rw [jn_61, if_neg (by decide), if_neg (by decide), if_neg (by decide), if_neg (by decide), if_neg (by decide), if_pos rfl]
    rw [B]
    by_cases c : x.toInt = y.toInt
    · rw [if_pos c, if_pos (by rw [lc_eq]; omega)]; rfl
    · rw [if_neg c, if_neg (by rw [lc_eq]; omega)]; rfl
  · rw [jn_62, if_neg (by decide), if_neg (by decide), if_neg (by decide), if_neg (by decide), if_neg (by decide), if_neg (by decide), if_pos rfl]
    rw [B]
    by_cases c : y.toInt < x.toInt
    · rw [if_pos c, if_neg (by rw [lc_le]; omega)]; rfl
    · rw [if_neg c, if_pos (by rw [lc_le]; omega)]; rfl
  · rw [jn_256, if_neg (by decide), if_neg (by decide), if_neg (by decide), if_neg (by decide), if_neg (by decide), if_neg (by decide), if_neg (by decide), if_pos rfl]
    rw [B]
    by_cases c : x.toInt ≤ y.toInt
    · rw [if_pos c, if_neg (by rw [lc_gt]; omega)]; rfl
    · rw [if_neg c, if_pos (by rw [lc_gt]; omega)]; rfl
  · rw [jn_257, if_neg (by decide), if_neg (by decide), if_neg (by decide), if_neg (by decide), if_neg (by decide), if_neg (by decide), if_neg (by decide), if_neg (by decide), if_pos rfl]
    rw [B]
    by_cases c : x.toInt = y.toInt
    · rw [if_neg (show ¬ ¬ x.toInt = y.toInt from fun e => e c), if_pos (by rw [lc_eq]; omega)]; rfl
    · rw [if_pos c, if_neg (by rw [lc_eq]; omega)]; rfl
  · rw [jn_258, if_neg (by decide), if_neg (by decide), if_neg (by decide), if_neg (by decide), if_neg (by decide), if_neg (by decide), if_neg (by decide), if_neg (by decide), if_neg (by decide), if_pos rfl]
    rw [B]
    by_cases c : y.toInt ≤ x.toInt
    · rw [if_pos c, if_neg (by rw [lc_lt]; omega)]; rfl
    · rw [if_neg c, if_pos (by rw [lc_lt]; omega)]; rfl
  · rw [jn_261, if_neg (by decide), if_neg (by decide), if_neg (by decide), if_neg (by decide), if_neg (by decide), if_neg (by decide), if_neg (by decide), if_neg (by decide), if_neg (by decide), if_neg (by decide), if_pos rfl]
    rw [B]
    by_cases c : x.toInt = 0
    · rw [if_neg (show ¬ (¬ x.toInt = 0 ∧ ¬ y.toInt = 0) from fun e => e.1 c), if_pos (by rw [lc_eq, l0]; exact c)]; rfl
    · rw [if_neg (by rw [lc_eq, l0]; exact c)]
      by_cases e : y.toInt = 0
      · rw [if_neg (show ¬ (¬ x.toInt = 0 ∧ ¬ y.toInt = 0) from fun q => q.2 e), if_pos (by rw [lc_eq, l0]; exact e)]; rfl
      · rw [if_pos (show ¬ x.toInt = 0 ∧ ¬ y.toInt = 0 from ⟨c, e⟩), if_neg (by rw [lc_eq, l0]; exact e)]; rfl
  · rw [jn_262, if_neg (by decide), if_neg (by decide), if_neg (by decide), if_neg (by decide), if_neg (by decide), if_neg (by decide), if_neg (by decide), if_neg (by decide), if_neg (by decide), if_neg (by decide), if_neg (by decide)]
    rw [B]
    by_cases c : x.toInt = 0
    · rw [if_pos (by rw [lc_eq, l0]; exact c)]
      by_cases e : y.toInt = 0
      · rw [if_neg (show ¬ (¬ x.toInt = 0 ∨ ¬ y.toInt = 0) from fun q => q.elim (fun z => z c) (fun z => z e)), if_pos (by rw [lc_eq, l0]; exact e)]; rfl
      · rw [if_pos (show ¬ x.toInt = 0 ∨ ¬ y.toInt = 0 from Or.inr e), if_neg (by rw [lc_eq, l0]; exact e)]; rfl
    · rw [if_neg (by rw [lc_eq, l0]; exact c), if_pos (show ¬ x.toInt = 0 ∨ ¬ y.toInt = 0 from Or.inl c)]; rfl
theorem w407_ok (va : Int32) (mo : jZ) (moy : jY) (d : Nat) (h48 : mo 48 0 = nI (d + 1)) (hd : d + 1 ≤ 64) (v : Int64) : f_Mo_works_407 va mo moy v = some (mo, up2 moy 47 d v, if inB v then 1 else 0) := by
  have t : (nI (d + 1)).toInt = ((d + 1 : Nat) : Int) := nI_toInt (by omega)
  have i1 : (1 : Int32).toInt = 1 := rfl
  have b1 : (1000000000000 : Int64).toInt = 1000000000000 := rfl
  have b2 : (-1000000000000 : Int64).toInt = -1000000000000 := rfl
  have s1 : (nI (d + 1) - 1).toInt = (d : Int) := by rw [i_sub (by omega) (by omega), t, i1]; omega
  unfold f_Mo_works_407
  rw [h48, ix_ok (by omega) (by omega), Option.bind_some, i_tn, s1, Int.toNat_natCast]
  unfold inB
  by_cases c : 0 < lg_cmp v 1000000000000
  · rw [if_pos c]
    rw [lc_gt, b1] at c
    rw [if_neg (by omega)]
  · rw [if_neg c]
    rw [lc_gt, b1] at c
    by_cases e : lg_cmp v (-1000000000000) < 0
    · rw [if_pos e]
      rw [lc_lt, b2] at e
      rw [if_neg (by omega)]
    · rw [if_neg e]
      rw [lc_lt, b2] at e
      rw [if_pos (by omega)]
/-- the two stacks -/
def sRel (ru mo : jZ) (ruy moy : jY) (d : Nat) : Prop := ru 3 0 = nI d ∧ mo 48 0 = nI d ∧ ∀ j, j < d → ruy 2 j = moy 47 j ∧ inB (moy 47 j)
/-- a binary step on both sides: both fail, or both go on -/
theorem bin_step {ru mo : jZ} {ruy moy : jY} {d : Nat} (h : sRel ru mo ruy moy (d + 2)) (hd : d + 2 ≤ 64) (h4 : ru 4 0 = 0) (s va : Int32) (hb : kBin s va) :
    (∃ ru2 ruy2 mo2 moy2, f_Rule_work ru ruy s = some (ru2, ruy2) ∧ f_Mo_works mo moy va = some (mo2, moy2, 0) ∧ ru2 4 0 = 1 ∧ (∀ k, k ≠ 3 → k ≠ 4 → ru2 k = ru k) ∧ (∀ k, k ≠ 48 → mo2 k = mo k)) ∨
    (∃ ru2 ruy2 mo2 moy2, f_Rule_work ru ruy s = some (ru2, ruy2) ∧ f_Mo_works mo moy va = some (mo2, moy2, 1) ∧ ru2 4 0 = 0 ∧ (∀ k, k ≠ 3 → k ≠ 4 → ru2 k = ru k) ∧ (∀ k, k ≠ 48 → mo2 k = mo k) ∧ sRel ru2 mo2 ruy2 moy2 (d + 1)) := by
  obtain ⟨h1, h2, h3⟩ := h
  obtain ⟨x1, x2⟩ := h3 d (by omega)
  obtain ⟨y1, y2⟩ := h3 (d + 1) (by omega)
  have W : f_Rule_work ru ruy s = (f_Rule_join (up2 (up2 ru 3 0 (nI (d + 1))) 3 0 (nI d)) s (moy 47 d) (moy 47 (d + 1))).bind fun q10 => (f_Rule_push q10.1 ruy q10.2).bind fun q12 => some (q12.1, q12.2) := by
    have hc : f_Tape_isOfCounts s = some 0 := by
      rcases hb with ⟨-, h2⟩ | ⟨-, h2⟩ | ⟨-, h2⟩ | ⟨-, h2⟩ | ⟨-, h2⟩ | ⟨-, h2⟩ | ⟨-, h2⟩ | ⟨-, h2⟩ | ⟨-, h2⟩ | ⟨-, h2⟩ | ⟨-, h2⟩ | ⟨-, h2⟩ <;> subst h2 <;> rfl
    have hs0 : 0 ≤ s ∧ ¬ s = 486146048 := by
      rcases hb with ⟨-, h2⟩ | ⟨-, h2⟩ | ⟨-, h2⟩ | ⟨-, h2⟩ | ⟨-, h2⟩ | ⟨-, h2⟩ | ⟨-, h2⟩ | ⟨-, h2⟩ | ⟨-, h2⟩ | ⟨-, h2⟩ | ⟨-, h2⟩ | ⟨-, h2⟩ <;> subst h2 <;> decide
    unfold f_Rule_work
    rw [if_pos hs0.1, hc, Option.bind_some, if_pos rfl, if_neg hs0.2, pop_eq ruy (d + 1) h1 (by omega), Option.bind_some]
    dsimp only
    rw [pop_eq ruy d up2_s (by omega), Option.bind_some, x1, y1]
  rw [W, join_eq _ s va _ _ hb x2 y2, works_eq mo moy s va d h2 hd hb x2 y2]
  generalize hr : up2 (up2 ru 3 0 (nI (d + 1))) 3 0 (nI d) = ru1
  have r3 : ru1 3 0 = nI d := by rw [← hr, up2_s]
  have rk : ∀ k, k ≠ 3 → ru1 k = ru k := fun k hk => by rw [← hr, up2_k hk, up2_k hk]
  generalize hm : up2 mo 48 0 (nI (d + 1)) = mo1
  have m48 : mo1 48 0 = nI (d + 1) := by rw [← hm, up2_s]
  have mk : ∀ k, k ≠ 48 → mo1 k = mo k := fun k hk => by rw [← hm, up2_k hk]
  cases jn va (moy 47 d) (moy 47 (d + 1)) with
  | none =>
    left
    have b0 : inB 0 := by unfold inB; rw [l0]; omega
    refine ⟨up2 (up2 ru1 4 0 1) 3 0 (nI (d + 1)), up2 ruy 2 d 0, mo1, moy, ?_, rfl, ?_, ?_, mk⟩
    · show (f_Rule_push (up2 ru1 4 0 1) ruy 0).bind (fun q12 => some (q12.1, q12.2)) = _
      rw [push_ok ruy d (by rw [up2_k (by decide)]; exact r3) (by omega) 0 b0, Option.bind_some]
    · rw [up2_k (by decide), up2_s]
    · intro k k3 k4; rw [up2_k k3, up2_k k4]; exact rk k k3
  | some v =>
    have e1 : (jnC ru1 (some v)).bind (fun q10 => (f_Rule_push q10.1 ruy q10.2).bind fun q12 => some (q12.1, q12.2)) = (f_Rule_push ru1 ruy v).bind fun q12 => some (q12.1, q12.2) := rfl
    have e2 : jnM va mo1 moy (some v) = f_Mo_works_407 va mo1 moy v := rfl
    rw [e1, e2, w407_ok va mo1 moy d m48 (by omega) v]
    by_cases c : inB v
    · right
      rw [push_ok ruy d r3 (by omega) v c, Option.bind_some, if_pos c]
      refine ⟨_, _, _, _, rfl, rfl, ?_, ?_, mk, (by dsimp only; exact up2_s), m48, ?_⟩
      · dsimp only; rw [up2_k (by decide), rk 4 (by decide)]; exact h4
      · intro k k3 k4; dsimp only; rw [up2_k k3]; exact rk k k3
      · intro j hj
        dsimp only
        by_cases e : j = d
        · rw [e, up2_s, up2_s]; exact ⟨rfl, c⟩
        · rw [up2_j e, up2_j e]; exact h3 j (by omega)
    · left
      rw [push_bad ruy d r3 (by omega) v c, Option.bind_some, if_neg c]
      refine ⟨_, _, _, _, rfl, rfl, (by dsimp only; exact up2_s), ?_, mk⟩
      intro k k3 k4; dsimp only; rw [up2_k k4]; exact rk k k3
