/-! ===== the rule: steps on a stack, on both sides ===== -/
def kStep (s so va : Int32) : Prop :=
  (so = 0 ∧ 0 ≤ va.toInt ∧ va.toInt ≤ 999 ∧ s.toInt = -1 - va.toInt) ∨
  (so = 1 ∧ ((va = 0 ∧ s = 518160384) ∨ (va = 1 ∧ s = 695697408) ∨ (va = 2 ∧ s = 680072352) ∨ (va = 3 ∧ s = 659980288) ∨ (va = 4 ∧ s = 452579328) ∨ (va = 5 ∧ s = 407948928) ∨ (va = 6 ∧ s = 117095065))) ∨
  (so = 2 ∧ ((va = 42 ∧ s = 42) ∨ (va = 43 ∧ s = 43) ∨ (va = 45 ∧ s = 45) ∨ (va = 47 ∧ s = 47) ∨ (va = 60 ∧ s = 60) ∨ (va = 61 ∧ s = 61) ∨ (va = 62 ∧ s = 62) ∨ (va = 256 ∧ s = 256) ∨ (va = 257 ∧ s = 257) ∨ (va = 258 ∧ s = 258) ∨ (va = 260 ∧ s = 486146048) ∨ (va = 261 ∧ s = 48365568) ∨ (va = 262 ∧ s = 522190848)))
def dpt (so va : Nat → Int32) : Nat → Nat
  | 0 => 0
  | n + 1 => if so n = 2 then (if va n = 260 then dpt so va n else dpt so va n - 1) else dpt so va n + 1
theorem dpt_le (so va : Nat → Int32) : ∀ n, dpt so va n ≤ n
  | 0 => Nat.le_refl 0
  | n + 1 => by
    have := dpt_le so va n
    rw [dpt]
    by_cases c : so n = 2
    · rw [if_pos c]
      by_cases d : va n = 260
      · rw [if_pos d]; omega
      · rw [if_neg d]; omega
    · rw [if_neg c]; omega
def iRule (ru mo : jZ) : Prop := ru 0 0 = mo 17 0 ∧ (0 ≤ (mo 17 0).toInt ∧ (mo 17 0).toInt ≤ 64) ∧ (∀ i : Nat, (i : Int) < (mo 17 0).toInt → kStep (ru 1 i) (mo 15 i) (mo 16 i) ∧ (mo 15 i = 2 → if mo 16 i = 260 then 1 ≤ dpt (mo 15) (mo 16) i else 2 ≤ dpt (mo 15) (mo 16) i)) ∧ ((mo 17 0).toInt = 0 ∨ dpt (mo 15) (mo 16) (mo 17 0).toInt.toNat = 1)
theorem iRule.to {ru m m2 : jZ} (h : iRule ru m) (r : mRelA m m2) : iRule ru m2 := by
  unfold iRule; rw [r 15 (by omega), r 16 (by omega), r 17 (by omega)]; exact h
theorem iRule.ru {ru ru2 m : jZ} (h : iRule ru m) (h0 : ru2 0 = ru 0) (h1 : ru2 1 = ru 1) : iRule ru2 m := by
  unfold iRule; rw [h0, h1]; exact h
theorem lc_lt (x y : Int64) : lg_cmp x y < 0 ↔ x.toInt < y.toInt := by
  have a := lc_ge x y
  have e0 : (0 : Int32).toInt = 0 := rfl
  rw [i_le] at a
  rw [i_lt]
  omega
theorem lc_gt (x y : Int64) : 0 < lg_cmp x y ↔ y.toInt < x.toInt := by
  have a := lc_le x y
  have e0 : (0 : Int32).toInt = 0 := rfl
  rw [i_le] at a
  rw [i_lt]
  omega
def big : Int := 1000000000000
abbrev inB (v : Int64) : Prop := -1000000000000 ≤ v.toInt ∧ v.toInt ≤ 1000000000000
theorem pop_eq {ru : jZ} (ruy : jY) (d : Nat) (h : ru 3 0 = nI (d + 1)) (hd : d + 1 ≤ 64) : f_Rule_pop ru ruy = some (up2 ru 3 0 (nI d), ruy 2 d) := by
  have t : (nI (d + 1)).toInt = ((d + 1 : Nat) : Int) := nI_toInt (by omega)
  have i0 : (0 : Int32).toInt = 0 := rfl
  have i1 : (1 : Int32).toInt = 1 := rfl
  have i64 : (64 : Int32).toInt = 64 := rfl
  have s : (nI (d + 1) - 1).toInt = d := by rw [i_sub (by omega) (by omega), t, i1]; omega
  have e : nI (d + 1) - 1 = nI d := i_ext (by rw [s, nI_toInt (by omega)])
  unfold f_Rule_pop
  rw [h, if_neg (by rw [i_le]; omega), if_pos (by rw [i_le]; omega), ix_ok (by omega) (by omega), Option.bind_some, i_tn, s, e, Int.toNat_natCast]
theorem push_ok {ru : jZ} (ruy : jY) (d : Nat) (h : ru 3 0 = nI d) (hd : d < 64) (v : Int64) (hv : inB v) : f_Rule_push ru ruy v = some (up2 ru 3 0 (nI (d + 1)), up2 ruy 2 d v) := by
  have t : (nI d).toInt = (d : Int) := nI_toInt (by omega)
  have i0 : (0 : Int32).toInt = 0 := rfl
  have i64 : (64 : Int32).toInt = 64 := rfl
  have b1 : (1000000000000 : Int64).toInt = 1000000000000 := rfl
  have b2 : (-1000000000000 : Int64).toInt = -1000000000000 := rfl
  unfold inB at hv
  unfold f_Rule_push
  rw [h, if_neg (by rw [i_lt]; omega), if_neg (by rw [i_le]; omega), if_neg (by rw [lc_gt]; omega), if_pos (by rw [lc_ge]; omega), ix_ok (by omega) (by omega), Option.bind_some, i_tn, t, Int.toNat_natCast, nI_1]
theorem push_bad {ru : jZ} (ruy : jY) (d : Nat) (h : ru 3 0 = nI d) (hd : d < 64) (v : Int64) (hv : ¬ inB v) : f_Rule_push ru ruy v = some (up2 ru 4 0 1, ruy) := by
  have t : (nI d).toInt = (d : Int) := nI_toInt (by omega)
  have i0 : (0 : Int32).toInt = 0 := rfl
  have i64 : (64 : Int32).toInt = 64 := rfl
  have b1 : (1000000000000 : Int64).toInt = 1000000000000 := rfl
  have b2 : (-1000000000000 : Int64).toInt = -1000000000000 := rfl
  unfold inB at hv
  unfold f_Rule_push
  rw [h, if_neg (by rw [i_lt]; omega), if_neg (by rw [i_le]; omega)]
  by_cases c : 0 < lg_cmp v 1000000000000
  · rw [if_pos c]
  · rw [if_neg c]
    rw [lc_gt] at c
    rw [if_neg (by rw [lc_ge]; omega)]
def bi (p : Prop) [Decidable p] : Int64 := if p then 1 else 0
def jn (va : Int32) (x y : Int64) : Option Int64 :=
  if va = 42 then (if x.toInt.natAbs * y.toInt.natAbs ≤ 1000000000000 then some (x * y) else none)
  else if va = 43 then some (x + y)
  else if va = 45 then some (x - y)
  else if va = 47 then (if y.toInt = 0 then none else some (x / y))
  else if va = 60 then some (bi (x.toInt < y.toInt))
  else if va = 61 then some (bi (x.toInt = y.toInt))
  else if va = 62 then some (bi (y.toInt < x.toInt))
  else if va = 256 then some (bi (x.toInt ≤ y.toInt))
  else if va = 257 then some (bi (¬ x.toInt = y.toInt))
  else if va = 258 then some (bi (y.toInt ≤ x.toInt))
  else if va = 261 then some (bi (¬ x.toInt = 0 ∧ ¬ y.toInt = 0))
  else some (bi (¬ x.toInt = 0 ∨ ¬ y.toInt = 0))
theorem tm34 (x y a b : Int64) (ru : jZ) (ha : a.toInt = x.toInt.natAbs) (hb : b.toInt = y.toInt.natAbs) (h0 : y.toInt ≠ 0) : f_Rule_times_34 x y ru a b = (if x.toInt.natAbs * y.toInt.natAbs ≤ 1000000000000 then some (ru, x * y) else some (up2 ru 4 0 1, 0)) := by
  have bL : (1000000000000 : Int64).toInt = 1000000000000 := rfl
  have hb0 : 0 < b.toInt := by omega
  have d1 : (1000000000000 / b).toInt = 1000000000000 / b.toInt := by rw [l_div hb0 (by rw [bL]; omega), bL]
  have key : a.toInt ≤ 1000000000000 / b.toInt ↔ x.toInt.natAbs * y.toInt.natAbs ≤ 1000000000000 := by
    rw [Int.le_ediv_iff_mul_le hb0, ha, hb, ← Int.natCast_mul]
    omega
  unfold f_Rule_times_34
  rw [nzl_ok (by omega), Option.bind_some]
  by_cases c : x.toInt.natAbs * y.toInt.natAbs ≤ 1000000000000
  · rw [if_pos (by rw [lc_le, d1]; exact key.mpr c), if_pos c]
  · rw [if_neg (by rw [lc_le, d1]; exact fun e => c (key.mp e)), if_neg c]
theorem times_eq (ru : jZ) (x y : Int64) (hx : inB x) (hy : inB y) : f_Rule_times ru x y = (if x.toInt.natAbs * y.toInt.natAbs ≤ 1000000000000 then some (ru, x * y) else some (up2 ru 4 0 1, 0)) := by
  unfold inB at hx hy
  have nx : (-x).toInt = -x.toInt := l_neg (by omega)
  have ny : (-y).toInt = -y.toInt := l_neg (by omega)
  unfold f_Rule_times
  by_cases c : lg_cmp y 0 = 0
  · rw [if_pos c]
    rw [lc_eq, l0] at c
    rw [c, if_pos (by simp)]
    have : x * y = 0 := l_ext (by rw [l_mul (by rw [c]; simp) (by rw [c]; simp), c, l0]; simp)
    rw [this]
  · rw [if_neg c]
    rw [lc_eq, l0] at c
    by_cases d : 0 ≤ lg_cmp x 0
    · rw [if_pos d]
      rw [lc_ge, l0] at d
      by_cases e : 0 ≤ lg_cmp y 0
      · rw [if_pos e]
        rw [lc_ge, l0] at e
        exact tm34 x y x y ru (by omega) (by omega) c
      · rw [if_neg e]
        rw [lc_ge, l0] at e
        exact tm34 x y x (-y) ru (by omega) (by omega) c
    · rw [if_neg d]
      rw [lc_ge, l0] at d
      by_cases e : 0 ≤ lg_cmp y 0
      · rw [if_pos e]
        rw [lc_ge, l0] at e
        exact tm34 x y (-x) y ru (by omega) (by omega) c
      · rw [if_neg e]
        rw [lc_ge, l0] at e
        exact tm34 x y (-x) (-y) ru (by omega) (by omega) c
/-- two-place signs, as both sides have them -/
def kBin (s va : Int32) : Prop := (va = 42 ∧ s = 42) ∨ (va = 43 ∧ s = 43) ∨ (va = 45 ∧ s = 45) ∨ (va = 47 ∧ s = 47) ∨ (va = 60 ∧ s = 60) ∨ (va = 61 ∧ s = 61) ∨ (va = 62 ∧ s = 62) ∨ (va = 256 ∧ s = 256) ∨ (va = 257 ∧ s = 257) ∨ (va = 258 ∧ s = 258) ∨ (va = 261 ∧ s = 48365568) ∨ (va = 262 ∧ s = 522190848)
def jnC (ru : jZ) : Option Int64 → Option (jZ × Int64)
  | some v => some (ru, v)
  | none => some (up2 ru 4 0 1, 0)
theorem jn_42 (x y : Int64) : jn 42 x y = (if x.toInt.natAbs * y.toInt.natAbs ≤ 1000000000000 then some (x * y) else none) := by unfold jn; rw [if_pos rfl]
theorem jn_43 (x y : Int64) : jn 43 x y = some (x + y) := by unfold jn; rw [if_neg (by decide), if_pos rfl]
theorem jn_45 (x y : Int64) : jn 45 x y = some (x - y) := by unfold jn; rw [if_neg (by decide), if_neg (by decide), if_pos rfl]
theorem jn_47 (x y : Int64) : jn 47 x y = (if y.toInt = 0 then none else some (x / y)) := by unfold jn; rw [if_neg (by decide), if_neg (by decide), if_neg (by decide), if_pos rfl]
theorem jn_60 (x y : Int64) : jn 60 x y = some (bi (x.toInt < y.toInt)) := by unfold jn; rw [if_neg (by decide), if_neg (by decide), if_neg (by decide), if_neg (by decide), if_pos rfl]
theorem jn_61 (x y : Int64) : jn 61 x y = some (bi (x.toInt = y.toInt)) := by unfold jn; rw [if_neg (by decide), if_neg (by decide), if_neg (by decide), if_neg (by decide), if_neg (by decide), if_pos rfl]
theorem jn_62 (x y : Int64) : jn 62 x y = some (bi (y.toInt < x.toInt)) := by unfold jn; rw [if_neg (by decide), if_neg (by decide), if_neg (by decide), if_neg (by decide), if_neg (by decide), if_neg (by decide), if_pos rfl]
theorem jn_256 (x y : Int64) : jn 256 x y = some (bi (x.toInt ≤ y.toInt)) := by unfold jn; rw [if_neg (by decide), if_neg (by decide), if_neg (by decide), if_neg (by decide), if_neg (by decide), if_neg (by decide), if_neg (by decide), if_pos rfl]
theorem jn_257 (x y : Int64) : jn 257 x y = some (bi (¬ x.toInt = y.toInt)) := by unfold jn; rw [if_neg (by decide), if_neg (by decide), if_neg (by decide), if_neg (by decide), if_neg (by decide), if_neg (by decide), if_neg (by decide), if_neg (by decide), if_pos rfl]
theorem jn_258 (x y : Int64) : jn 258 x y = some (bi (y.toInt ≤ x.toInt)) := by unfold jn; rw [if_neg (by decide), if_neg (by decide), if_neg (by decide), if_neg (by decide), if_neg (by decide), if_neg (by decide), if_neg (by decide), if_neg (by decide), if_neg (by decide), if_pos rfl]
theorem jn_261 (x y : Int64) : jn 261 x y = some (bi (¬ x.toInt = 0 ∧ ¬ y.toInt = 0)) := by unfold jn; rw [if_neg (by decide), if_neg (by decide), if_neg (by decide), if_neg (by decide), if_neg (by decide), if_neg (by decide), if_neg (by decide), if_neg (by decide), if_neg (by decide), if_neg (by decide), if_pos rfl]
theorem jn_262 (x y : Int64) : jn 262 x y = some (bi (¬ x.toInt = 0 ∨ ¬ y.toInt = 0)) := by unfold jn; rw [if_neg (by decide), if_neg (by decide), if_neg (by decide), if_neg (by decide), if_neg (by decide), if_neg (by decide), if_neg (by decide), if_neg (by decide), if_neg (by decide), if_neg (by decide), if_neg (by decide)]
theorem jc_42 (ru : jZ) (x y : Int64) : f_Rule_join ru 42 x y = (f_Rule_times ru x y).bind fun q2 => some (q2.1, q2.2) := by unfold f_Rule_join; rw [if_pos rfl]
theorem jc_43 (ru : jZ) (x y : Int64) : f_Rule_join ru 43 x y = some (ru, (x + y)) := by unfold f_Rule_join; rw [if_neg (by decide), if_pos rfl]
theorem jc_45 (ru : jZ) (x y : Int64) : f_Rule_join ru 45 x y = some (ru, (x - y)) := by unfold f_Rule_join; rw [if_neg (by decide), if_neg (by decide), if_pos rfl]
theorem jc_47 (ru : jZ) (x y : Int64) : f_Rule_join ru 47 x y = (f_Rule_by ru x y).bind fun q7 => some (q7.1, q7.2) := by unfold f_Rule_join; rw [if_neg (by decide), if_neg (by decide), if_neg (by decide), if_pos rfl]
theorem jc_60 (ru : jZ) (x y : Int64) : f_Rule_join ru 60 x y = (if 0 ≤ (lg_cmp x y) then some (ru, 0) else some (ru, 1)) := by unfold f_Rule_join; rw [if_neg (by decide), if_neg (by decide), if_neg (by decide), if_neg (by decide), if_pos rfl]
theorem jc_61 (ru : jZ) (x y : Int64) : f_Rule_join ru 61 x y = (if (lg_cmp x y) = 0 then some (ru, 1) else some (ru, 0)) := by unfold f_Rule_join; rw [if_neg (by decide), if_neg (by decide), if_neg (by decide), if_neg (by decide), if_neg (by decide), if_pos rfl]
theorem jc_62 (ru : jZ) (x y : Int64) : f_Rule_join ru 62 x y = (if (lg_cmp x y) ≤ 0 then some (ru, 0) else some (ru, 1)) := by unfold f_Rule_join; rw [if_neg (by decide), if_neg (by decide), if_neg (by decide), if_neg (by decide), if_neg (by decide), if_neg (by decide), if_pos rfl]
theorem jc_256 (ru : jZ) (x y : Int64) : f_Rule_join ru 256 x y = (if 0 < (lg_cmp x y) then some (ru, 0) else some (ru, 1)) := by unfold f_Rule_join; rw [if_neg (by decide), if_neg (by decide), if_neg (by decide), if_neg (by decide), if_neg (by decide), if_neg (by decide), if_neg (by decide), if_pos rfl]
theorem jc_257 (ru : jZ) (x y : Int64) : f_Rule_join ru 257 x y = (if (lg_cmp x y) = 0 then some (ru, 0) else some (ru, 1)) := by unfold f_Rule_join; rw [if_neg (by decide), if_neg (by decide), if_neg (by decide), if_neg (by decide), if_neg (by decide), if_neg (by decide), if_neg (by decide), if_neg (by decide), if_pos rfl]
theorem jc_258 (ru : jZ) (x y : Int64) : f_Rule_join ru 258 x y = (if (lg_cmp x y) < 0 then some (ru, 0) else some (ru, 1)) := by unfold f_Rule_join; rw [if_neg (by decide), if_neg (by decide), if_neg (by decide), if_neg (by decide), if_neg (by decide), if_neg (by decide), if_neg (by decide), if_neg (by decide), if_neg (by decide), if_pos rfl]
theorem jc_261 (ru : jZ) (x y : Int64) : f_Rule_join ru 48365568 x y = (if (lg_cmp x 0) = 0 then some (ru, 0) else (if (lg_cmp y 0) = 0 then some (ru, 0) else some (ru, 1))) := by unfold f_Rule_join; rw [if_neg (by decide), if_neg (by decide), if_neg (by decide), if_neg (by decide), if_neg (by decide), if_neg (by decide), if_neg (by decide), if_neg (by decide), if_neg (by decide), if_neg (by decide), if_pos rfl]
theorem jc_262 (ru : jZ) (x y : Int64) : f_Rule_join ru 522190848 x y = (if (lg_cmp x 0) = 0 then (if (lg_cmp y 0) = 0 then some (ru, 0) else some (ru, 1)) else some (ru, 1)) := by unfold f_Rule_join; rw [if_neg (by decide), if_neg (by decide), if_neg (by decide), if_neg (by decide), if_neg (by decide), if_neg (by decide), if_neg (by decide), if_neg (by decide), if_neg (by decide), if_neg (by decide), if_neg (by decide)]
theorem join_eq (ru : jZ) (s va : Int32) (x y : Int64) (h : kBin s va) (hx : inB x) (hy : inB y) : f_Rule_join ru s x y = jnC ru (jn va x y) := by
  have B : ∀ (p : Prop) [Decidable p], (bi p = if p then 1 else 0) := fun p _ => rfl
  rcases h with ⟨h1, h2⟩ | ⟨h1, h2⟩ | ⟨h1, h2⟩ | ⟨h1, h2⟩ | ⟨h1, h2⟩ | ⟨h1, h2⟩ | ⟨h1, h2⟩ | ⟨h1, h2⟩ | ⟨h1, h2⟩ | ⟨h1, h2⟩ | ⟨h1, h2⟩ | ⟨h1, h2⟩ <;> subst h1 <;> subst h2
  · rw [jc_42, jn_42]
    rw [times_eq ru x y hx hy]
    by_cases c : x.toInt.natAbs * y.toInt.natAbs ≤ 1000000000000
    · rw [if_pos c, if_pos c]; rfl
    · rw [if_neg c, if_neg c]; rfl
  · rw [jc_43, jn_43]; rfl
  · rw [jc_45, jn_45]; rfl
  · rw [jc_47, jn_47]
    unfold f_Rule_by
    by_cases c : y.toInt = 0
    · rw [if_pos (by rw [lc_eq, l0]; exact c), if_pos c]; rfl
    · rw [if_neg (by rw [lc_eq, l0]; exact c), if_neg c, nzl_ok c]; rfl
  · rw [jc_60, jn_60]
    rw [B]
    by_cases c : x.toInt < y.toInt
    · rw [if_pos c, if_neg (by rw [lc_ge]; omega)]; rfl
    · rw [if_neg c, if_pos (by rw [lc_ge]; omega)]; rfl
  · rw [jc_61, jn_61]
    rw [B]
    by_cases c : x.toInt = y.toInt
    · rw [if_pos c, if_pos (by rw [lc_eq]; omega)]; rfl
    · rw [if_neg c, if_neg (by rw [lc_eq]; omega)]; rfl
  · rw [jc_62, jn_62]
    rw [B]
    by_cases c : y.toInt < x.toInt
    · rw [if_pos c, if_neg (by rw [lc_le]; omega)]; rfl
    · rw [if_neg c, if_pos (by rw [lc_le]; omega)]; rfl
  · rw [jc_256, jn_256]
    rw [B]
    by_cases c : x.toInt ≤ y.toInt
    · rw [if_pos c, if_neg (by rw [lc_gt]; omega)]; rfl
    · rw [if_neg c, if_pos (by rw [lc_gt]; omega)]; rfl
  · rw [jc_257, jn_257]
    rw [B]
    by_cases c : x.toInt = y.toInt
    · rw [if_neg (show ¬ ¬ x.toInt = y.toInt from fun e => e c), if_pos (by rw [lc_eq]; omega)]; rfl
    · rw [if_pos c, if_neg (by rw [lc_eq]; omega)]; rfl
  · rw [jc_258, jn_258]
    rw [B]
    by_cases c : y.toInt ≤ x.toInt
    · rw [if_pos c, if_neg (by rw [lc_lt]; omega)]; rfl
    · rw [if_neg c, if_pos (by rw [lc_lt]; omega)]; rfl
  · rw [jc_261, jn_261]
    rw [B]
    by_cases c : x.toInt = 0
    · rw [if_neg (show ¬ (¬ x.toInt = 0 ∧ ¬ y.toInt = 0) from fun e => e.1 c), if_pos (by rw [lc_eq, l0]; exact c)]; rfl
    · rw [if_neg (by rw [lc_eq, l0]; exact c)]
      by_cases d : y.toInt = 0
      · rw [if_neg (show ¬ (¬ x.toInt = 0 ∧ ¬ y.toInt = 0) from fun e => e.2 d), if_pos (by rw [lc_eq, l0]; exact d)]; rfl
      · rw [if_pos (show ¬ x.toInt = 0 ∧ ¬ y.toInt = 0 from ⟨c, d⟩), if_neg (by rw [lc_eq, l0]; exact d)]; rfl
  · rw [jc_262, jn_262]
    rw [B]
    by_cases c : x.toInt = 0
    · rw [if_pos (by rw [lc_eq, l0]; exact c)]
      by_cases d : y.toInt = 0
      · rw [if_neg (show ¬ (¬ x.toInt = 0 ∨ ¬ y.toInt = 0) from fun e => e.elim (fun q => q c) (fun q => q d)), if_pos (by rw [lc_eq, l0]; exact d)]; rfl
      · rw [if_pos (show ¬ x.toInt = 0 ∨ ¬ y.toInt = 0 from Or.inr d), if_neg (by rw [lc_eq, l0]; exact d)]; rfl
    · rw [if_neg (by rw [lc_eq, l0]; exact c), if_pos (show ¬ x.toInt = 0 ∨ ¬ y.toInt = 0 from Or.inl c)]; rfl
