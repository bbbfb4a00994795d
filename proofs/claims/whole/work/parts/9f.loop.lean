theorem LINE {i : Nat} {re ta ro ki ru no mo : jZ} (h : TX i i re ta ro ki ru mo) (t4 : ¬ ta 4 0 = 0) (x1 : Int32) (n : Nat) :
    LO i no ta mo (f_Reader_read_24 x1 (n + 1) re ta ro ki ru no (nI i)) (f_Reader_read_24 x1 n) (f_Mo_line mo) := by
  have hT := h.1
  have h0 := h.2.1
  have hj : (i : Int) ≤ (mo 29 0).toInt := h.2.2.2.2.2.2.2.2.2
  have ne := tok_ne hT t4
  have pp := hT.1.2.2.1
  have i600 : (600 : Int32).toInt = 600 := rfl
  have ti : (nI i).toInt = i := nI_toInt (by omega)
  have hk := hT.2.2.2.2
  rw [f_Reader_read_24, if_neg (show ¬ 600 ≤ nI i by rw [i_le]; omega), if_neg t4, cwrd, Option.bind_some]
  by_cases c0 : ta 4 0 = 1 ∧ ta 5 0 = 378998784
  · obtain ⟨m30, m31⟩ := (wd_iff hk 0 (by omega)).mp c0
    rw [if_pos c0, if_neg (show ¬ (1 : Int32) = 0 by decide)]
    exact LKIND h t4 m30 m31 x1 _
  rw [if_neg c0, if_pos rfl, cwrd, Option.bind_some]
  by_cases c1 : ta 4 0 = 1 ∧ ta 5 0 = 549489824
  · obtain ⟨m30, m31⟩ := (wd_iff hk 1 (by omega)).mp c1
    rw [if_pos c1, if_neg (show ¬ (1 : Int32) = 0 by decide)]
    exact LPLACE h t4 m30 m31 x1 _
  rw [if_neg c1, if_pos rfl, cwrd, Option.bind_some]
  by_cases c2 : ta 4 0 = 1 ∧ ta 5 0 = 672502784
  · obtain ⟨m30, m31⟩ := (wd_iff hk 2 (by omega)).mp c2
    rw [if_pos c2, if_neg (show ¬ (1 : Int32) = 0 by decide)]
    exact LTAKE h t4 m30 m31 x1 _
  rw [if_neg c2, if_pos rfl, cwrd, Option.bind_some]
  by_cases c3 : ta 4 0 = 1 ∧ ta 5 0 = 639309408
  · obtain ⟨m30, m31⟩ := (wd_iff hk 3 (by omega)).mp c3
    rw [if_pos c3, if_neg (show ¬ (1 : Int32) = 0 by decide)]
    exact LSAVES h t4 m30 m31 x1 _
  rw [if_neg c3, if_pos rfl]
  refine LO.flt (re := re) (ro := ro) (ki := ki) (ru := ru) hT 1 (by decide) rfl ?_
  unfold f_Mo_line
  by_cases m30 : mo 30 0 = 0
  · have n3 : ¬ mo 31 0 ≤ 3 := by
      rw [m30] at hk
      rcases hk with ⟨-, z⟩ | ⟨a, -, w, hw, hv, hV⟩ | ⟨-, z, -⟩ | ⟨-, z⟩ | ⟨-, z, -⟩ | ⟨-, z, -⟩ | ⟨-, z, -⟩
      · exact absurd z (by decide)
      · have tw : (nI w).toInt = w := nI_toInt (by omega)
        have i3 : (3 : Int32).toInt = 3 := rfl
        rw [hV, i_le, tw, i3]
        intro le
        rcases (show w = 0 ∨ w = 1 ∨ w = 2 ∨ w = 3 by omega) with e | e | e | e
        · exact c0 ⟨a, by rw [hv, e]; rfl⟩
        · exact c1 ⟨a, by rw [hv, e]; rfl⟩
        · exact c2 ⟨a, by rw [hv, e]; rfl⟩
        · exact c3 ⟨a, by rw [hv, e]; rfl⟩
      · exact absurd z (by decide)
      · exact absurd z (by decide)
      · exact absurd z (by decide)
      · exact absurd z (by decide)
      · exact absurd z (by decide)
    rw [if_pos m30, if_neg n3, wrong_flt h0, Option.bind_some]
  · rw [if_neg m30, wrong_flt h0, Option.bind_some]
theorem tok_end {s v S V : Int32} (h : tok s v S V) : s = 0 ↔ S = 4 := by
  rcases h with ⟨a, b⟩ | ⟨a, b, -⟩ | ⟨a, b, -⟩ | ⟨a, b⟩ | ⟨a, b, -⟩ | ⟨a, b, -⟩ | ⟨a, b, -⟩ <;> rw [a, b] <;> decide
theorem TLOOP (x1 : Int32) (no : jZ) : ∀ (n i N1 N2 : Nat) (re ta ro ki ru mo : jZ), n + i = 601 → n < N1 → n + 1 < N2 → TX i i re ta ro ki ru mo →
    (∃ re' ta' ro' ki' ru' mf, f_Reader_read_24 x1 N1 re ta ro ki ru no (nI i) = some (re', ta', ro', ki', ru', no, 0) ∧ f_Mo_text_94 x1 N2 mo = some (up2 (up2 mf 34 0 (mf 32 0)) 35 0 (mf 33 0), -1) ∧ re' 1 0 = mf 32 0 ∧ re' 2 0 = mf 33 0 ∧ oR mo mf ∧ (∀ q, q < 3 → ta' q = ta q)) ∨
    (∃ re2 ta2 ro2 ki2 ru2 mo2 j, f_Reader_read_24 x1 N1 re ta ro ki ru no (nI i) = some (re2, ta2, ro2, ki2, ru2, no, 1) ∧ f_Mo_text_94 x1 N2 mo = f_Mo_text_116 x1 mo2 ∧ TX j j re2 ta2 ro2 ki2 ru2 mo2 ∧ oR mo mo2 ∧ (∀ q, q < 3 → ta2 q = ta q)) := by
  intro n
  induction n with
  | zero =>
    intro i N1 N2 re ta ro ki ru mo hn _ _ h
    have hj : (i : Int) ≤ (mo 29 0).toInt := h.2.2.2.2.2.2.2.2.2
    have := T_600 h.1
    omega
  | succ n ih =>
    intro i N1 N2 re ta ro ki ru mo hn h1 h2 h
    obtain ⟨M1, e1⟩ : ∃ M, N1 = M + 1 := ⟨N1 - 1, by omega⟩
    obtain ⟨M2, e2⟩ : ∃ M, N2 = M + 1 := ⟨N2 - 1, by omega⟩
    rw [e1, e2]
    have te := tok_end h.1.2.2.2.2
    by_cases t4 : ta 4 0 = 0
    · right
      refine ⟨re, ta, ro, ki, ru, mo, i, ?_, ?_, h, oR.rf mo, fun _ _ => rfl⟩
      · rw [f_Reader_read_24]
        by_cases c : 600 ≤ nI i
        · rw [if_pos c]
        · rw [if_neg c, if_pos t4]
      · rw [f_Mo_text_94, if_pos h.2.1, if_pos (te.mp t4)]
    · have R : f_Mo_text_94 x1 (M2 + 1) mo = (f_Mo_line mo).bind fun q7 => f_Mo_text_94 x1 M2 q7 := by
        rw [f_Mo_text_94, if_pos h.2.1, if_neg (fun e => t4 (te.mpr e))]
      rcases LINE (no := no) h t4 x1 M1 with ⟨re', ta', ro', ki', ru', mf, a, b, c, d, e, f, g⟩ | ⟨re2, ta2, ro2, ki2, ru2, mo2, a, b, c, f, g⟩
      · left
        refine ⟨re', ta', ro', ki', ru', mf, a, ?_, d, e, f, g⟩
        obtain ⟨M3, e3⟩ : ∃ M, M2 = M + 1 := ⟨M2 - 1, by omega⟩
        rw [R, b, Option.bind_some, e3, f_Mo_text_94, if_neg c]
        unfold f_Mo_text_116
        rw [if_neg c]
      · rw [a, R, b, Option.bind_some]
        rcases ih (i + 1) M1 M2 re2 ta2 ro2 ki2 ru2 mo2 (by omega) (by omega) (by omega) c with ⟨re', ta', ro', ki', ru', mf, a', b', d', e', f', g'⟩ | ⟨re', ta', ro', ki', ru', mf, j, a', b', c', f', g'⟩
        · exact Or.inl ⟨re', ta', ro', ki', ru', mf, a', b', d', e', f.tr f', fun q hq => by rw [g' q hq, g q hq]⟩
        · exact Or.inr ⟨re', ta', ro', ki', ru', mf, j, a', b', c', f.tr f', fun q hq => by rw [g' q hq, g q hq]⟩
