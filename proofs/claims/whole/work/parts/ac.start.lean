theorem st_in : ∀ q ∈ vwCl, Cond.instantiable q.1 q.2.2 ∈ lw_tbl := by decide +kernel
theorem st_kn {args : Array Value} {s : State} (hts : ∀ w ∈ tb, w.before args s = true) (hl : ∀ w ∈ lw_tbl, w.before args s = true) : ∃ D : va_G, ∀ (k : Nat) (q : vw_C), vwCl[k]? = some q → u_Kn s q.1 q.2.1 q.2.2 (D.1 k) (D.2 k) := by
  have U : ∀ (C : String) (T : u_T) (N : Nat), (∀ w ∈ u_ws C T N, w ∈ tb) → (C, T, N) ∈ vwCl → ∃ z : ClassId × (Nat → Nat), u_Kn s C T N z.1 z.2 := fun C T N h1 h2 => by
    obtain ⟨a, b, h⟩ := u_known (n := N) hts h1 (hl _ (st_in _ h2))
    exact ⟨(a, b), h⟩
  have H : ∀ k : Nat, ∃ z : ClassId × (Nat → Nat), ∀ q : vw_C, vwCl[k]? = some q → u_Kn s q.1 q.2.1 q.2.2 z.1 z.2 := by
    intro k
    match k with
    | 0 => obtain ⟨z, h⟩ := U RX0 TX0 13 inX0 (by simp); exact ⟨z, fun q hq => by cases hq; exact h⟩
    | 1 => obtain ⟨z, h⟩ := U RX1 TX1 6 inX1 (by simp); exact ⟨z, fun q hq => by cases hq; exact h⟩
    | 2 => obtain ⟨z, h⟩ := U RX2 TX2 7 inX2 (by simp); exact ⟨z, fun q hq => by cases hq; exact h⟩
    | 3 => obtain ⟨z, h⟩ := U RX3 TX3 8 inX3 (by simp); exact ⟨z, fun q hq => by cases hq; exact h⟩
    | 4 => obtain ⟨z, h⟩ := U RX4 TX4 8 inX4 (by simp); exact ⟨z, fun q hq => by cases hq; exact h⟩
    | 5 => obtain ⟨z, h⟩ := U RX5 TX5 6 inX5 (by simp); exact ⟨z, fun q hq => by cases hq; exact h⟩
    | 6 => obtain ⟨z, h⟩ := U RX6 TX6 6 inX6 (by simp); exact ⟨z, fun q hq => by cases hq; exact h⟩
    | 7 => obtain ⟨z, h⟩ := U RX7 TX7 10 inX7 (by simp); exact ⟨z, fun q hq => by cases hq; exact h⟩
    | 8 => obtain ⟨z, h⟩ := U RX8 TX8 15 inX8 (by simp); exact ⟨z, fun q hq => by cases hq; exact h⟩
    | 9 => obtain ⟨z, h⟩ := U RX9 TX9 9 inX9 (by simp); exact ⟨z, fun q hq => by cases hq; exact h⟩
    | 10 => obtain ⟨z, h⟩ := U RX10 TX10 7 inX10 (by simp); exact ⟨z, fun q hq => by cases hq; exact h⟩
    | 11 => obtain ⟨z, h⟩ := U RX11 TX11 8 inX11 (by simp); exact ⟨z, fun q hq => by cases hq; exact h⟩
    | 12 => obtain ⟨z, h⟩ := U RX12 TX12 58 inX12 (by simp); exact ⟨z, fun q hq => by cases hq; exact h⟩
    | k + 13 => exact ⟨(0, fun _ => 0), fun q hq => by simp at hq⟩
  obtain ⟨f, hf⟩ := Classical.axiomOfChoice H
  exact ⟨(fun k => (f k).1, fun k => (f k).2), fun k q hq => hf k q hq⟩
theorem st_arr {args : Array Value} {s : State} {ty : FieldType} (h : (Cond.arrayClass ty).before args s = true) : ∃ cA : ClassId, ArrOfT s cA ty ∧ s.vm.findClass ("[" ++ ty.toString) = some cA := by
  obtain ⟨cA, kA, comp, h1, h2, h3⟩ := Cond.arrayClass_spec h
  exact ⟨cA, fun n z => ⟨fun k h => (by cases h), kA, h2, comp, h3⟩, h1⟩
theorem st_K {args : Array Value} {s : State} (hl : ∀ w ∈ lw_tbl, w.before args s = true) : ∃ (D : va_G) (c1 c2 c3 c4 : ClassId), ∀ (f f' : Nat → Nat), va_K D vwCl (jTy (D, c1, c2, c3, c4, f, f')) s := by
  have hts : ∀ w ∈ tb, w.before args s = true := fun w hw => hl w (List.mem_filter.mp hw).1
  obtain ⟨D, hD⟩ := st_kn hts hl
  obtain ⟨c1, a1, b1⟩ := st_arr (hl (.arrayClass .byte) (by decide +kernel))
  obtain ⟨c2, a2, b2⟩ := st_arr (hl (.arrayClass .int) (by decide +kernel))
  obtain ⟨c3, a3, b3⟩ := st_arr (hl (.arrayClass .long) (by decide +kernel))
  obtain ⟨c4, a4, b4⟩ := st_arr (hl (.arrayClass .boolean) (by decide +kernel))
  refine ⟨D, c1, c2, c3, c4, fun f f' => ⟨hD, fun k q hq => ?_⟩⟩
  match k, hq with
  | 0, hq => cases hq; exact ⟨a1, b1⟩
  | 1, hq => cases hq; exact ⟨a2, b2⟩
  | 2, hq => cases hq; exact ⟨a3, b3⟩
  | 3, hq => cases hq; exact ⟨a4, b4⟩
  | k + 4, hq => simp [jTy] at hq
