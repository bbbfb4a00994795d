/-- the law's entry, as J takes it -/
theorem st_ok {p : Program} {s : State} {m : MethodId} {meth : Method} {c : Code} {b L : Nat} {xs : Nat → Int32} (C0 : lw_At p s m meth c b L xs) : ∃ g : jG, ∀ (l : Launch) (e : Env) (below : List Frame), jOk (p, l, e, room_1, s, m, #[Value.ref b], below, meth, c, lw_Z below #[Value.ref b] s, fun q : Nat => s.heap.size ≤ q) g RL code 7 ret room_1 ∧ jX (fun q : Nat => s.heap.size ≤ q) s s.heap ∧ jSc (p, l, e, room_1, s, m, #[Value.ref b], below, meth, c, lw_Z below #[Value.ref b] s, fun q : Nat => s.heap.size ≤ q) b L xs := by
  obtain ⟨hx, hb, hr, hml, hown, hts, hX, hbl, hlocks, hgv⟩ := C0
  have hA : ∀ a : Nat, a < s.heap.size → ¬ (fun q : Nat => s.heap.size ≤ q) a := fun a h => Nat.not_le.mpr h
  obtain ⟨D, c1, c2, c3, c4, hK⟩ := st_K hts
  obtain ⟨f, f', hS⟩ := st_S (A := fun q : Nat => s.heap.size ≤ q) hts hgv hA
  refine ⟨(D, c1, c2, c3, c4, f, f'), fun l e below => ⟨⟨hx, hb, hml, hr, hown, fun w hw => hts w (List.mem_filter.mp hw).1, hK f f', hlocks, fun q h => h, rfl, st_N hts, hS D c1 c2 c3 c4⟩, st_X hts hgv hA, hX, hbl, Nat.not_le.mpr hbl⟩⟩
