theorem lw_ws : lw_WS := by
  intro p e s m below meth c l hst b L xs hL C0
  obtain ⟨g, hg⟩ := st_ok C0
  obtain ⟨hE, hX, hSc⟩ := hg l e below
  have hml : c.maxLocals = 7 := C0.2.2.2.1
  have hlq := lv_entry [Value.ref b] (n := 7) (Nat.le_of_ble_eq_true rfl)
  have hb : J (p, l, e, room_1, s, m, #[Value.ref b], below, meth, c, lw_Z below #[Value.ref b] s, fun q : Nat => s.heap.size ≤ q) g 0 0 [] [(0, .ref b)] 0 [] := lw_first hE hSc ⟨hst, hX⟩ hL (fun kc ks ws lv h1 h2 => j_end hE h1 h2 dL_law_1178)
  rw [lg_entry_eq]
  exact hb s.heap [] _ (fun k q h => by simp at h) ⟨fun i j p q h => by simp at h, fun k q h => by simp at h⟩ va_S.rf (by rw [hml]; exact hlq)
theorem i_vc : Claimed_1_1 ∧ Claimed_1_2 := i_vc_of lw_ws
