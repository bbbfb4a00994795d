theorem jGoodW {y : MethodName} {bytes : ByteArray} {maxL : Nat} {ret : Option FieldType} {hh : List (Nat × Nat × Nat × Nat)} (h : Cond.codeWith y bytes maxL ret hh ∈ tb) : GoodIn tb (Cond.codeWith y bytes maxL ret hh :: tb) := fun w hw => by
  rcases List.mem_cons.mp hw with e | e
  · rw [e]; exact ⟨h, tb_good _ h⟩
  · exact ⟨e, tb_good w e⟩
/-- the law calls its look -/
theorem j_callLook {p : Program} {l : Launch} {e : Env} {R : Room} {s : State} {m : MethodId} {args : Array Value} {below : List Frame} {meth : Method} {c : Code} {Q : State → Prop} {A : Nat → Prop} {g : jG} {own : String} {cc : ByteArray} {nL : Nat} {ret : Option FieldType} {rm : Room} {kc ks : Nat} {ws : List va_W} {lv : List (Nat × Value)} {pc : Nat} {st : List Value}
    {rm2 : Room} {index : Nat} {As rest st2 : List Value} {wc w1 ws' : List va_W} {v0 : Option Value} (hE : jOk (p, l, e, R, s, m, args, below, meth, c, Q, A) g own cc nL ret rm) (hX : jX A s s.heap)
    (hM : LC l g rm2 As wc v0 w1) (hcode : Cond.codeWith yL_look cL_look 5 (some .int) hhL ∈ tb) (hini : Cond.initialized RL ∈ tb) (hst : Cond.static yL_look ∈ tb) (hl : Cond.methodLink own index yL_look ∈ tb) (hs : st = As.reverse ++ rest) (hlen : As.length = 4)
    (hr0 : (rm2.frames + 1 ≤ rm.frames ∧ 8 + (5 + 11) + rm2.locals ≤ rm.locals) ∧ (kc + 1 ≤ rm.cells ∧ ks + 6 ≤ rm.slots) ∧ rm2.cells = 1 ∧ rm2.slots = 6) (is : List Nat) (hC : is.map (fun i => ws[i]?) = wc.map some) (hn : va_nd is = true) (hw : sRep ws is w1 = ws') (hcat : (rest.map fun v => v.category).sum ≤ 8) (hs2 : v0.toList ++ rest = st2) (hd : decode cc pc = .ok (.invokestatic index, 3))
    (kk : J (p, l, e, R, s, m, args, below, meth, c, Q, A) g (kc + 1) (ks + 6) ws' lv (pc + 3) st2) : J (p, l, e, R, s, m, args, below, meth, c, Q, A) g kc ks ws lv pc st := by
  obtain ⟨hx9, hb, hml, hr, hown, hts, hK, hlk, hA, rfl, hN, hSt⟩ := hE
  intro H locs ls hP hD hS hL
  obtain ⟨hPc, hDc, hF⟩ := jSub (s := s) hP hD hS hA hC hn
  have hrun := vx_runSX (p := p) (l := l) (e := e) (below := below) (meth := meth) (locs := locs) (H := H) (cells := kc) (slots := ks) (As := As) (rest := rest) (nL := nL) (Ts := tb) (g := F0 m pc ls st) (hh := hhL) (bytes := cL_look) (maxL := 5) (ret := some .int) (n := 4) ⟨hx9, hb, hml, hown, hts⟩ (hM.2 H.size)
    ⟨⟨hr0.2.2.1, hr0.2.2.2, hr0.1.1, hr0.1.2, pay_in hts (jGoodW hcode), List.mem_cons_self⟩, hts _ hcode, hts _ hini, ⟨by decide, by decide⟩, fun sig h => by
      have h2 : (parseMethodDescriptor yL_look.desc).map (fun d => d.parameters.length) = some 4 := by decide +kernel
      rw [h] at h2
      exact (Option.some.inj h2).symm, hts _ hl, hts _ hst⟩
    ⟨jBlX, fun U hU hW => ⟨rfl, ⟨by rw [hU], by rw [hU]; exact hPc, va_K.moved hW.alike hK, hDc, hN.warm hW, by rw [hU]; exact hSt.to hW hS.2.1 hF⟩, by rw [hU]; exact hX.to hW hS.2.1 hF⟩⟩ rfl hlen (by rw [← hml]; exact hL.1) hs (lv_room hcat) hd hr0.2.1
  intro T hT X
  rcases hrun T hT X with ⟨v, st0, t, T', L, h0, X', hL', e1, e2, ⟨hv, hP1, hFr⟩, stp⟩ | ⟨q, st0, t, T', L, E, ce, h0, X', hL', e1, e2, hf, -⟩
  · obtain ⟨k1, k2, k3⟩ := vx_keep h0 e1 hS (fun q _ h => hF q h) hF hL' hFr
    obtain ⟨p1, p2⟩ := jRepl hP hD hC hM.1 k2 (by rw [e1]; exact hP1)
    rw [hw] at p1 p2
    have hv0 : v = v0 := by injection hv
    subst hv0
    rw [← hs2] at kk
    obtain ⟨t2, a1, b1⟩ := kk T'.heap (locs ++ L) ls p1 p2 k3 hL T' rfl X'
    exact ⟨t2, stp t2 a1, b1⟩
  · exact hf.elim
