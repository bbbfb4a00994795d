/-! ===== a call that throws, caught by the caller ===== -/
theorem jBlX {g : jG} {av : List Value} {sz : Nat} {w0 : List va_W} {A : Nat → Prop} : FrameBlind (va_Pc av (fun U => jPre g w0 sz U ∧ jX A U U.heap)) := by
  intro a U f mk q
  obtain ⟨q0, q1, q2⟩ := q
  refine ⟨q0, (jBl (g := g) (av := av) (sz := sz) (w0 := w0) a U f mk ⟨q0, q1⟩).2, ?_⟩
  exact ⟨vx_Zq.moved (u := U) (U := U.calling f mk a) (Vm.Alike.refl U.vm) q2.1, vx_Zq.moved (u := U) (U := U.calling f mk a) (Vm.Alike.refl U.vm) q2.2.1, ⟨va_Nw.same rfl rfl q2.2.2.1.1, va_Nw.same rfl rfl q2.2.2.1.2⟩, ⟨va_Nw.same rfl rfl q2.2.2.2.1.1, va_Nw.same rfl rfl q2.2.2.2.1.2.1, va_Nw.same rfl rfl q2.2.2.2.1.2.2⟩, va_Nc.moved (u := U) (U := U.calling f mk a) (Vm.Alike.refl U.vm) q2.2.2.2.2⟩
theorem j_callVX {p : Program} {l : Launch} {e : Env} {R : Room} {s : State} {m : MethodId} {args : Array Value} {below : List Frame} {meth : Method} {c : Code} {Q : State → Prop} {A : Nat → Prop} {g : jG} {own : String} {cc : ByteArray} {nL : Nat} {ret : Option FieldType} {rm : Room} {kc ks : Nat} {ws : List va_W} {lv : List (Nat × Value)} {pc : Nat} {st : List Value}
    {y : MethodName} {bytes : ByteArray} {maxL : Nat} {ret2 : Option FieldType} {rm2 : Room} {n index : Nat} {As rest : List Value} {wc : List va_W} {ci b mc ms : Nat} {X name : String} (hE : jOk (p, l, e, R, s, m, args, below, meth, c, Q, A) g own cc nL ret rm) (hX : jX A s s.heap)
    (hM : XM l g y bytes maxL ret2 rm2 (.ref b :: As) wc X mc ms) (hc : jCd y bytes maxL ret2 n) (hv : jCv y ci) (hl : Cond.methodLink own index y ∈ tb) (hs : st = As.reverse ++ .ref b :: rest) (hlen : As.length = n) {w0 : va_W} {fs : List Value} (hq0 : wc[0]? = some w0) (hq : w0[0]? = some (b, .inr (ci, fs)))
    (hr0 : (rm2.frames + 1 ≤ rm.frames ∧ 8 + (maxL + 11) + rm2.locals ≤ rm.locals) ∧ (kc + mc ≤ rm.cells ∧ ks + ms ≤ rm.slots) ∧ rm2.cells = mc ∧ rm2.slots = ms) (is : List Nat) (hC : is.map (fun i => ws[i]?) = wc.map some) (hn : va_nd is = true) (hw : sRep ws is wc = ws) (hcat : (rest.map fun v => v.category).sum ≤ 8) (hd : decode cc pc = .ok (.invokevirtual index, 3))
    (pre : List ExceptionTableEntry) (x : ExceptionTableEntry) (suf : List ExceptionTableEntry) (hsplit : c.exceptionTable.toList = pre ++ x :: suf)
    (hpass : ∀ z ∈ pre, covers z pc = false ∨ (z.catchType ≠ 0 ∧ ∃ nm : String, (Cond.classLink own z.catchType nm).before args s = true ∧ va_Nc X nm s)) (hx : covers x pc = true) (h0 : x.catchType ≠ 0)
    (hlink : (Cond.classLink own x.catchType name).before args s = true) (hcast : (Cond.castable X name).before args s = true)
    (kk : ∀ q : Nat, J (p, l, e, R, s, m, args, below, meth, c, Q, A) g (kc + mc) (ks + ms) ws lv x.handlerPc [.ref q]) : J (p, l, e, R, s, m, args, below, meth, c, Q, A) g kc ks ws lv pc st := by
  obtain ⟨hx9, hb, hml, hr, hown, hts, hK, hlk, hA, rfl, hN, hSt⟩ := hE
  intro H locs ls hP hD hS hL
  obtain ⟨hPc, hDc, hF⟩ := jSub (s := s) hP hD hS hA hC hn
  obtain ⟨hcode, hini, hnm⟩ := hc
  obtain ⟨hinst, T0, N0, hcl, hsel⟩ := hv
  have hrun := vx_runV (p := p) (l := l) (e := e) (below := below) (meth := meth) (locs := locs) (H := H) (cells := kc) (slots := ks) (C := y.cls) (As := As) (rest := rest) (nL := nL) (Ts := tb) (g := F0 m pc ls st) ⟨hx9, hb, hml, hown, hts⟩ (hM H.size) ⟨callB_of n hts (jGood (own := own) hcode) rfl hr0.2.2.1 hr0.2.2.2 (hts _ hini) (hts _ hl) hnm hr0.1, hts _ hinst, hts _ hsel⟩ ⟨jBlX, va_recv hK (sP hPc hq0) (ci := ci) (q0 := 0) hcl hq, fun U hU hW => ⟨rfl, ⟨by rw [hU], by rw [hU]; exact hPc, va_K.moved hW.alike hK, hDc, hN.warm hW, by rw [hU]; exact hSt.to hW hS.2.1 hF⟩, by rw [hU]; exact hX.to hW hS.2.1 hF⟩⟩ rfl hlen (by rw [← hml]; exact hL.1) hs (lv_room hcat) hd hr0.2.1
  refine vx_calli hrun hS (fun q _ h => hF q h) hF (fun q _ h => hF q h) (fun E ce q9 u t H1 locs1 ht hv' _ hB hsz hk hS1 hce hcv hcl' => ?_) (fun r u t H1 locs1 _ _ hpost => hpost.elim)
  obtain ⟨rfl, hP1⟩ := hB
  obtain ⟨p1, p2⟩ := jRepl hP hD hC rfl hk (by rw [← ht]; exact hP1)
  rw [hw] at p1 p2
  exact vx_catch hown pre x suf hsplit hpass hx h0 hlink hcast hce hcv hcl' (kk q9 H1 locs1 ls p1 p2 hS1 hL)
theorem J_wide {E : jT} {g : jG} {kc ks k n : Nat} {ws : List va_W} {lv : List (Nat × Value)} {pc : Nat} {st : List Value} (h1 : kc ≤ k) (h2 : ks ≤ n) (h : J E g k n ws lv pc st) : J E g kc ks ws lv pc st := by
  obtain ⟨p, l, e, R, s, m, args, below, meth, c, Q, A⟩ := E
  intro H locs ls hP hD hS hL T hT X
  exact h H locs ls hP hD hS hL T hT (stand_widen X h1 h2)
theorem J_vx {p : Program} {l : Launch} {e : Env} {R : Room} {s : State} {m : MethodId} {args : Array Value} {below : List Frame} {meth : Method} {c : Code} {A : Nat → Prop} {g : jG} {kc ks mc ms : Nat} {ws : List va_W} {lv : List (Nat × Value)} {pc : Nat} {st : List Value} {Qc : Array Value → State → Outcome → State → Prop} {XC : String → State → State → Prop} (h : J (p, l, e, R, s, m, args, below, meth, c, MQ below Qc args s mc ms A, A) g kc ks ws lv pc st) : J (p, l, e, R, s, m, args, below, meth, c, vx_MQ below Qc XC args s mc ms A, A) g kc ks ws lv pc st :=
  fun H locs ls hP hD hS hL => vx_ret (h H locs ls hP hD hS hL)
