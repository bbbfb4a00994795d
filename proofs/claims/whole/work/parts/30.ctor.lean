def jInit (E : jT) : Prop := match E with
  | (p, l, e, R, s, m, args, below, meth, c, Q, A) => meth.name = "<init>"
def jQN (g : jG) (h0 : Nat) (wf : (Nat → Nat) → List va_W) (A : Nat → Prop) : Array Value → State → Outcome → State → Prop := fun _ st oc t => oc = .returned none ∧ (∃ a : Nat → Nat, a 0 = h0 ∧ va_P g.1 vwCl (wf a).flatten t.heap ∧ va_D A (wf a).flatten) ∧ va_F A st t
def jEndN (E : jT) (g : jG) (h0 : Nat) (wf : (Nat → Nat) → List va_W) (mc ms : Nat) : Prop := match E with
  | (p, l, e, R, s, m, args, below, meth, c, Q, A) => Q = MQ below (jQN g h0 wf A) args s mc ms A
def MN (l : Launch) (g : jG) (y : MethodName) (cc : ByteArray) (maxL : Nat) (rm : Room) (h0 ci : Nat) (fs : List Value) (wf : (Nat → Nat) → List va_W) (mc ms : Nat) : Prop :=
  ∀ sz : Nat, Met l y (.code y cc maxL none :: tb) rm (va_Pc [.ref h0] (jPre g [[(h0, .inr (ci, fs))]] sz)) (jQN g h0 wf (va_A [(h0, .inr (ci, fs))] sz)) mc ms (va_A [(h0, .inr (ci, fs))] sz)
theorem MN_of {l : Launch} {g : jG} {own : String} {y : MethodName} {cc : ByteArray} {maxL : Nat} {rm : Room} {h0 ci : Nat} {fs : List Value} {wf : (Nat → Nat) → List va_W} {mc ms : Nat} (hy : plainName y.cls = true) (ho : y.cls = own) (hyn : y.name = "<init>") (hl : 1 ≤ maxL)
    (body : ∀ E : jT, jOk E g own cc maxL none rm → jInit E → jEndN E g h0 wf mc ms → J E g 0 0 [[(h0, .inr (ci, fs))]] [(0, .ref h0)] 0 []) : MN l g y cc maxL rm h0 ci fs wf mc ms := by
  intro sz
  refine Met.ofW (cc := cc) (maxL := maxL) (ret := none) hy rfl ?_
  intro p e s m args below meth c s₁ B hml hv
  obtain ⟨rfl, hsz, hP, hK, hD0, hN, hSt⟩ := hv
  subst hsz
  subst ho
  have hts := atoms_spec (ws := .code y cc maxL none :: tb) B.pre
  have hown : s.vm.findClass y.cls = some m.cls := findClass_of_methodNamed B.named
  have hin : meth.name = "<init>" := (name_of_methodNamed B.named B.method).1.trans hyn
  have hD := hD0.self (sz := s.heap.size)
  have hb := body (p, l, e, rm, s, m, [Value.ref h0].toArray, below, meth, c, MQ below (jQN g h0 wf (va_A [(h0, .inr (ci, fs))] s.heap.size)) [Value.ref h0].toArray s mc ms (va_A [(h0, .inr (ci, fs))] s.heap.size), va_A [(h0, .inr (ci, fs))] s.heap.size) ⟨B.exec, B.bytes, hml, B.returns, hown, fun w h => hts w (List.mem_cons_of_mem _ h), hK, B.notSynchronized, fun q h => Or.inr h, rfl, hN, hSt⟩ hin rfl
  have hlq := lv_entry [Value.ref h0] (n := maxL) hl
  rw [lg_entry_eq]
  exact hb s.heap [] _ hP hD va_S.rf (by rw [hml]; exact hlq)
theorem jPerm {A : Nat → Prop} {D : va_G} {ws cs : List va_W} {H : Heap} {is : List Nat} (hP : va_P D vwCl ws.flatten H) (hD : va_D A ws.flatten) (hC : is.map (fun i => ws[i]?) = cs.map some) (hn : va_nd is = true) : va_P D vwCl cs.flatten H ∧ va_D A cs.flatten := by
  refine ⟨sPof fun k w hk => ?_, sDof (fun i j a b w u p q hi hj ha hb e => ?_) (fun i a w p hi ha => ?_)⟩
  · obtain ⟨i, -, hi⟩ := sMap hC hk
    exact sP hP hi
  · obtain ⟨i', h1, h2⟩ := sMap hC hi
    obtain ⟨j', h3, h4⟩ := sMap hC hj
    obtain ⟨e1, e2⟩ := sDis hD h2 h4 ha hb e
    subst e1
    exact ⟨va_nd_inj is hn i j i' h1 h3, e2⟩
  · obtain ⟨i', h1, h2⟩ := sMap hC hi
    exact hD.2 _ p (sAt ws i' a w p h2 ha)
section JC
variable {E : jT} {g : jG} {own : String} {cc : ByteArray} {nL : Nat} {ret : Option FieldType} {rm : Room} {kc ks : Nat} {ws : List va_W} {lv : List (Nat × Value)} {pc : Nat} {st : List Value}
theorem j_perm {cs : List va_W} (is : List Nat) (hC : is.map (fun i => ws[i]?) = cs.map some) (hn : va_nd is = true) (kk : J E g kc ks cs lv pc st) : J E g kc ks ws lv pc st := by
  obtain ⟨p, l, e, R, s, m, args, below, meth, c, Q, A⟩ := E
  intro H locs ls hP hD hS hL
  obtain ⟨h1, h2⟩ := jPerm hP hD hC hn
  exact kk H locs ls h1 h2 hS hL
theorem j_flat {cs : List va_W} (h : cs.flatten = ws.flatten) (kk : J E g kc ks cs lv pc st) : J E g kc ks ws lv pc st := by
  obtain ⟨p, l, e, R, s, m, args, below, meth, c, Q, A⟩ := E
  intro H locs ls hP hD hS hL
  exact kk H locs ls (by rw [h]; exact hP) (by rw [h]; exact hD) hS hL
theorem j_kk {k2 s2 : Nat} (h1 : kc ≤ k2) (h2 : ks ≤ s2) (kk : J E g k2 s2 ws lv pc st) : J E g kc ks ws lv pc st := by
  obtain ⟨p, l, e, R, s, m, args, below, meth, c, Q, A⟩ := E
  intro H locs ls hP hD hS hL
  exact W.widen h1 h2 (kk H locs ls hP hD hS hL)
def jOi (own : String) (index : Nat) : Prop := Cond.methodLink own index objectInit ∈ tb ∧ Cond.instanceMethod objectInit ∈ tb ∧ Cond.code objectInit ⟨#[0xb1]⟩ 1 none ∈ tb
theorem j_objInit {index a : Nat} (hE : jOk E g own cc nL ret rm) (ho : jOi own index) (hr0 : 1 ≤ rm.frames ∧ (st.map fun v => v.category).sum + 12 ≤ rm.locals) (hd : decode cc pc = .ok (.invokespecial index, 3)) (kk : J E g kc ks ws lv (pc + 3) st) : J E g kc ks ws lv pc (.ref a :: st) := by
  obtain ⟨p, l, e, R, s, m, args, below, meth, c, Q, A⟩ := E
  obtain ⟨hx, hb, hml, hr, hown, hts, hK, hlk, hA, rfl, hN, hSt⟩ := hE
  intro H locs ls hP hD hS hL
  refine W.objInit (g := F0 m pc ls (.ref a :: st)) (rest := st) hx hb hown (hts _ ho.1) (hts _ ho.2.1) (hts _ ho.2.2) rfl hL.1 rfl hd hr0.1 ?_ (kk H locs ls hP hD hS hL)
  have : (F0 m pc ls (.ref a :: st)).monitorRoom = 0 := rfl
  rw [this]
  have := hr0.2
  omega
def jNw (own : String) (index ci : Nat) (fs : List Value) : Prop := ∃ (C : String) (T : u_T) (N : Nat) (ty0 : Nat → FieldType), vwCl[ci]? = some (C, T, N) ∧ (∀ w ∈ u_ws C T N, w ∈ tb) ∧ (∀ k, k < N → parseFieldDescriptor (T k).2.2.1 = some (ty0 k)) ∧ Cond.classLink own index C ∈ tb ∧ Cond.instantiable C N ∈ tb ∧ Cond.initialized C ∈ tb ∧ fs.length = N ∧ (∀ j, j < N → defaultValue (ty0 j) = vp_V fs j)
theorem j_new {index ci : Nat} {fs : List Value} (hE : jOk E g own cc nL ret rm) (hl : jNw own index ci fs) (hr0 : kc + 1 ≤ rm.cells ∧ ks + fs.length ≤ rm.slots) (hd : decode cc pc = .ok (.new index, 3)) (kk : ∀ q : Nat, J E g (kc + 1) (ks + fs.length) (ws ++ [[(q, .inr (ci, fs))]]) lv (pc + 3) (.ref q :: st)) : J E g kc ks ws lv pc st := by
  obtain ⟨p, l, e, R, s, m, args, below, meth, c, Q, A⟩ := E
  obtain ⟨hx, hb, hml, hr, hown, hts, hK, hlk, hA, rfl, hN, hSt⟩ := hE
  intro H locs ls hP hD hS hL
  obtain ⟨C, T, N, ty0, h1, h2, h3, h4, h5, h6, h7, h8⟩ := hl
  subst h7
  refine va_new (D := g.1) (cl := vwCl) (tys := jTy g) (C := C) (T := T) (ci := ci) (fs := fs) hx hb hts h2 ty0 h3 hown (hts _ h4) (hts _ h5) (hts _ h6) hK hP hD hS hA h1 h8 hr0.1 hr0.2 hd (fun q H hP hD hS => ?_)
  exact kk q H locs ls (by rw [List.flatten_append]; simpa using hP) (by rw [List.flatten_append]; simpa using hD) hS hL

theorem j_newaI {n : Int32} {N : Nat} (hE : jOk E g own cc nL ret rm) (hl : Cond.arrayClass .int ∈ tb) (hn : ¬ n < 0) (hNn : n.toNatClampNeg = N) (hz : N ≤ 60000000) (hr0 : kc + 1 ≤ rm.cells ∧ ks + N ≤ rm.slots) (hd : decode cc pc = .ok (.newarray .int, 2)) (kk : ∀ q : Nat, J E g (kc + 1) (ks + N) (ws ++ [[(q, .inl (g.2.2.1, N, .inl (fun _ => 0)))]]) lv (pc + 2) (.ref q :: st)) : J E g kc ks ws lv pc (.int n :: st) := by
  obtain ⟨p, l, e, R, s, m, args, below, meth, c, Q, A⟩ := E
  obtain ⟨hx, hb, hml, hr, hown, hts, hK, hlk, hA, rfl, hN, hSt⟩ := hE
  intro H locs ls hP hD hS hL
  refine va_newa (atype := .int) (a0 := (N, .inl (fun _ => 0))) hx hb (hts _ hl) rfl hK hP hD hS hA (fun cA => rfl) hn hNn (by show N * 4 ≤ _; omega) hr0.1 hr0.2 hd (fun q cA H hK2 hP hD hS => ?_)
  have e1 : va_RA s cA .int := (hK2.2 4 (cA, .int) rfl).2
  have e2 : va_RA s g.2.2.1 .int := (hK.2 1 (g.2.2.1, .int) rfl).2
  have e3 : cA = g.2.2.1 := Option.some.inj ((show s.vm.findClass _ = some cA from e1).symm.trans e2)
  subst e3
  exact kk q H locs ls (by rw [List.flatten_append]; simpa using hP) (by rw [List.flatten_append]; simpa using hD) hS hL

theorem j_newaB {n : Int32} {N : Nat} (hE : jOk E g own cc nL ret rm) (hl : Cond.arrayClass .byte ∈ tb) (hn : ¬ n < 0) (hNn : n.toNatClampNeg = N) (hz : N ≤ 60000000) (hr0 : kc + 1 ≤ rm.cells ∧ ks + N ≤ rm.slots) (hd : decode cc pc = .ok (.newarray .byte, 2)) (kk : ∀ q : Nat, J E g (kc + 1) (ks + N) (ws ++ [[(q, .inl (g.2.1, N, .inl (fun _ => 0)))]]) lv (pc + 2) (.ref q :: st)) : J E g kc ks ws lv pc (.int n :: st) := by
  obtain ⟨p, l, e, R, s, m, args, below, meth, c, Q, A⟩ := E
  obtain ⟨hx, hb, hml, hr, hown, hts, hK, hlk, hA, rfl, hN, hSt⟩ := hE
  intro H locs ls hP hD hS hL
  refine va_newa (atype := .byte) (a0 := (N, .inl (fun _ => 0))) hx hb (hts _ hl) rfl hK hP hD hS hA (fun cA => rfl) hn hNn (by show N * 1 ≤ _; omega) hr0.1 hr0.2 hd (fun q cA H hK2 hP hD hS => ?_)
  have e1 : va_RA s cA .byte := (hK2.2 4 (cA, .byte) rfl).2
  have e2 : va_RA s g.2.1 .byte := (hK.2 0 (g.2.1, .byte) rfl).2
  have e3 : cA = g.2.1 := Option.some.inj ((show s.vm.findClass _ = some cA from e1).symm.trans e2)
  subst e3
  exact kk q H locs ls (by rw [List.flatten_append]; simpa using hP) (by rw [List.flatten_append]; simpa using hD) hS hL

theorem j_newaJ {n : Int32} {N : Nat} (hE : jOk E g own cc nL ret rm) (hl : Cond.arrayClass .long ∈ tb) (hn : ¬ n < 0) (hNn : n.toNatClampNeg = N) (hz : N ≤ 60000000) (hr0 : kc + 1 ≤ rm.cells ∧ ks + N ≤ rm.slots) (hd : decode cc pc = .ok (.newarray .long, 2)) (kk : ∀ q : Nat, J E g (kc + 1) (ks + N) (ws ++ [[(q, .inl (g.2.2.2.1, N, .inr (.inl (fun _ => 0))))]]) lv (pc + 2) (.ref q :: st)) : J E g kc ks ws lv pc (.int n :: st) := by
  obtain ⟨p, l, e, R, s, m, args, below, meth, c, Q, A⟩ := E
  obtain ⟨hx, hb, hml, hr, hown, hts, hK, hlk, hA, rfl, hN, hSt⟩ := hE
  intro H locs ls hP hD hS hL
  refine va_newa (atype := .long) (a0 := (N, .inr (.inl (fun _ => 0)))) hx hb (hts _ hl) rfl hK hP hD hS hA (fun cA => rfl) hn hNn (by show N * 8 ≤ _; omega) hr0.1 hr0.2 hd (fun q cA H hK2 hP hD hS => ?_)
  have e1 : va_RA s cA .long := (hK2.2 4 (cA, .long) rfl).2
  have e2 : va_RA s g.2.2.2.1 .long := (hK.2 2 (g.2.2.2.1, .long) rfl).2
  have e3 : cA = g.2.2.2.1 := Option.some.inj ((show s.vm.findClass _ = some cA from e1).symm.trans e2)
  subst e3
  exact kk q H locs ls (by rw [List.flatten_append]; simpa using hP) (by rw [List.flatten_append]; simpa using hD) hS hL

theorem j_newaZ {n : Int32} {N : Nat} (hE : jOk E g own cc nL ret rm) (hl : Cond.arrayClass .boolean ∈ tb) (hn : ¬ n < 0) (hNn : n.toNatClampNeg = N) (hz : N ≤ 60000000) (hr0 : kc + 1 ≤ rm.cells ∧ ks + N ≤ rm.slots) (hd : decode cc pc = .ok (.newarray .boolean, 2)) (kk : ∀ q : Nat, J E g (kc + 1) (ks + N) (ws ++ [[(q, .inl (g.2.2.2.2.1, N, .inl (fun _ => 0)))]]) lv (pc + 2) (.ref q :: st)) : J E g kc ks ws lv pc (.int n :: st) := by
  obtain ⟨p, l, e, R, s, m, args, below, meth, c, Q, A⟩ := E
  obtain ⟨hx, hb, hml, hr, hown, hts, hK, hlk, hA, rfl, hN, hSt⟩ := hE
  intro H locs ls hP hD hS hL
  refine va_newa (atype := .boolean) (a0 := (N, .inl (fun _ => 0))) hx hb (hts _ hl) rfl hK hP hD hS hA (fun cA => rfl) hn hNn (by show N * 1 ≤ _; omega) hr0.1 hr0.2 hd (fun q cA H hK2 hP hD hS => ?_)
  have e1 : va_RA s cA .boolean := (hK2.2 4 (cA, .boolean) rfl).2
  have e2 : va_RA s g.2.2.2.2.1 .boolean := (hK.2 3 (g.2.2.2.2.1, .boolean) rfl).2
  have e3 : cA = g.2.2.2.2.1 := Option.some.inj ((show s.vm.findClass _ = some cA from e1).symm.trans e2)
  subst e3
  exact kk q H locs ls (by rw [List.flatten_append]; simpa using hP) (by rw [List.flatten_append]; simpa using hD) hS hL

def jFf (own : String) (index ci k : Nat) (ty : FieldType) : Prop := ∃ (C : String) (T : u_T) (N : Nat) (ty0 : Nat → FieldType), vwCl[ci]? = some (C, T, N) ∧ k < N ∧ (∀ w ∈ u_ws C T N, w ∈ tb) ∧ Cond.fieldLink own index (T k).1 (T k).2.1 (T k).2.2.1 ∈ tb ∧ (∀ k, k < N → parseFieldDescriptor (T k).2.2.1 = some (ty0 k)) ∧ (∀ a, a < N → ∀ b, b < N → a ≠ b → (T a).2.1 ≠ (T b).2.1) ∧ (T k).2.2.2 = true ∧ ty0 k = ty ∧ (T k).1 = own
theorem j_putF {index ci k : Nat} {a : Nat} {fs : List Value} {v : Value} {ty : FieldType} {w w' : va_W} {ws' : List va_W} (hE : jOk E g own cc nL ret rm) (hi0 : jInit E) (hl : jFf own index ci k ty) (i : Nat) (hi : ws[i]? = some w) (q0 : Nat) (he : w[q0]? = some (a, .inr (ci, fs))) (hn : narrow ty v = v) (hfit : fits ty v = true) (hk : k < fs.length) (hw : w.set q0 (a, .inr (ci, fs.set k v)) = w') (hw2 : ws.set i w' = ws') (hd : decode cc pc = .ok (.putfield index, 3)) (kk : J E g kc ks ws' lv (pc + 3) st) : J E g kc ks ws lv pc (v :: .ref a :: st) := by
  obtain ⟨p, l, e, R, s, m, args, below, meth, c, Q, A⟩ := E
  obtain ⟨hx, hb, hml, hr, hown, hts, hK, hlk, hA, rfl, hN, hSt⟩ := hE
  intro H locs ls hP hD hS hL
  obtain ⟨C, T, N, ty0, h1, h2, h3, h4, h5, h6, h7, h8, h9⟩ := hl
  subst hw
  subst hw2
  have hq := (List.getElem?_eq_some_iff.mp he).1
  refine va_putF (D := g.1) (cl := vwCl) (tys := jTy g) (C := C) (T := T) (N := N) (ref := (T k).1) (ty := ty) hx hb hts h3 ty0 h5 h6 hown hK hP hD hS _ (sAt ws i q0 w _ hi he) h1 k h2 (hts _ h4) (fun _ h => h) h7 hi0 h9 (by rw [h5 k h2, h8]) hn hfit hk hd (fun H locs hP hD hS => ?_)
  rw [← sSet ws i q0 w _ hi hq] at hP hD
  exact kk H locs ls hP hD hS hL
theorem j_goesN {p : Program} {l : Launch} {e : Env} {R : Room} {s : State} {m : MethodId} {args : Array Value} {below : List Frame} {meth : Method} {c : Code} {Q : State → Prop} {A : Nat → Prop} {H : Heap} {locs : List Loc} {ls : Array Slot} {rest : List Value} {b ci mc ms : Nat} {fs : List Value} {wf : (Nat → Nat) → List va_W} {wr : List va_W} {a0 : Array Value}
    (hr : va_Run p l e R s m args below meth c H locs kc ks mc ms (F0 m pc ls st) rest (jQN g b wf (va_A [(b, .inr (ci, fs))] H.size) a0) (va_A [(b, .inr (ci, fs))] H.size)) (hP : va_P g.1 vwCl (wr ++ ([[(b, .inr (ci, fs))]] : List va_W)).flatten H) (hD : va_D A (wr ++ ([[(b, .inr (ci, fs))]] : List va_W)).flatten) (hS : va_S A s.heap H locs) (hA : ∀ q, s.heap.size ≤ q → A q) (hL : lv_has ls c.maxLocals lv)
    (kk : ∀ a : Nat → Nat, a 0 = b → J (p, l, e, R, s, m, args, below, meth, c, Q, A) g (kc + mc) (ks + ms) (wr ++ wf a) lv (pc + 3) rest) : W p l e R s m args below meth c H locs kc ks Q (F0 m pc ls st) := by
  intro T hT X
  obtain ⟨v, st₀, t, T', L, h0, X', hLo, e1, e2, ⟨hv, ⟨a, ha, hP1, hD1⟩, hz, hk⟩, go⟩ := hr T hT X
  have hv : v = none := by injection hv
  subst hv
  rw [h0] at hz hk
  rw [← e1] at hP1 hz hk
  have hfl : (wr ++ ([[(b, .inr (ci, fs))]] : List va_W)).flatten = wr.flatten ++ [(b, (.inr (ci, fs) : va_E))] := by rw [List.flatten_append]; simp
  rw [hfl] at hP hD
  have hbA : A b := hD.2 wr.flatten.length (b, .inr (ci, fs)) (by simp)
  have hF : ∀ q, va_A [(b, (.inr (ci, fs) : va_E))] H.size q → A q := by
    intro q h
    rcases h with ⟨k, e, h⟩ | h
    · cases k with
      | zero => simp at h; rw [← h.1]; exact hbA
      | succ k => simp at h
    · exact hA q (Nat.le_trans hS.1 h)
  have apart : ∀ (k : Nat) (q : Nat × va_E), wr.flatten[k]? = some q → q.1 < H.size ∧ ¬ va_A [(b, (.inr (ci, fs) : va_E))] H.size q.1 := by
    intro k q hq
    have hkl := (List.getElem?_eq_some_iff.mp hq).1
    have hq' : (wr.flatten ++ [(b, (.inr (ci, fs) : va_E))])[k]? = some q := by rw [List.getElem?_append_left hkl]; exact hq
    have hl := (hP k q hq').lt
    refine ⟨hl, fun h => ?_⟩
    rcases h with ⟨k2, e, h⟩ | h
    · cases k2 with
      | zero =>
        simp at h
        have := hD.1 k wr.flatten.length q (b, .inr (ci, fs)) hq' (by simp) h.1.symm
        omega
      | succ k2 => simp at h
    · omega
  have hP2 : va_P g.1 vwCl (wr ++ wf a).flatten T'.heap := by
    rw [List.flatten_append]
    refine va_P.app (fun k q hq => ?_) hP1
    have hkl := (List.getElem?_eq_some_iff.mp hq).1
    obtain ⟨g1, g2⟩ := apart k q hq
    exact (hP k q (by rw [List.getElem?_append_left hkl]; exact hq)).kept (hk q.1 g1 g2)
  have hD2 : va_D A (wr ++ wf a).flatten := by
    rw [List.flatten_append]
    refine va_D.app ⟨fun i j x y hi hj hxy => ?_, fun k q hq => ?_⟩ (hD1.weaken (fun k q _ h => hF q.1 h)) (fun i j x y hx hy hxy => ?_)
    · have l1 := (List.getElem?_eq_some_iff.mp hi).1
      have l2 := (List.getElem?_eq_some_iff.mp hj).1
      exact hD.1 i j x y (by rw [List.getElem?_append_left l1]; exact hi) (by rw [List.getElem?_append_left l2]; exact hj) hxy
    · have l1 := (List.getElem?_eq_some_iff.mp hq).1
      exact hD.2 k q (by rw [List.getElem?_append_left l1]; exact hq)
    · exact (apart i x hx).2 (by rw [hxy]; exact hD1.2 j y hy)
  have hS2 : va_S A s.heap T'.heap (locs ++ L) := ⟨Nat.le_trans hS.1 hz, fun q h1 h2 => by rw [hk q (Nat.lt_of_lt_of_le h1 hS.1) (fun z => h2 (hF q z))]; exact hS.2.1 q h1 h2, fun q hq => by
    rcases List.mem_append.mp hq with h | h
    · exact hS.2.2 q h
    · exact hF _ (hLo q h)⟩
  obtain ⟨t2, a1, b1⟩ := kk a ha T'.heap (locs ++ L) ls hP2 hD2 hS2 hL T' rfl X'
  exact ⟨t2, go t2 a1, b1⟩
theorem jPreN {A : Nat → Prop} {s : State} {H : Heap} {locs : List Loc} {b ci : Nat} {fs : List Value} {wr : List va_W} (hP : va_P g.1 vwCl (wr ++ ([[(b, .inr (ci, fs))]] : List va_W)).flatten H) (hD : va_D A (wr ++ ([[(b, .inr (ci, fs))]] : List va_W)).flatten) (hS : va_S A s.heap H locs) (hA : ∀ q, s.heap.size ≤ q → A q) :
    va_P g.1 vwCl ([[(b, .inr (ci, fs))]] : List va_W).flatten H ∧ va_D (fun _ => True) ([[(b, .inr (ci, fs))]] : List va_W).flatten ∧ ∀ q, va_A ([[(b, .inr (ci, fs))]] : List va_W).flatten H.size q → A q :=
  jSub (s := s) (is := [wr.length]) hP hD hS hA (by simp) rfl
theorem j_callI {y : MethodName} {bytes : ByteArray} {maxL : Nat} {rm2 : Room} {index b ci mc ms : Nat} {fs : List Value} {wf : (Nat → Nat) → List va_W} {wr : List va_W} (hE : jOk E g own cc nL ret rm) (hM : ∀ l, MN l g y bytes maxL rm2 b ci fs wf mc ms) (hc : jCd y bytes maxL none 0) (hy : y.name = "<init>") (hin : Cond.instanceMethod y ∈ tb) (hl : Cond.methodLink own index y ∈ tb) (hws : ws = wr ++ ([[(b, .inr (ci, fs))]] : List va_W)) (hr0 : (rm2.frames + 1 ≤ rm.frames ∧ 8 + (maxL + 11) + rm2.locals ≤ rm.locals) ∧ (kc + mc ≤ rm.cells ∧ ks + ms ≤ rm.slots) ∧ rm2.cells = mc ∧ rm2.slots = ms) (hcat : (st.map fun v => v.category).sum ≤ 8) (hd : decode cc pc = .ok (.invokespecial index, 3)) (kk : ∀ a : Nat → Nat, a 0 = b → J E g (kc + mc) (ks + ms) (wr ++ wf a) lv (pc + 3) st) : J E g kc ks ws lv pc (.ref b :: st) := by
  subst hws
  obtain ⟨p, l, e, R, s, m, args, below, meth, c, Q, A⟩ := E
  obtain ⟨hx, hb, hml, hr, hown, hts, hK, hlk, hA, rfl, hN, hSt⟩ := hE
  intro H locs ls hP hD hS hL
  obtain ⟨hPc, hDc, hF⟩ := jPreN (s := s) hP hD hS hA
  obtain ⟨hcode, hini, hnm⟩ := hc
  refine j_goesN (va_runI (As := []) (rest := st) (nL := nL) (Ts := tb) ⟨hx, hb, hml, hown, hts⟩ (hM l H.size) ⟨callB_of 0 hts (jGood (own := own) hcode) rfl hr0.2.2.1 hr0.2.2.2 (hts _ hini) (hts _ hl) hnm hr0.1, hy, hts _ hin⟩ ⟨jBl, fun U hU hW => ⟨rfl, by rw [hU], by rw [hU]; exact hPc, va_K.moved hW.alike hK, hDc, hN.warm hW, by rw [hU]; exact hSt.to hW hS.2.1 hF⟩⟩ rfl rfl (by rw [← hml]; exact hL.1) rfl (lv_room hcat) hd hr0.2.1) hP hD hS hA hL kk
theorem j_callIN {host : String} {y : MethodName} {bytes : ByteArray} {maxL : Nat} {rm2 : Room} {index b ci mc ms : Nat} {fs : List Value} {wf : (Nat → Nat) → List va_W} {wr : List va_W} (hE : jOk E g own cc nL ret rm) (hM : ∀ l, MN l g y bytes maxL rm2 b ci fs wf mc ms) (hc : jCd y bytes maxL none 0) (hy : y.name = "<init>") (hin : Cond.instanceMethod y ∈ tb) (hl : (own, index, y, host) ∈ nwl) (hws : ws = wr ++ ([[(b, .inr (ci, fs))]] : List va_W)) (hr0 : (rm2.frames + 1 ≤ rm.frames ∧ 8 + (maxL + 11) + rm2.locals ≤ rm.locals) ∧ (kc + mc ≤ rm.cells ∧ ks + ms ≤ rm.slots) ∧ rm2.cells = mc ∧ rm2.slots = ms) (hcat : (st.map fun v => v.category).sum ≤ 8) (hd : decode cc pc = .ok (.invokespecial index, 3)) (kk : ∀ a : Nat → Nat, a 0 = b → J E g (kc + mc) (ks + ms) (wr ++ wf a) lv (pc + 3) st) : J E g kc ks ws lv pc (.ref b :: st) := by
  subst hws
  obtain ⟨p, l, e, R, s, m, args, below, meth, c, Q, A⟩ := E
  obtain ⟨hx, hb, hml, hr, hown, hts, hK, hlk, hA, rfl, hN, hSt⟩ := hE
  intro H locs ls hP hD hS hL
  obtain ⟨hPc, hDc, hF⟩ := jPreN (s := s) hP hD hS hA
  obtain ⟨hcode, hini, hnm⟩ := hc
  refine j_goesN (va_runIN (host := host) (As := []) (rest := st) (nL := nL) (Ts := tb) ⟨hx, hb, hml, hown, hts⟩ (hM l H.size) ⟨⟨⟨hr0.2.2.1, hr0.2.2.2, hr0.1.1, hr0.1.2, pay_in hts (jGood (own := own) hcode), List.mem_cons_self⟩, hts _ hcode, hts _ hini, ⟨hnm.1, hnm.2.1⟩, fun sig h => by have h2 := hnm.2.2; rw [h] at h2; exact (Option.some.inj h2).symm, va_Nw.use rfl (hN _ hl)⟩, hy, hts _ hin⟩ ⟨jBl, fun U hU hW => ⟨rfl, by rw [hU], by rw [hU]; exact hPc, va_K.moved hW.alike hK, hDc, hN.warm hW, by rw [hU]; exact hSt.to hW hS.2.1 hF⟩⟩ rfl rfl (by rw [← hml]; exact hL.1) rfl (lv_room hcat) hd hr0.2.1) hP hD hS hA hL kk
theorem j_nret {h0 mc ms : Nat} {wf : (Nat → Nat) → List va_W} (hE : jOk E g own cc nL none rm) (hq : jEndN E g h0 wf mc ms) (hk : kc = mc) (hs : ks = ms) (a : Nat → Nat) (ha : a 0 = h0) (hw : (wf a).flatten = ws.flatten) (hd : decode cc pc = .ok (.return_, 1)) : J E g kc ks ws lv pc [] := by
  subst hk; subst hs
  obtain ⟨p, l, e, R, s, m, args, below, meth, c, Q, A⟩ := E
  obtain ⟨hx, hb, hml, hr, hown, hts, hK, hlk, hA, rfl, hN, hSt⟩ := hE
  intro H locs ls hP hD hS hL
  have hq : Q = MQ below (jQN g h0 wf A) args s kc ks A := hq
  subst hq
  exact W.vret hx hb hr (fun t ht hW => ⟨rfl, ⟨a, ha, by rw [hw, ht]; exact hP, by rw [hw]; exact hD⟩, hS.F ht⟩) hS.2.2 hd hlk
end JC
