abbrev jQX (A : Nat → Prop) : Array Value → State → Outcome → State → Prop := va_Qi (S := Unit) (fun _ _ => False) (fun _ _ => True) A
abbrev jXC (g : jG) (w0 : List va_W) (X : String) (A : Nat → Prop) : String → State → State → Prop := vx_X (S := Unit) (fun _ => True) (fun E _ t => E = X ∧ va_P g.1 vwCl w0.flatten t.heap) A
def XM (l : Launch) (g : jG) (y : MethodName) (cc : ByteArray) (maxL : Nat) (ret : Option FieldType) (rm : Room) (av : List Value) (w0 : List va_W) (X : String) (mc ms : Nat) : Prop :=
  ∀ sz : Nat, vx_Met l y (.code y cc maxL ret :: tb) rm (va_Pc av (fun U => jPre g w0 sz U ∧ jX (va_A w0.flatten sz) U U.heap)) (jQX (va_A w0.flatten sz)) (jXC g w0 X (va_A w0.flatten sz)) mc ms (va_A w0.flatten sz)
theorem XM_of {l : Launch} {g : jG} {own : String} {y : MethodName} {cc : ByteArray} {maxL : Nat} {ret : Option FieldType} {rm : Room} {av : List Value} {w0 : List va_W} {X : String} {mc ms : Nat} {lv : List (Nat × Value)} (hy : plainName y.cls = true) (ho : y.cls = own) (hl : (lg_sl av).length ≤ maxL) (hlv : lv_args 0 av = lv)
    (body : ∀ (p : Program) (e : Env) (s : State) (m : MethodId) (below : List Frame) (meth : Method) (c : Code) (A : Nat → Prop), jOk (p, l, e, rm, s, m, av.toArray, below, meth, c, vx_MQ below (jQX A) (jXC g w0 X A) av.toArray s mc ms A, A) g own cc maxL ret rm → jX A s s.heap → (∀ x ∈ c.exceptionTable.toList, False) → J (p, l, e, rm, s, m, av.toArray, below, meth, c, vx_MQ below (jQX A) (jXC g w0 X A) av.toArray s mc ms A, A) g 0 0 w0 lv 0 []) : XM l g y cc maxL ret rm av w0 X mc ms := by
  intro sz
  refine vx_ofW (cc := cc) (maxL := maxL) (ret := ret) hy rfl ?_
  intro p e s m args below meth c s₁ B hml hex hv
  obtain ⟨rfl, ⟨hsz, hP, hK, hD0, hN, hSt⟩, hX⟩ := hv
  subst hsz
  subst ho
  have hts := atoms_spec (ws := .code y cc maxL ret :: tb) B.pre
  have hown : s.vm.findClass y.cls = some m.cls := findClass_of_methodNamed B.named
  have hD := hD0.self (sz := s.heap.size)
  have hb := body p e s m below meth c (va_A w0.flatten s.heap.size) ⟨B.exec, B.bytes, hml, B.returns, hown, fun w h => hts w (List.mem_cons_of_mem _ h), hK, B.notSynchronized, fun q h => Or.inr h, rfl, hN, hSt⟩ hX hex
  have hlq := lv_entry av (n := maxL) hl
  rw [hlv] at hlq
  rw [lg_entry_eq]
  exact hb s.heap [] _ hP hD va_S.rf (by rw [hml]; exact hlq)
def rm_WP_lookX : Room := { frames := 6, cells := 1, slots := 6, locals := 90 }
set_option maxRecDepth 100000 in
theorem c_WP_lookX0 (l : Launch) (g : jG) (a : Nat → Nat) (re_z : jZ) (ta_z : jZ) (ro_z : jZ) (ki_z : jZ) (ru_z : jZ) (ru_y : jY) (no_z : jZ) (sro_z : jZ) (ski_z : jZ) (sru_z : jZ) (sru_y : jY) (sno_z : jZ) (od_z : jZ) (od_y : jY) (lu_z : jZ) (lu_y : jY) (fa_z : jZ) (fod_z : jZ) (fod_y : jY) (ho_z : jZ) (po_z : jZ) (pod_z : jZ) (pod_y : jY) (x1 : Int32) (x2 : Int32) (hst9 : l.stackTraces = false) (h0 : f_Road_has ro_z x1 = some 0) : XM l g yX11_look cX11_look 3 (some .int) rm_WP_lookX [.ref (a 0), .int x1, .int x2] ([n_WP g a , n_Reader g (fun i => a (i + 1)) re_z, n_Tape g (fun i => a (i + 4)) ta_z, n_Road g (fun i => a (i + 6)) ro_z, n_Kinds g (fun i => a (i + 14)) ki_z, n_Rule g (fun i => a (i + 20)) ru_z ru_y, n_Notes g (fun i => a (i + 23)) no_z, n_Road g (fun i => a (i + 30)) sro_z, n_Kinds g (fun i => a (i + 38)) ski_z, n_Rule g (fun i => a (i + 44)) sru_z sru_y, n_Notes g (fun i => a (i + 47)) sno_z, n_Odds g (fun i => a (i + 54)) od_z od_y, n_Luck g (fun i => a (i + 57)) lu_z lu_y, n_Falls g (fun i => a (i + 59)) fa_z, n_Odds g (fun i => a (i + 60)) fod_z fod_y, n_House g (fun i => a (i + 63)) ho_z, n_Poles g (fun i => a (i + 64)) po_z, n_Odds g (fun i => a (i + 69)) pod_z pod_y] : List va_W) IOB 1 6 := by
  refine XM_of (own := RX11) (lv := [(0, .ref (a 0)), (1, .int x1), (2, .int x2)]) (by decide) rfl (Nat.le_of_ble_eq_true rfl) rfl (fun p e s m below meth c A hE hX hex => ?_)
  refine j_aload_n hE dX11_look_0 rfl 0 rfl ?_
  refine j_get (v := .ref (a 6)) hE lg_WP_21 0 rfl 0 (wg_WP_0 g a ) rfl dX11_look_1 ?_
  refine j_iload_n hE dX11_look_4 rfl 1 rfl ?_
  refine j_callV (ws' := ([n_WP g a , n_Reader g (fun i => a (i + 1)) re_z, n_Tape g (fun i => a (i + 4)) ta_z, n_Road g (fun i => a (i + 6)) ro_z, n_Kinds g (fun i => a (i + 14)) ki_z, n_Rule g (fun i => a (i + 20)) ru_z ru_y, n_Notes g (fun i => a (i + 23)) no_z, n_Road g (fun i => a (i + 30)) sro_z, n_Kinds g (fun i => a (i + 38)) ski_z, n_Rule g (fun i => a (i + 44)) sru_z sru_y, n_Notes g (fun i => a (i + 47)) sno_z, n_Odds g (fun i => a (i + 54)) od_z od_y, n_Luck g (fun i => a (i + 57)) lu_z lu_y, n_Falls g (fun i => a (i + 59)) fa_z, n_Odds g (fun i => a (i + 60)) fod_z fod_y, n_House g (fun i => a (i + 63)) ho_z, n_Poles g (fun i => a (i + 64)) po_z, n_Odds g (fun i => a (i + 69)) pod_z pod_y] : List va_W)) (As := [.int x1]) (rest := []) (st2 := [.int 0]) hE (fun l => c_Road_has l g (fun i => a (i + 6)) ro_z ki_z ru_z ru_y no_z x1 0 h0) cd_X8_has cv_X8_has ml_WP_114 rfl rfl rfl (wg_Road_0 _ _ _) ⟨⟨Nat.le_of_ble_eq_true rfl, Nat.le_of_ble_eq_true rfl⟩, ⟨Nat.zero_le _, Nat.zero_le _⟩, rfl, rfl⟩ [3, 4, 5, 6] rfl rfl rfl (Nat.le_of_ble_eq_true rfl) rfl dX11_look_5 ?_
  refine j_if_ne (tgt := 21) (a := some ()) (b := some ()) (r := ()) hE (by rfl) dX11_look_8 (by decide) (fun c3 _ => absurd rfl c3) (fun c3 _ => ?_)
  obtain ⟨hx, hb, hml, hr, hown, hts, hK, hlk, hA, -, hN, hSt⟩ := hE
  intro H locs ls hP hD hS hL
  refine vx_throwS (own := RX11) (cls := IOB) (names := exN) (ik := 118) (is := 120) (ic := 122) (A := A) hx hb hst9 hown (by decide +kernel) (by decide +kernel) (hts _ (tb_in lx_k0 (by decide +kernel))) (hts _ (tb_in lx_i0 (by decide +kernel))) hSt.2.1 (vx_hat (fun w hw => hts w (lx_t lx_0 w hw)) lx_b0 (vx_c (hX.2.2.1.1.use rfl) (vx_c (hX.2.2.2.1.1.use rfl) (vx_c (hX.2.2.2.1.2.1.use rfl) (vx_c (hX.2.2.2.1.2.2.use rfl) vx_n))))) lx_o0 hX.1 hX.2.1 hS hL.1 dX11_look_11 dX11_look_14 dX11_look_15 dX11_look_17 dX11_look_20 (fun x hx => (hex x hx).elim) (by decide) (by decide) (by decide) (by decide) hlk (fun t hv hsz hq => ?_) hS.2.2 (by decide) (by decide)
  refine ⟨(), trivial, ⟨rfl, hP.kept (fun k q hk => hq _ (vx_lt hP hk))⟩, Nat.le_trans hS.1 hsz, fun q h1 h2 => ?_⟩
  rw [hq q (Nat.lt_of_lt_of_le h1 hS.1)]
  exact hS.2.1 q h1 h2
