abbrev hhL : List (Nat × Nat × Nat × Nat) := [(0, 10, 13, 13), (0, 10, 17, 15)]
theorem cd_X11_look : jCd yX11_look cX11_look 3 (some .int) 2 := ⟨tb_in (by decide +kernel) (by decide +kernel), tb_in (by decide +kernel) (by decide +kernel), by decide +kernel⟩
theorem cv_X11_look : jCv yX11_look 11 := ⟨tb_in (by decide +kernel) (by decide +kernel), _, _, rfl, tb_in (by decide +kernel) (by decide +kernel)⟩
theorem ml_L_7 : Cond.methodLink RL 7 yX11_look ∈ tb := tb_in (by decide +kernel) (by decide +kernel)
theorem cl_L_13 : Cond.classLink RL 13 IOB ∈ tb := tb_in (by decide +kernel) (by decide +kernel)
theorem cl_L_15 : Cond.classLink RL 15 NSE ∈ tb := tb_in (by decide +kernel) (by decide +kernel)
/-- the contract of the law's look -/
def LC (l : Launch) (g : jG) (rm : Room) (av : List Value) (w0 : List va_W) (v0 : Option Value) (w1 : List va_W) : Prop :=
  jAd w1 = jAd w0 ∧ ∀ sz : Nat, vx_Met l yL_look (.codeWith yL_look cL_look 5 (some .int) hhL :: tb) rm (va_Pc av (fun U => jPre g w0 sz U ∧ jX (va_A w0.flatten sz) U U.heap)) (jQ g v0 w1 (va_A w0.flatten sz)) (fun _ _ _ => False) 1 6 (va_A w0.flatten sz)
theorem LC_of {l : Launch} {g : jG} {rm : Room} {av : List Value} {w0 : List va_W} {v0 : Option Value} {w1 : List va_W} {lv : List (Nat × Value)} (hl : (lg_sl av).length ≤ 5) (hlv : lv_args 0 av = lv) (had : jAd w1 = jAd w0)
    (body : ∀ (p : Program) (e : Env) (s : State) (m : MethodId) (below : List Frame) (meth : Method) (c : Code) (A : Nat → Prop), jOk (p, l, e, rm, s, m, av.toArray, below, meth, c, MQ below (jQ g v0 w1 A) av.toArray s 1 6 A, A) g RL cL_look 5 (some .int) rm → jX A s s.heap → c.exceptionTable.toList.map (fun h => (h.startPc, h.endPc, h.handlerPc, h.catchType)) = hhL → J (p, l, e, rm, s, m, av.toArray, below, meth, c, MQ below (jQ g v0 w1 A) av.toArray s 1 6 A, A) g 0 0 w0 lv 0 []) : LC l g rm av w0 v0 w1 := by
  refine ⟨had, fun sz => ?_⟩
  refine vx_ofWH (cc := cL_look) (maxL := 5) (ret := some .int) (hh := hhL) (ws' := tb) (by decide) rfl ?_
  intro p e s m args below meth c s₁ B hml hv
  obtain ⟨rfl, ⟨hsz, hP, hK, hD0, hN, hSt⟩, hX⟩ := hv
  subst hsz
  have hts := atoms_spec (ws := .codeWith yL_look cL_look 5 (some .int) hhL :: tb) B.pre
  have hown : s.vm.findClass RL = some m.cls := findClass_of_methodNamed B.named
  have htab : c.exceptionTable.toList.map (fun h => (h.startPc, h.endPc, h.handlerPc, h.catchType)) = hhL := by
    obtain ⟨m9, meth9, c9, h0, h1, h2, -, -, h3, -⟩ := Cond.codeWith_spec (hts _ List.mem_cons_self)
    cases B.named.symm.trans h0
    cases Option.some.inj (h1.symm.trans B.method)
    cases Option.some.inj (h2.symm.trans (Stand.of_body B).code)
    exact h3
  have hD := hD0.self (sz := s.heap.size)
  have hb := body p e s m below meth c (va_A w0.flatten s.heap.size) ⟨B.exec, B.bytes, hml, B.returns, hown, fun w h => hts w (List.mem_cons_of_mem _ h), hK, B.notSynchronized, fun q h => Or.inr h, rfl, hN, hSt⟩ hX htab
  have hlq := lv_entry av (n := 5) hl
  rw [hlv] at hlq
  rw [lg_entry_eq]
  exact J_vx hb s.heap [] _ hP hD va_S.rf (by rw [hml]; exact hlq)
theorem tab2 {L : List ExceptionTableEntry} (h : L.map (fun h => (h.startPc, h.endPc, h.handlerPc, h.catchType)) = hhL) : L = [⟨0, 10, 13, 13⟩, ⟨0, 10, 17, 15⟩] := by
  match L, h with
  | [⟨a, b, c, d⟩, ⟨a', b', c', d'⟩], h =>
    simp only [List.map_cons, List.map_nil, hhL, List.cons.injEq, Prod.mk.injEq, and_true] at h
    obtain ⟨⟨rfl, rfl, rfl, rfl⟩, rfl, rfl, rfl, rfl⟩ := h
    rfl
def n_Out (g : jG) (o : Nat) (f : Nat → Int64) : va_W := [(o, .inl (g.2.2.2.1, 1, .inr (.inl f)))]
def rm_L_look : Room := { frames := 8, cells := 1, slots := 6, locals := 130 }
set_option maxRecDepth 100000 in
theorem c_L_lookX0 (l : Launch) (g : jG) (a : Nat → Nat) (re_z : jZ) (ta_z : jZ) (ro_z : jZ) (ki_z : jZ) (ru_z : jZ) (ru_y : jY) (no_z : jZ) (sro_z : jZ) (ski_z : jZ) (sru_z : jZ) (sru_y : jY) (sno_z : jZ) (od_z : jZ) (od_y : jY) (lu_z : jZ) (lu_y : jY) (fa_z : jZ) (fod_z : jZ) (fod_y : jY) (ho_z : jZ) (po_z : jZ) (pod_z : jZ) (pod_y : jY) (o : Nat) (f : Nat → Int64) (x1 : Int32) (x2 : Int32) (hst9 : l.stackTraces = false) (h0 : f_Road_has ro_z x1 = some 0) : LC l g rm_L_look [.ref (a 0), .int x1, .int x2, .ref o] ([n_WP g a , n_Reader g (fun i => a (i + 1)) re_z, n_Tape g (fun i => a (i + 4)) ta_z, n_Road g (fun i => a (i + 6)) ro_z, n_Kinds g (fun i => a (i + 14)) ki_z, n_Rule g (fun i => a (i + 20)) ru_z ru_y, n_Notes g (fun i => a (i + 23)) no_z, n_Road g (fun i => a (i + 30)) sro_z, n_Kinds g (fun i => a (i + 38)) ski_z, n_Rule g (fun i => a (i + 44)) sru_z sru_y, n_Notes g (fun i => a (i + 47)) sno_z, n_Odds g (fun i => a (i + 54)) od_z od_y, n_Luck g (fun i => a (i + 57)) lu_z lu_y, n_Falls g (fun i => a (i + 59)) fa_z, n_Odds g (fun i => a (i + 60)) fod_z fod_y, n_House g (fun i => a (i + 63)) ho_z, n_Poles g (fun i => a (i + 64)) po_z, n_Odds g (fun i => a (i + 69)) pod_z pod_y, n_Out g o f] : List va_W) (some (.int 1)) ([n_WP g a , n_Reader g (fun i => a (i + 1)) re_z, n_Tape g (fun i => a (i + 4)) ta_z, n_Road g (fun i => a (i + 6)) ro_z, n_Kinds g (fun i => a (i + 14)) ki_z, n_Rule g (fun i => a (i + 20)) ru_z ru_y, n_Notes g (fun i => a (i + 23)) no_z, n_Road g (fun i => a (i + 30)) sro_z, n_Kinds g (fun i => a (i + 38)) ski_z, n_Rule g (fun i => a (i + 44)) sru_z sru_y, n_Notes g (fun i => a (i + 47)) sno_z, n_Odds g (fun i => a (i + 54)) od_z od_y, n_Luck g (fun i => a (i + 57)) lu_z lu_y, n_Falls g (fun i => a (i + 59)) fa_z, n_Odds g (fun i => a (i + 60)) fod_z fod_y, n_House g (fun i => a (i + 63)) ho_z, n_Poles g (fun i => a (i + 64)) po_z, n_Odds g (fun i => a (i + 69)) pod_z pod_y, n_Out g o f] : List va_W) := by
  refine LC_of (lv := [(0, .ref (a 0)), (1, .int x1), (2, .int x2), (3, .ref o)]) (Nat.le_of_ble_eq_true rfl) rfl rfl (fun p e s m below meth c A hE hX htab => ?_)
  refine j_aload_n hE dL_look_0 rfl 3 rfl ?_
  refine j_iconst (v := 0) hE dL_look_1 (by decide) ?_
  refine j_aload_n hE dL_look_2 rfl 0 rfl ?_
  refine j_iload_n hE dL_look_3 rfl 1 rfl ?_
  refine j_iload_n hE dL_look_4 rfl 2 rfl ?_
  refine j_callVX (As := [.int x1, .int x2]) (rest := [.int 0, .ref o]) (X := IOB) (name := IOB) hE hX (c_WP_lookX0 l g a re_z ta_z ro_z ki_z ru_z ru_y no_z sro_z ski_z sru_z sru_y sno_z od_z od_y lu_z lu_y fa_z fod_z fod_y ho_z po_z pod_z pod_y x1 x2 hst9 h0) cd_X11_look cv_X11_look ml_L_7 rfl rfl rfl (wg_WP_0 g a) ⟨⟨Nat.le_of_ble_eq_true rfl, Nat.le_of_ble_eq_true rfl⟩, ⟨Nat.le_of_ble_eq_true rfl, Nat.le_of_ble_eq_true rfl⟩, rfl, rfl⟩ [0, 1, 2, 3, 4, 5, 6, 7, 8, 9, 10, 11, 12, 13, 14, 15, 16, 17] rfl rfl rfl (Nat.le_of_ble_eq_true rfl) dL_look_5 [] ⟨0, 10, 13, 13⟩ [⟨0, 10, 17, 15⟩] (tab2 htab) (fun z hz => nomatch hz) rfl (by decide) (hE.2.2.2.2.2.1 _ cl_L_13) (hX.2.2.1.1.use rfl) (fun q => ?_)
  refine j_astore hE dL_look_13 (by decide) rfl ?_
  refine j_iconst (v := 1) hE dL_look_15 (by decide) ?_
  exact j_iret hE rfl rfl rfl dL_look_16
set_option maxRecDepth 100000 in
theorem c_L_lookX1 (l : Launch) (g : jG) (a : Nat → Nat) (re_z : jZ) (ta_z : jZ) (ro_z : jZ) (ki_z : jZ) (ru_z : jZ) (ru_y : jY) (no_z : jZ) (sro_z : jZ) (ski_z : jZ) (sru_z : jZ) (sru_y : jY) (sno_z : jZ) (od_z : jZ) (od_y : jY) (lu_z : jZ) (lu_y : jY) (fa_z : jZ) (fod_z : jZ) (fod_y : jY) (ho_z : jZ) (po_z : jZ) (pod_z : jZ) (pod_y : jY) (o : Nat) (f : Nat → Int64) (x1 : Int32) (x2 : Int32) (hst9 : l.stackTraces = false) (q1 : Int32) (hq1 : ¬ q1 = 0) (h0 : f_Road_has ro_z x1 = some q1) (hx2 : x2.toInt < 0 ∨ 5 < x2.toInt) : LC l g rm_L_look [.ref (a 0), .int x1, .int x2, .ref o] ([n_WP g a , n_Reader g (fun i => a (i + 1)) re_z, n_Tape g (fun i => a (i + 4)) ta_z, n_Road g (fun i => a (i + 6)) ro_z, n_Kinds g (fun i => a (i + 14)) ki_z, n_Rule g (fun i => a (i + 20)) ru_z ru_y, n_Notes g (fun i => a (i + 23)) no_z, n_Road g (fun i => a (i + 30)) sro_z, n_Kinds g (fun i => a (i + 38)) ski_z, n_Rule g (fun i => a (i + 44)) sru_z sru_y, n_Notes g (fun i => a (i + 47)) sno_z, n_Odds g (fun i => a (i + 54)) od_z od_y, n_Luck g (fun i => a (i + 57)) lu_z lu_y, n_Falls g (fun i => a (i + 59)) fa_z, n_Odds g (fun i => a (i + 60)) fod_z fod_y, n_House g (fun i => a (i + 63)) ho_z, n_Poles g (fun i => a (i + 64)) po_z, n_Odds g (fun i => a (i + 69)) pod_z pod_y, n_Out g o f] : List va_W) (some (.int 2)) ([n_WP g a , n_Reader g (fun i => a (i + 1)) re_z, n_Tape g (fun i => a (i + 4)) ta_z, n_Road g (fun i => a (i + 6)) ro_z, n_Kinds g (fun i => a (i + 14)) ki_z, n_Rule g (fun i => a (i + 20)) ru_z ru_y, n_Notes g (fun i => a (i + 23)) no_z, n_Road g (fun i => a (i + 30)) sro_z, n_Kinds g (fun i => a (i + 38)) ski_z, n_Rule g (fun i => a (i + 44)) sru_z sru_y, n_Notes g (fun i => a (i + 47)) sno_z, n_Odds g (fun i => a (i + 54)) od_z od_y, n_Luck g (fun i => a (i + 57)) lu_z lu_y, n_Falls g (fun i => a (i + 59)) fa_z, n_Odds g (fun i => a (i + 60)) fod_z fod_y, n_House g (fun i => a (i + 63)) ho_z, n_Poles g (fun i => a (i + 64)) po_z, n_Odds g (fun i => a (i + 69)) pod_z pod_y, n_Out g o f] : List va_W) := by
  refine LC_of (lv := [(0, .ref (a 0)), (1, .int x1), (2, .int x2), (3, .ref o)]) (Nat.le_of_ble_eq_true rfl) rfl rfl (fun p e s m below meth c A hE hX htab => ?_)
  refine j_aload_n hE dL_look_0 rfl 3 rfl ?_
  refine j_iconst (v := 0) hE dL_look_1 (by decide) ?_
  refine j_aload_n hE dL_look_2 rfl 0 rfl ?_
  refine j_iload_n hE dL_look_3 rfl 1 rfl ?_
  refine j_iload_n hE dL_look_4 rfl 2 rfl ?_
  refine j_callVX (As := [.int x1, .int x2]) (rest := [.int 0, .ref o]) (X := NSE) (name := NSE) hE hX (c_WP_lookX1 l g a re_z ta_z ro_z ki_z ru_z ru_y no_z sro_z ski_z sru_z sru_y sno_z od_z od_y lu_z lu_y fa_z fod_z fod_y ho_z po_z pod_z pod_y x1 x2 hst9 q1 hq1 h0 hx2) cd_X11_look cv_X11_look ml_L_7 rfl rfl rfl (wg_WP_0 g a) ⟨⟨Nat.le_of_ble_eq_true rfl, Nat.le_of_ble_eq_true rfl⟩, ⟨Nat.le_of_ble_eq_true rfl, Nat.le_of_ble_eq_true rfl⟩, rfl, rfl⟩ [0, 1, 2, 3, 4, 5, 6, 7, 8, 9, 10, 11, 12, 13, 14, 15, 16, 17] rfl rfl rfl (Nat.le_of_ble_eq_true rfl) dL_look_5 [⟨0, 10, 13, 13⟩] ⟨0, 10, 17, 15⟩ [] (tab2 htab) (fun z hz => Or.inr (by obtain rfl := List.mem_singleton.mp hz; exact ⟨by decide, IOB, hE.2.2.2.2.2.1 _ cl_L_13, hX.2.2.2.2⟩)) rfl (by decide) (hE.2.2.2.2.2.1 _ cl_L_15) (hX.2.2.1.2.use rfl) (fun q => ?_)
  refine j_astore hE dL_look_17 (by decide) rfl ?_
  refine j_iconst (v := 2) hE dL_look_19 (by decide) ?_
  exact j_iret hE rfl rfl rfl dL_look_20
set_option maxRecDepth 100000 in
theorem c_L_look0 (l : Launch) (g : jG) (a : Nat → Nat) (re_z : jZ) (ta_z : jZ) (ro_z : jZ) (ki_z : jZ) (ru_z : jZ) (ru_y : jY) (no_z : jZ) (sro_z : jZ) (ski_z : jZ) (sru_z : jZ) (sru_y : jY) (sno_z : jZ) (od_z : jZ) (od_y : jY) (lu_z : jZ) (lu_y : jY) (fa_z : jZ) (fod_z : jZ) (fod_y : jY) (ho_z : jZ) (po_z : jZ) (pod_z : jZ) (pod_y : jY) (o : Nat) (f : Nat → Int64) (x1 : Int32) (x2 : Int32) (res : Int32) (hf : f_WP_look ro_z x1 x2 = some res) : LC l g rm_L_look [.ref (a 0), .int x1, .int x2, .ref o] ([n_WP g a , n_Reader g (fun i => a (i + 1)) re_z, n_Tape g (fun i => a (i + 4)) ta_z, n_Road g (fun i => a (i + 6)) ro_z, n_Kinds g (fun i => a (i + 14)) ki_z, n_Rule g (fun i => a (i + 20)) ru_z ru_y, n_Notes g (fun i => a (i + 23)) no_z, n_Road g (fun i => a (i + 30)) sro_z, n_Kinds g (fun i => a (i + 38)) ski_z, n_Rule g (fun i => a (i + 44)) sru_z sru_y, n_Notes g (fun i => a (i + 47)) sno_z, n_Odds g (fun i => a (i + 54)) od_z od_y, n_Luck g (fun i => a (i + 57)) lu_z lu_y, n_Falls g (fun i => a (i + 59)) fa_z, n_Odds g (fun i => a (i + 60)) fod_z fod_y, n_House g (fun i => a (i + 63)) ho_z, n_Poles g (fun i => a (i + 64)) po_z, n_Odds g (fun i => a (i + 69)) pod_z pod_y, n_Out g o f] : List va_W) (some (.int 0)) ([n_WP g a , n_Reader g (fun i => a (i + 1)) re_z, n_Tape g (fun i => a (i + 4)) ta_z, n_Road g (fun i => a (i + 6)) ro_z, n_Kinds g (fun i => a (i + 14)) ki_z, n_Rule g (fun i => a (i + 20)) ru_z ru_y, n_Notes g (fun i => a (i + 23)) no_z, n_Road g (fun i => a (i + 30)) sro_z, n_Kinds g (fun i => a (i + 38)) ski_z, n_Rule g (fun i => a (i + 44)) sru_z sru_y, n_Notes g (fun i => a (i + 47)) sno_z, n_Odds g (fun i => a (i + 54)) od_z od_y, n_Luck g (fun i => a (i + 57)) lu_z lu_y, n_Falls g (fun i => a (i + 59)) fa_z, n_Odds g (fun i => a (i + 60)) fod_z fod_y, n_House g (fun i => a (i + 63)) ho_z, n_Poles g (fun i => a (i + 64)) po_z, n_Odds g (fun i => a (i + 69)) pod_z pod_y, n_Out g o (vp_updL f 0 res.toInt64)] : List va_W) := by
  refine LC_of (lv := [(0, .ref (a 0)), (1, .int x1), (2, .int x2), (3, .ref o)]) (Nat.le_of_ble_eq_true rfl) rfl rfl (fun p e s m below meth c A hE hX htab => ?_)
  refine j_aload_n hE dL_look_0 rfl 3 rfl ?_
  refine j_iconst (v := 0) hE dL_look_1 (by decide) ?_
  refine j_aload_n hE dL_look_2 rfl 0 rfl ?_
  refine j_iload_n hE dL_look_3 rfl 1 rfl ?_
  refine j_iload_n hE dL_look_4 rfl 2 rfl ?_
  refine j_callV (ws' := ([n_WP g a , n_Reader g (fun i => a (i + 1)) re_z, n_Tape g (fun i => a (i + 4)) ta_z, n_Road g (fun i => a (i + 6)) ro_z, n_Kinds g (fun i => a (i + 14)) ki_z, n_Rule g (fun i => a (i + 20)) ru_z ru_y, n_Notes g (fun i => a (i + 23)) no_z, n_Road g (fun i => a (i + 30)) sro_z, n_Kinds g (fun i => a (i + 38)) ski_z, n_Rule g (fun i => a (i + 44)) sru_z sru_y, n_Notes g (fun i => a (i + 47)) sno_z, n_Odds g (fun i => a (i + 54)) od_z od_y, n_Luck g (fun i => a (i + 57)) lu_z lu_y, n_Falls g (fun i => a (i + 59)) fa_z, n_Odds g (fun i => a (i + 60)) fod_z fod_y, n_House g (fun i => a (i + 63)) ho_z, n_Poles g (fun i => a (i + 64)) po_z, n_Odds g (fun i => a (i + 69)) pod_z pod_y, n_Out g o f] : List va_W)) (As := [.int x1, .int x2]) (rest := [.int 0, .ref o]) (st2 := [.int res, .int 0, .ref o]) hE (fun l => c_WP_look l g a re_z ta_z ro_z ki_z ru_z ru_y no_z sro_z ski_z sru_z sru_y sno_z od_z od_y lu_z lu_y fa_z fod_z fod_y ho_z po_z pod_z pod_y x1 x2 res hf) cd_X11_look cv_X11_look ml_L_7 rfl rfl rfl (wg_WP_0 g a) ⟨⟨Nat.le_of_ble_eq_true rfl, Nat.le_of_ble_eq_true rfl⟩, ⟨Nat.zero_le _, Nat.zero_le _⟩, rfl, rfl⟩ [0, 1, 2, 3, 4, 5, 6, 7, 8, 9, 10, 11, 12, 13, 14, 15, 16, 17] rfl rfl rfl (Nat.le_of_ble_eq_true rfl) rfl dL_look_5 ?_
  refine j_i2l hE dL_look_8 ?_
  refine j_last (ws' := ([n_WP g a , n_Reader g (fun i => a (i + 1)) re_z, n_Tape g (fun i => a (i + 4)) ta_z, n_Road g (fun i => a (i + 6)) ro_z, n_Kinds g (fun i => a (i + 14)) ki_z, n_Rule g (fun i => a (i + 20)) ru_z ru_y, n_Notes g (fun i => a (i + 23)) no_z, n_Road g (fun i => a (i + 30)) sro_z, n_Kinds g (fun i => a (i + 38)) ski_z, n_Rule g (fun i => a (i + 44)) sru_z sru_y, n_Notes g (fun i => a (i + 47)) sno_z, n_Odds g (fun i => a (i + 54)) od_z od_y, n_Luck g (fun i => a (i + 57)) lu_z lu_y, n_Falls g (fun i => a (i + 59)) fa_z, n_Odds g (fun i => a (i + 60)) fod_z fod_y, n_House g (fun i => a (i + 63)) ho_z, n_Poles g (fun i => a (i + 64)) po_z, n_Odds g (fun i => a (i + 69)) pod_z pod_y, n_Out g o (vp_updL f 0 res.toInt64)] : List va_W)) (α := Unit) (r := ()) (k := fun _ => some ()) hE (by rfl) 18 rfl 0 rfl rfl rfl dL_look_9 (fun _ => ?_)
  refine j_goto (tgt := 21) hE dL_look_10 (by decide) ?_
  refine j_iconst (v := 0) hE dL_look_21 (by decide) ?_
  refine J_wide (Nat.zero_le 1) (Nat.zero_le 6) ?_
  exact j_iret hE rfl rfl rfl dL_look_22
