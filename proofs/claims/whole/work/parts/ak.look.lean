def jXE (E : jT) : Prop := match E with
  | (p, l, e, R, s, m, args, below, meth, c, Q, A) => l.stackTraces = false ∧ jX A s s.heap
def lwV (g : jG) (a : Nat → Nat) (o : Nat) (re : jZ) (ta : jZ) (ro : jZ) (ki : jZ) (ru : jZ) (ruy : jY) (no : jZ) (sro : jZ) (ski : jZ) (sru : jZ) (sruy : jY) (sno : jZ) (od : jZ) (ody : jY) (lu : jZ) (luy : jY) (fa : jZ) (fod : jZ) (fody : jY) (ho : jZ) (po : jZ) (pod : jZ) (pody : jY) (f : Nat → Int64) : List va_W := [n_WP g a , n_Reader g (fun i => a (i + 1)) re, n_Tape g (fun i => a (i + 4)) ta, n_Road g (fun i => a (i + 6)) ro, n_Kinds g (fun i => a (i + 14)) ki, n_Rule g (fun i => a (i + 20)) ru ruy, n_Notes g (fun i => a (i + 23)) no, n_Road g (fun i => a (i + 30)) sro, n_Kinds g (fun i => a (i + 38)) ski, n_Rule g (fun i => a (i + 44)) sru sruy, n_Notes g (fun i => a (i + 47)) sno, n_Odds g (fun i => a (i + 54)) od ody, n_Luck g (fun i => a (i + 57)) lu luy, n_Falls g (fun i => a (i + 59)) fa, n_Odds g (fun i => a (i + 60)) fod fody, n_House g (fun i => a (i + 63)) ho, n_Poles g (fun i => a (i + 64)) po, n_Odds g (fun i => a (i + 69)) pod pody, n_Out g o f]
theorem cw_L_look : Cond.codeWith yL_look cL_look 5 (some .int) hhL ∈ tb := tb_in (by decide +kernel) (by decide +kernel)
theorem in_L : Cond.initialized RL ∈ tb := tb_in (by decide +kernel) (by decide +kernel)
theorem st_L_look : Cond.static yL_look ∈ tb := tb_in (by decide +kernel) (by decide +kernel)
/-- the class's look, where it answers -/
theorem wp_look {ro mo : jZ} (hp : iPlaces ro mo) (x1 x2 r : Int32) (c1 : 0 ≤ x1.toInt ∧ x1.toInt < (mo 4 0).toInt) (c2 : 0 ≤ x2.toInt ∧ x2.toInt ≤ 5) (h : r = (if x2 = 0 then ro 9 x1.toInt.toNat else if x2 = 1 then (if ro 10 x1.toInt.toNat = 0 then 0 else 1) else if x2 = 2 then ro 11 x1.toInt.toNat else if x2 = 3 then ro 12 x1.toInt.toNat else if x2 = 4 then ro 13 x1.toInt.toNat else ro 14 x1.toInt.toNat)) : f_WP_look ro x1 x2 = some r := by
  have e7 := hp.1
  have e12 := hp.2.2.1
  have hh : f_Road_has ro x1 = some 1 := by rw [has_eq, if_pos (by rw [e7]; omega)]
  have hx : ix x1 12 = some x1.toInt.toNat := by
    unfold ix
    rw [if_neg (by rw [i_lt, i_tn]; have : (0 : Int32).toInt = 0 := rfl; omega), i_tn]
  unfold f_WP_look
  rw [hh, Option.bind_some, if_neg (by decide), hx, h]
  simp only [Option.bind_some, i_tn]
  by_cases d0 : x2 = 0
  · rw [if_pos d0, if_pos d0]
  rw [if_neg d0, if_neg d0]
  by_cases d1 : x2 = 1
  · rw [if_pos d1, if_pos d1]
    by_cases d9 : ro 10 x1.toInt.toNat = 0
    · rw [if_pos d9, if_pos d9]
    · rw [if_neg d9, if_neg d9]
  rw [if_neg d1, if_neg d1]
  by_cases d2 : x2 = 2
  · rw [if_pos d2, if_pos d2]
  rw [if_neg d2, if_neg d2]
  by_cases d3 : x2 = 3
  · rw [if_pos d3, if_pos d3]
  rw [if_neg d3, if_neg d3]
  by_cases d4 : x2 = 4
  · rw [if_pos d4, if_pos d4]
  rw [if_neg d4, if_neg d4]
  have q0 : (0 : Int32).toInt = 0 := rfl
  have q1 : (1 : Int32).toInt = 1 := rfl
  have q2 : (2 : Int32).toInt = 2 := rfl
  have q3 : (3 : Int32).toInt = 3 := rfl
  have q4 : (4 : Int32).toInt = 4 := rfl
  have q5 : (5 : Int32).toInt = 5 := rfl
  rw [i_eq] at d0 d1 d2 d3 d4
  rw [if_pos (by rw [i_eq]; omega)]
theorem lw_look {l : Launch} (hst : l.stackTraces = false) (g : jG) (a : Nat → Nat) (o : Nat) (re : jZ) (ta : jZ) (ro : jZ) (ki : jZ) (ru : jZ) (ruy : jY) (no : jZ) (sro : jZ) (ski : jZ) (sru : jZ) (sruy : jY) (sno : jZ) (od : jZ) (ody : jY) (lu : jZ) (luy : jY) (fa : jZ) (fod : jZ) (fody : jY) (ho : jZ) (po : jZ) (pod : jZ) (pody : jY) (mo : jZ) (out : Nat → Int64) (hp : iPlaces ro mo) (x1 x2 : Int32) : ∃ (k : Int32) (f2 : Nat → Int64) (m2 : jZ) (r : Int32), f_Mo_look mo x1 x2 = some (m2, r) ∧ (∀ q, q ≠ 0 → m2 q = mo q) ∧ m2 0 0 = k ∧ (k = 0 → f2 0 = r.toInt64) ∧ LC l g rm_L_look [.ref (a 0), .int x1, .int x2, .ref o] (lwV g a o re ta ro ki ru ruy no sro ski sru sruy sno od ody lu luy fa fod fody ho po pod pody out) (some (.int k)) (lwV g a o re ta ro ki ru ruy no sro ski sru sruy sno od ody lu luy fa fod fody ho po pod pody f2) := by
  obtain ⟨m2, r, h2, h3, h4, h5⟩ := op_look hp x1 x2
  have e7 := hp.1
  have e12 := hp.2.2.1
  by_cases c1 : 0 ≤ x1.toInt ∧ x1.toInt < (mo 4 0).toInt
  · rw [if_pos c1] at h4
    by_cases c2 : 0 ≤ x2.toInt ∧ x2.toInt ≤ 5
    · rw [if_pos c2] at h4
      exact ⟨0, vp_updL out 0 r.toInt64, m2, r, h2, h3, h4, fun _ => rfl, c_L_look0 l g a re ta ro ki ru ruy no sro ski sru sruy sno od ody lu luy fa fod fody ho po pod pody o out x1 x2 r (wp_look hp x1 x2 r c1 c2 (h5 ⟨c1, c2⟩))⟩
    · rw [if_neg c2] at h4
      exact ⟨2, out, m2, r, h2, h3, h4, fun h => absurd h (by decide), c_L_lookX1 l g a re ta ro ki ru ruy no sro ski sru sruy sno od ody lu luy fa fod fody ho po pod pody o out x1 x2 hst 1 (by decide) (by rw [has_eq, if_pos (by rw [e7]; omega)]) (by omega)⟩
  · rw [if_neg c1] at h4
    exact ⟨1, out, m2, r, h2, h3, h4, fun h => absurd h (by decide), c_L_lookX0 l g a re ta ro ki ru ruy no sro ski sru sruy sno od ody lu luy fa fod fody ho po pod pody o out x1 x2 hst (by rw [has_eq, if_neg (by rw [e7]; omega)])⟩
set_option maxRecDepth 100000 in
theorem kl_look {E : jT} {g : jG} {kc ks b L o p0 q0 : Nat} {xs : Nat → Int32} {i : Int32} (hE : jOk E g RL code 7 ret room_1) (hX : jSc E b L xs) (hi : lwA i L) (hk : kc ≤ 601024) (hs : ks ≤ 7293034) (a am : Nat → Nat) (ha : a 0 = p0) (hm : am 0 = q0) (re : jZ) (ta : jZ) (ro : jZ) (ki : jZ) (ru : jZ) (ruy : jY) (no : jZ) (sro : jZ) (ski : jZ) (sru : jZ) (sruy : jY) (sno : jZ) (od : jZ) (ody : jY) (lu : jZ) (luy : jY) (fa : jZ) (fod : jZ) (fody : jY) (ho : jZ) (po : jZ) (pod : jZ) (pody : jY) (mo : jZ) (my : jY) (out : Nat → Int64) (I : lwI re ta ro ki ru no lu luy mo) (kk : lwK E g kc ks b p0 q0 o i) (hXE : jXE E) (hk2 : kc + 1 ≤ 601024) (hs2 : ks + 6 ≤ 7293034) : J E g kc ks (lwW g a am o re ta ro ki ru ruy no sro ski sru sruy sno od ody lu luy fa fod fody ho po pod pody mo my out) (lwL b p0 q0 o i) 312 [] := by
  subst ha
  subst hm
  obtain ⟨p, l, e, R, s, m, args, below, meth, c, Q, A⟩ := E
  obtain ⟨k, f2, m2, r, h2, h3, h4, h5, hM⟩ := lw_look hXE.1 g a o re ta ro ki ru ruy no sro ski sru sruy sno od ody lu luy fa fod fody ho po pod pody mo out I.ro (xs (i + 1).toNatClampNeg) (xs (i + 2).toNatClampNeg)
  refine j_aload_n hE dL_law_312 rfl 3 rfl ?_
  refine lw_arg (v := 1) hE hX hi.1 4 0 rfl rfl dL_law_313 dL_law_314 dL_law_316 (by decide) dL_law_317 dL_law_318 ?_
  refine lw_arg (v := 2) hE hX hi.2.1 4 0 rfl rfl dL_law_319 dL_law_320 dL_law_322 (by decide) dL_law_323 dL_law_324 ?_
  refine j_aload_n hE dL_law_325 rfl 1 rfl ?_
  refine j_callLook (ws' := (lwW g a am o re ta ro ki ru ruy no sro ski sru sruy sno od ody lu luy fa fod fody ho po pod pody mo my f2)) (As := [.ref (a 0), .int (xs (i + 1).toNatClampNeg), .int (xs (i + 2).toNatClampNeg), .ref o]) (rest := []) (st2 := [.int k]) hE hXE.2 hM cw_L_look in_L st_L_look ml_L_39 rfl rfl ⟨⟨Nat.le_of_ble_eq_true rfl, Nat.le_of_ble_eq_true rfl⟩, ⟨hk2, hs2⟩, rfl, rfl⟩ [0, 1, 2, 3, 4, 5, 6, 7, 8, 9, 10, 11, 12, 13, 14, 15, 16, 17, 19] (pC19 _ _ _ _ _ _ _ _ _ _ _ _ _ _ _ _ _ _ _ _) pN19 (pW19 _ _ _ _ _ _ _ _ _ _ _ _ _ _ _ _ _ _ _ _ _ _ _ _ _ _ _ _ _ _ _ _ _ _ _ _ _ _ _) (Nat.le_of_ble_eq_true rfl) rfl dL_law_326 ?_
  refine j_istore (lv' := (5, .int k) :: lwL b (a 0) (am 0) o i) hE dL_law_329 (by decide) rfl ?_
  refine j_aload_n hE dL_law_331 rfl 3 rfl ?_
  refine lw_arg (v := 1) hE hX hi.1 5 1 rfl rfl dL_law_332 dL_law_333 dL_law_335 (by decide) dL_law_336 dL_law_337 ?_
  refine lw_arg (v := 2) hE hX hi.2.1 5 1 rfl rfl dL_law_338 dL_law_339 dL_law_341 (by decide) dL_law_342 dL_law_343 ?_
  refine j_callV (ws' := (lwW g a am o re ta ro ki ru ruy no sro ski sru sruy sno od ody lu luy fa fod fody ho po pod pody m2 my f2)) (As := [.int (xs (i + 1).toNatClampNeg), .int (xs (i + 2).toNatClampNeg)]) (rest := []) (st2 := [.int r]) hE (fun l => c_Mo_look l g am mo my (xs (i + 1).toNatClampNeg) (xs (i + 2).toNatClampNeg) (m2, r) h2) cd_X12_look cv_X12_look ml_L_44 rfl rfl rfl (wg_Mo_0 g am mo my) ⟨⟨Nat.le_of_ble_eq_true rfl, Nat.le_of_ble_eq_true rfl⟩, ⟨hk2, hs2⟩, rfl, rfl⟩ [18] (pC1 _ _ _ _ _ _ _ _ _ _ _ _ _ _ _ _ _ _ _ _) rfl (pW1 _ _ _ _ _ _ _ _ _ _ _ _ _ _ _ _ _ _ _ _ _) (Nat.le_of_ble_eq_true rfl) rfl dL_law_344 ?_
  refine j_istore (lv' := (6, .int r) :: (5, .int k) :: lwL b (a 0) (am 0) o i) hE dL_law_347 (by decide) rfl ?_
  refine j_aload_n hE dL_law_349 rfl 4 rfl ?_
  refine j_callV (ws' := (lwW g a am o re ta ro ki ru ruy no sro ski sru sruy sno od ody lu luy fa fod fody ho po pod pody m2 my f2)) (As := []) (rest := []) (st2 := [.int (m2 0 0)]) hE (fun l => c_Mo_thrown l g am m2 my (m2 0 0) rfl) cd_X12_thrown cv_X12_thrown ml_L_45 rfl rfl rfl (wg_Mo_0 g am m2 my) ⟨⟨Nat.le_of_ble_eq_true rfl, Nat.le_of_ble_eq_true rfl⟩, ⟨hk2, hs2⟩, rfl, rfl⟩ [18] (pC1 _ _ _ _ _ _ _ _ _ _ _ _ _ _ _ _ _ _ _ _) rfl (pW1 _ _ _ _ _ _ _ _ _ _ _ _ _ _ _ _ _ _ _ _ _) (Nat.le_of_ble_eq_true rfl) rfl dL_law_350 ?_
  refine j_iload hE dL_law_353 1 rfl ?_
  refine j_icmp_eq_t (tgt := 360) hE h4 dL_law_355 (by decide) ?_
  refine j_iload hE dL_law_360 1 rfl ?_
  have I2 : lwI re ta ro ki ru no lu luy m2 := I.rel (fun q hq => h3 q (by unfold mKeep at hq; omega))
  have kend : J (p, l, e, R, s, m, args, below, meth, c, Q, A) g (kc + 1) (ks + 6) (lwW g a am o re ta ro ki ru ruy no sro ski sru sruy sno od ody lu luy fa fod fody ho po pod pody m2 my f2) ((6, .int r) :: (5, .int k) :: lwL b (a 0) (am 0) o i) 377 [] := by
    refine j_goto hE dL_law_377 (tgt := 1171) (by decide) ?_
    exact j_sub (lv' := lwL b (a 0) (am 0) o i) [2, 3, 4, 5, 6] rfl (kk a am re ta ro ki ru ruy no sro ski sru sruy sno od ody lu luy fa fod fody ho po pod pody m2 my f2 rfl rfl I2)
  by_cases c0 : k = 0
  · refine j_if_ne_f hE c0 (tgt := 377) dL_law_362 (by decide) ?_
    refine j_aload_n hE dL_law_365 rfl 3 rfl ?_
    refine j_iconst (v := 0) hE dL_law_366 (by decide) ?_
    refine j_lald (n := 1) (f := f2) (w := n_Out g o f2) (k := fun _ => some ()) (r := ()) hE rfl 19 rfl 0 rfl dL_law_367 (fun _ => ?_)
    refine j_iload hE dL_law_368 0 rfl ?_
    refine j_i2l hE dL_law_370 ?_
    refine j_lcmp hE dL_law_371 ?_
    exact j_if_eq_t hE (by rw [show f2 (Int32.toNatClampNeg 0) = r.toInt64 from h5 c0]; exact lg_cmp_self _) dL_law_372 (by decide) kend
  · exact j_if_ne_t hE c0 dL_law_362 (by decide) kend
