def rm_WP_fall : Room := { frames := 5, cells := 0, slots := 0, locals := 133 }
def f_WP_fall (ro_z : jZ) (ki_z : jZ) (no_z : jZ) (fa_z : jZ) (fod_y : jY) (x1 : Int32) (x2 : Int32) : Option (jZ × jY × Int32) := (f_Road_has ro_z x1).bind fun q1 => (if q1 = 0 then some (fa_z, fod_y, (-2147483648))
    else (f_Falls_part fa_z fod_y ro_z ki_z no_z x1).bind fun q4 => (if q4.2.2 = 0 then some (q4.1, q4.2.1, (-2147483648))
    else (if x2 = 0 then some (q4.1, q4.2.1, (q4.1 3 0))
    else (if x2 = 1 then some (q4.1, q4.2.1, (q4.1 4 0))
    else (if x2 = 2 then some (q4.1, q4.2.1, (q4.1 6 0))
    else (if x2 = 3 then some (q4.1, q4.2.1, (q4.1 7 0))
    else (if x2 = 4 then some (q4.1, q4.2.1, (q4.1 8 0))
    else (if x2 = 5 then some (q4.1, q4.2.1, (q4.1 9 0))
    else (if x2 = 6 then some (q4.1, q4.2.1, (q4.1 10 0))
    else (if x2 = 7 then some (q4.1, q4.2.1, ((q4.1 9 0) - (q4.1 10 0)))
    else (if x2 = 8 then some (q4.1, q4.2.1, (q4.1 5 0))
    else some (q4.1, q4.2.1, (-2147483648)))))))))))))
set_option maxRecDepth 100000 in
theorem c_WP_fall (l : Launch) (g : jG) (a : Nat → Nat) (re_z : jZ) (ta_z : jZ) (ro_z : jZ) (ki_z : jZ) (ru_z : jZ) (ru_y : jY) (no_z : jZ) (sro_z : jZ) (ski_z : jZ) (sru_z : jZ) (sru_y : jY) (sno_z : jZ) (od_z : jZ) (od_y : jY) (lu_z : jZ) (lu_y : jY) (fa_z : jZ) (fod_z : jZ) (fod_y : jY) (ho_z : jZ) (po_z : jZ) (pod_z : jZ) (pod_y : jY) (x1 : Int32) (x2 : Int32) (res : jZ × jY × Int32) (hf : f_WP_fall ro_z ki_z no_z fa_z fod_y x1 x2 = some res) : MC l g yX11_fall cX11_fall 3 (some .int) rm_WP_fall [.ref (a 0), .int x1, .int x2] (([n_WP g a , n_Reader g (fun i => a (i + 1)) re_z, n_Tape g (fun i => a (i + 4)) ta_z, n_Road g (fun i => a (i + 6)) ro_z, n_Kinds g (fun i => a (i + 14)) ki_z, n_Rule g (fun i => a (i + 20)) ru_z ru_y, n_Notes g (fun i => a (i + 23)) no_z, n_Road g (fun i => a (i + 30)) sro_z, n_Kinds g (fun i => a (i + 38)) ski_z, n_Rule g (fun i => a (i + 44)) sru_z sru_y, n_Notes g (fun i => a (i + 47)) sno_z, n_Odds g (fun i => a (i + 54)) od_z od_y, n_Luck g (fun i => a (i + 57)) lu_z lu_y, n_Falls g (fun i => a (i + 59)) fa_z, n_Odds g (fun i => a (i + 60)) fod_z fod_y, n_House g (fun i => a (i + 63)) ho_z, n_Poles g (fun i => a (i + 64)) po_z, n_Odds g (fun i => a (i + 69)) pod_z pod_y] : List va_W)) (some (.int res.2.2)) (([n_WP g a , n_Reader g (fun i => a (i + 1)) re_z, n_Tape g (fun i => a (i + 4)) ta_z, n_Road g (fun i => a (i + 6)) ro_z, n_Kinds g (fun i => a (i + 14)) ki_z, n_Rule g (fun i => a (i + 20)) ru_z ru_y, n_Notes g (fun i => a (i + 23)) no_z, n_Road g (fun i => a (i + 30)) sro_z, n_Kinds g (fun i => a (i + 38)) ski_z, n_Rule g (fun i => a (i + 44)) sru_z sru_y, n_Notes g (fun i => a (i + 47)) sno_z, n_Odds g (fun i => a (i + 54)) od_z od_y, n_Luck g (fun i => a (i + 57)) lu_z lu_y, n_Falls g (fun i => a (i + 59)) res.1, n_Odds g (fun i => a (i + 60)) fod_z res.2.1, n_House g (fun i => a (i + 63)) ho_z, n_Poles g (fun i => a (i + 64)) po_z, n_Odds g (fun i => a (i + 69)) pod_z pod_y] : List va_W)) 0 0 := by
  refine MC_of (own := RX11) (lv := [(0, .ref (a 0)), (1, .int x1), (2, .int x2)]) (by decide) rfl (Nat.le_of_ble_eq_true rfl) rfl rfl (fun E hE hq => ?_)
  unfold f_WP_fall at hf
  refine j_aload_n hE dX11_fall_0 rfl 0 rfl ?_
  refine j_get (v := .ref (a 6)) hE lg_WP_21 0 rfl 0 (wg_WP_0 g a ) rfl dX11_fall_1 ?_
  refine j_iload_n hE dX11_fall_4 rfl 1 rfl ?_
  obtain ⟨q1, hc2, hf⟩ := bind_of hf
  refine j_callV (ws' := ([n_WP g a , n_Reader g (fun i => a (i + 1)) re_z, n_Tape g (fun i => a (i + 4)) ta_z, n_Road g (fun i => a (i + 6)) ro_z, n_Kinds g (fun i => a (i + 14)) ki_z, n_Rule g (fun i => a (i + 20)) ru_z ru_y, n_Notes g (fun i => a (i + 23)) no_z, n_Road g (fun i => a (i + 30)) sro_z, n_Kinds g (fun i => a (i + 38)) ski_z, n_Rule g (fun i => a (i + 44)) sru_z sru_y, n_Notes g (fun i => a (i + 47)) sno_z, n_Odds g (fun i => a (i + 54)) od_z od_y, n_Luck g (fun i => a (i + 57)) lu_z lu_y, n_Falls g (fun i => a (i + 59)) fa_z, n_Odds g (fun i => a (i + 60)) fod_z fod_y, n_House g (fun i => a (i + 63)) ho_z, n_Poles g (fun i => a (i + 64)) po_z, n_Odds g (fun i => a (i + 69)) pod_z pod_y] : List va_W)) (As := [.int x1]) (rest := []) (st2 := [.int q1]) hE (fun l => c_Road_has l g (fun i => a (i + 6)) ro_z ki_z ru_z ru_y no_z x1 q1 hc2) cd_X8_has cv_X8_has ml_WP_114 rfl rfl rfl (wg_Road_0 _ _ _) ⟨⟨Nat.le_of_ble_eq_true rfl, Nat.le_of_ble_eq_true rfl⟩, ⟨Nat.zero_le _, Nat.zero_le _⟩, rfl, rfl⟩ [3, 4, 5, 6] rfl rfl rfl (Nat.le_of_ble_eq_true rfl) rfl dX11_fall_5 ?_
  refine j_if_eq (tgt := 26) hE hf dX11_fall_8 (by decide) (fun c3 hf => ?_) (fun c3 hf => ?_)
  · refine j_ldc hE co_WP_236 dX11_fall_26 ?_
    obtain rfl := Option.some.inj hf
    exact j_iret hE hq rfl rfl dX11_fall_28
  · refine j_aload_n hE dX11_fall_11 rfl 0 rfl ?_
    refine j_get (v := .ref (a 59)) hE lg_WP_45 0 rfl 0 (wg_WP_0 g a ) rfl dX11_fall_12 ?_
    refine j_aload_n hE dX11_fall_15 rfl 0 rfl ?_
    refine j_get (v := .ref (a 6)) hE lg_WP_21 0 rfl 0 (wg_WP_0 g a ) rfl dX11_fall_16 ?_
    refine j_iload_n hE dX11_fall_19 rfl 1 rfl ?_
    obtain ⟨q4, hc5, hf⟩ := bind_of hf
    refine j_callV (ws' := ([n_WP g a , n_Reader g (fun i => a (i + 1)) re_z, n_Tape g (fun i => a (i + 4)) ta_z, n_Road g (fun i => a (i + 6)) ro_z, n_Kinds g (fun i => a (i + 14)) ki_z, n_Rule g (fun i => a (i + 20)) ru_z ru_y, n_Notes g (fun i => a (i + 23)) no_z, n_Road g (fun i => a (i + 30)) sro_z, n_Kinds g (fun i => a (i + 38)) ski_z, n_Rule g (fun i => a (i + 44)) sru_z sru_y, n_Notes g (fun i => a (i + 47)) sno_z, n_Odds g (fun i => a (i + 54)) od_z od_y, n_Luck g (fun i => a (i + 57)) lu_z lu_y, n_Falls g (fun i => a (i + 59)) q4.1, n_Odds g (fun i => a (i + 60)) fod_z q4.2.1, n_House g (fun i => a (i + 63)) ho_z, n_Poles g (fun i => a (i + 64)) po_z, n_Odds g (fun i => a (i + 69)) pod_z pod_y] : List va_W)) (As := [.ref (a 6), .int x1]) (rest := []) (st2 := [.int q4.2.2]) hE (fun l => c_Falls_part l g (fun i => a (i + 59)) (fun i => a (i + 6)) fa_z fod_z fod_y ro_z ki_z ru_z ru_y no_z x1 q4 hc5) cd_X0_part cv_X0_part ml_WP_232 rfl rfl rfl (wg_Falls_0 _ _ _) ⟨⟨Nat.le_of_ble_eq_true rfl, Nat.le_of_ble_eq_true rfl⟩, ⟨Nat.zero_le _, Nat.zero_le _⟩, rfl, rfl⟩ [13, 14, 3, 4, 5, 6] rfl rfl rfl (Nat.le_of_ble_eq_true rfl) rfl dX11_fall_20 ?_
    refine j_if_ne (tgt := 29) hE hf dX11_fall_23 (by decide) (fun c6 hf => ?_) (fun c6 hf => ?_)
    · refine j_iload_n hE dX11_fall_29 rfl 2 rfl ?_
      refine j_case hf (fun c7 hf => ?_) (fun c7 hf => ?_)
      · refine j_tableIn (tgt := 80) hE dX11_fall_30 (by rw [c7]; decide) (by rw [c7]; decide) (by rw [c7]; try rfl) (by decide) ?_
        refine j_aload_n hE dX11_fall_80 rfl 0 rfl ?_
        refine j_get (v := .ref (a 59)) hE lg_WP_45 0 rfl 0 (wg_WP_0 g a ) rfl dX11_fall_81 ?_
        refine j_get (v := .int (q4.1 3 0)) hE lg_WP_237 13 rfl 0 (wg_Falls_0 g (fun i => a (i + 59)) q4.1) rfl dX11_fall_84 ?_
        obtain rfl := Option.some.inj hf
        exact j_iret hE hq rfl rfl dX11_fall_87
      refine j_case hf (fun c8 hf => ?_) (fun c8 hf => ?_)
      · refine j_tableIn (tgt := 88) hE dX11_fall_30 (by rw [c8]; decide) (by rw [c8]; decide) (by rw [c8]; try rfl) (by decide) ?_
        refine j_aload_n hE dX11_fall_88 rfl 0 rfl ?_
        refine j_get (v := .ref (a 59)) hE lg_WP_45 0 rfl 0 (wg_WP_0 g a ) rfl dX11_fall_89 ?_
        refine j_get (v := .int (q4.1 4 0)) hE lg_WP_240 13 rfl 0 (wg_Falls_0 g (fun i => a (i + 59)) q4.1) rfl dX11_fall_92 ?_
        obtain rfl := Option.some.inj hf
        exact j_iret hE hq rfl rfl dX11_fall_95
      refine j_case hf (fun c9 hf => ?_) (fun c9 hf => ?_)
      · refine j_tableIn (tgt := 96) hE dX11_fall_30 (by rw [c9]; decide) (by rw [c9]; decide) (by rw [c9]; try rfl) (by decide) ?_
        refine j_aload_n hE dX11_fall_96 rfl 0 rfl ?_
        refine j_get (v := .ref (a 59)) hE lg_WP_45 0 rfl 0 (wg_WP_0 g a ) rfl dX11_fall_97 ?_
        refine j_get (v := .int (q4.1 6 0)) hE lg_WP_243 13 rfl 0 (wg_Falls_0 g (fun i => a (i + 59)) q4.1) rfl dX11_fall_100 ?_
        obtain rfl := Option.some.inj hf
        exact j_iret hE hq rfl rfl dX11_fall_103
      refine j_case hf (fun c10 hf => ?_) (fun c10 hf => ?_)
      · refine j_tableIn (tgt := 104) hE dX11_fall_30 (by rw [c10]; decide) (by rw [c10]; decide) (by rw [c10]; try rfl) (by decide) ?_
        refine j_aload_n hE dX11_fall_104 rfl 0 rfl ?_
        refine j_get (v := .ref (a 59)) hE lg_WP_45 0 rfl 0 (wg_WP_0 g a ) rfl dX11_fall_105 ?_
        refine j_get (v := .int (q4.1 7 0)) hE lg_WP_245 13 rfl 0 (wg_Falls_0 g (fun i => a (i + 59)) q4.1) rfl dX11_fall_108 ?_
        obtain rfl := Option.some.inj hf
        exact j_iret hE hq rfl rfl dX11_fall_111
      refine j_case hf (fun c11 hf => ?_) (fun c11 hf => ?_)
      · refine j_tableIn (tgt := 112) hE dX11_fall_30 (by rw [c11]; decide) (by rw [c11]; decide) (by rw [c11]; try rfl) (by decide) ?_
        refine j_aload_n hE dX11_fall_112 rfl 0 rfl ?_
        refine j_get (v := .ref (a 59)) hE lg_WP_45 0 rfl 0 (wg_WP_0 g a ) rfl dX11_fall_113 ?_
        refine j_get (v := .int (q4.1 8 0)) hE lg_WP_248 13 rfl 0 (wg_Falls_0 g (fun i => a (i + 59)) q4.1) rfl dX11_fall_116 ?_
        obtain rfl := Option.some.inj hf
        exact j_iret hE hq rfl rfl dX11_fall_119
      refine j_case hf (fun c12 hf => ?_) (fun c12 hf => ?_)
      · refine j_tableIn (tgt := 120) hE dX11_fall_30 (by rw [c12]; decide) (by rw [c12]; decide) (by rw [c12]; try rfl) (by decide) ?_
        refine j_aload_n hE dX11_fall_120 rfl 0 rfl ?_
        refine j_get (v := .ref (a 59)) hE lg_WP_45 0 rfl 0 (wg_WP_0 g a ) rfl dX11_fall_121 ?_
        refine j_get (v := .int (q4.1 9 0)) hE lg_WP_251 13 rfl 0 (wg_Falls_0 g (fun i => a (i + 59)) q4.1) rfl dX11_fall_124 ?_
        obtain rfl := Option.some.inj hf
        exact j_iret hE hq rfl rfl dX11_fall_127
      refine j_case hf (fun c13 hf => ?_) (fun c13 hf => ?_)
      · refine j_tableIn (tgt := 128) hE dX11_fall_30 (by rw [c13]; decide) (by rw [c13]; decide) (by rw [c13]; try rfl) (by decide) ?_
        refine j_aload_n hE dX11_fall_128 rfl 0 rfl ?_
        refine j_get (v := .ref (a 59)) hE lg_WP_45 0 rfl 0 (wg_WP_0 g a ) rfl dX11_fall_129 ?_
        refine j_get (v := .int (q4.1 10 0)) hE lg_WP_254 13 rfl 0 (wg_Falls_0 g (fun i => a (i + 59)) q4.1) rfl dX11_fall_132 ?_
        obtain rfl := Option.some.inj hf
        exact j_iret hE hq rfl rfl dX11_fall_135
      refine j_case hf (fun c14 hf => ?_) (fun c14 hf => ?_)
      · refine j_tableIn (tgt := 136) hE dX11_fall_30 (by rw [c14]; decide) (by rw [c14]; decide) (by rw [c14]; try rfl) (by decide) ?_
        refine j_aload_n hE dX11_fall_136 rfl 0 rfl ?_
        refine j_get (v := .ref (a 59)) hE lg_WP_45 0 rfl 0 (wg_WP_0 g a ) rfl dX11_fall_137 ?_
        refine j_get (v := .int (q4.1 9 0)) hE lg_WP_251 13 rfl 0 (wg_Falls_0 g (fun i => a (i + 59)) q4.1) rfl dX11_fall_140 ?_
        refine j_aload_n hE dX11_fall_143 rfl 0 rfl ?_
        refine j_get (v := .ref (a 59)) hE lg_WP_45 0 rfl 0 (wg_WP_0 g a ) rfl dX11_fall_144 ?_
        refine j_get (v := .int (q4.1 10 0)) hE lg_WP_254 13 rfl 0 (wg_Falls_0 g (fun i => a (i + 59)) q4.1) rfl dX11_fall_147 ?_
        refine j_isub hE dX11_fall_150 ?_
        obtain rfl := Option.some.inj hf
        exact j_iret hE hq rfl rfl dX11_fall_151
      refine j_case hf (fun c15 hf => ?_) (fun c15 hf => ?_)
      · refine j_tableIn (tgt := 152) hE dX11_fall_30 (by rw [c15]; decide) (by rw [c15]; decide) (by rw [c15]; try rfl) (by decide) ?_
        refine j_aload_n hE dX11_fall_152 rfl 0 rfl ?_
        refine j_get (v := .ref (a 59)) hE lg_WP_45 0 rfl 0 (wg_WP_0 g a ) rfl dX11_fall_153 ?_
        refine j_get (v := .int (q4.1 5 0)) hE lg_WP_257 13 rfl 0 (wg_Falls_0 g (fun i => a (i + 59)) q4.1) rfl dX11_fall_156 ?_
        obtain rfl := Option.some.inj hf
        exact j_iret hE hq rfl rfl dX11_fall_159
      have t_c7 : 0 ≠ Int32.toInt x2 := fun h => c7 (Int32.toInt_inj.mp (h.symm.trans (by decide)))
      have t_c8 : 1 ≠ Int32.toInt x2 := fun h => c8 (Int32.toInt_inj.mp (h.symm.trans (by decide)))
      have t_c9 : 2 ≠ Int32.toInt x2 := fun h => c9 (Int32.toInt_inj.mp (h.symm.trans (by decide)))
      have t_c10 : 3 ≠ Int32.toInt x2 := fun h => c10 (Int32.toInt_inj.mp (h.symm.trans (by decide)))
      have t_c11 : 4 ≠ Int32.toInt x2 := fun h => c11 (Int32.toInt_inj.mp (h.symm.trans (by decide)))
      have t_c12 : 5 ≠ Int32.toInt x2 := fun h => c12 (Int32.toInt_inj.mp (h.symm.trans (by decide)))
      have t_c13 : 6 ≠ Int32.toInt x2 := fun h => c13 (Int32.toInt_inj.mp (h.symm.trans (by decide)))
      have t_c14 : 7 ≠ Int32.toInt x2 := fun h => c14 (Int32.toInt_inj.mp (h.symm.trans (by decide)))
      have t_c15 : 8 ≠ Int32.toInt x2 := fun h => c15 (Int32.toInt_inj.mp (h.symm.trans (by decide)))
      refine j_tableOut (tgt := 160) hE dX11_fall_30 (by omega) (by decide) ?_
      refine j_ldc hE co_WP_236 dX11_fall_160 ?_
      obtain rfl := Option.some.inj hf
      exact j_iret hE hq rfl rfl dX11_fall_162
    · refine j_ldc hE co_WP_236 dX11_fall_26 ?_
      obtain rfl := Option.some.inj hf
      exact j_iret hE hq rfl rfl dX11_fall_28
def rm_WP_lot : Room := { frames := 4, cells := 0, slots := 0, locals := 99 }
def f_WP_lot (ro_z : jZ) (no_z : jZ) (fa_z : jZ) (fod_y : jY) (x1 : Int32) (x2 : Int32) (x3 : Int32) : Option (jZ × jY × Int32) := (f_WP_isWithin x1 0 9).bind fun q1 => (if q1 = 0 then some (fa_z, fod_y, (-2147483648))
    else (f_WP_isWithin x2 3 6).bind fun q4 => (if q4 = 0 then some (fa_z, fod_y, (-2147483648))
    else (f_Falls_seekDealt fa_z fod_y ro_z no_z x1 x2).bind fun q7 => (if x3 = 0 then some (q7.1, q7.2, (Int64.toInt32 (q7.2 2 0)))
    else (if x3 = 1 then some (q7.1, q7.2, (Int64.toInt32 (q7.2 3 0)))
    else (if x3 = 2 then some (q7.1, q7.2, (q7.1 11 0))
    else (if x3 = 3 then some (q7.1, q7.2, (q7.1 12 0))
    else some (q7.1, q7.2, (-2147483648))))))))
set_option maxRecDepth 100000 in
theorem c_WP_lot (l : Launch) (g : jG) (a : Nat → Nat) (re_z : jZ) (ta_z : jZ) (ro_z : jZ) (ki_z : jZ) (ru_z : jZ) (ru_y : jY) (no_z : jZ) (sro_z : jZ) (ski_z : jZ) (sru_z : jZ) (sru_y : jY) (sno_z : jZ) (od_z : jZ) (od_y : jY) (lu_z : jZ) (lu_y : jY) (fa_z : jZ) (fod_z : jZ) (fod_y : jY) (ho_z : jZ) (po_z : jZ) (pod_z : jZ) (pod_y : jY) (x1 : Int32) (x2 : Int32) (x3 : Int32) (res : jZ × jY × Int32) (hf : f_WP_lot ro_z no_z fa_z fod_y x1 x2 x3 = some res) : MC l g yX11_lot cX11_lot 4 (some .int) rm_WP_lot [.ref (a 0), .int x1, .int x2, .int x3] (([n_WP g a , n_Reader g (fun i => a (i + 1)) re_z, n_Tape g (fun i => a (i + 4)) ta_z, n_Road g (fun i => a (i + 6)) ro_z, n_Kinds g (fun i => a (i + 14)) ki_z, n_Rule g (fun i => a (i + 20)) ru_z ru_y, n_Notes g (fun i => a (i + 23)) no_z, n_Road g (fun i => a (i + 30)) sro_z, n_Kinds g (fun i => a (i + 38)) ski_z, n_Rule g (fun i => a (i + 44)) sru_z sru_y, n_Notes g (fun i => a (i + 47)) sno_z, n_Odds g (fun i => a (i + 54)) od_z od_y, n_Luck g (fun i => a (i + 57)) lu_z lu_y, n_Falls g (fun i => a (i + 59)) fa_z, n_Odds g (fun i => a (i + 60)) fod_z fod_y, n_House g (fun i => a (i + 63)) ho_z, n_Poles g (fun i => a (i + 64)) po_z, n_Odds g (fun i => a (i + 69)) pod_z pod_y] : List va_W)) (some (.int res.2.2)) (([n_WP g a , n_Reader g (fun i => a (i + 1)) re_z, n_Tape g (fun i => a (i + 4)) ta_z, n_Road g (fun i => a (i + 6)) ro_z, n_Kinds g (fun i => a (i + 14)) ki_z, n_Rule g (fun i => a (i + 20)) ru_z ru_y, n_Notes g (fun i => a (i + 23)) no_z, n_Road g (fun i => a (i + 30)) sro_z, n_Kinds g (fun i => a (i + 38)) ski_z, n_Rule g (fun i => a (i + 44)) sru_z sru_y, n_Notes g (fun i => a (i + 47)) sno_z, n_Odds g (fun i => a (i + 54)) od_z od_y, n_Luck g (fun i => a (i + 57)) lu_z lu_y, n_Falls g (fun i => a (i + 59)) res.1, n_Odds g (fun i => a (i + 60)) fod_z res.2.1, n_House g (fun i => a (i + 63)) ho_z, n_Poles g (fun i => a (i + 64)) po_z, n_Odds g (fun i => a (i + 69)) pod_z pod_y] : List va_W)) 0 0 := by
  refine MC_of (own := RX11) (lv := [(0, .ref (a 0)), (1, .int x1), (2, .int x2), (3, .int x3)]) (by decide) rfl (Nat.le_of_ble_eq_true rfl) rfl rfl (fun E hE hq => ?_)
  unfold f_WP_lot at hf
  refine j_iload_n hE dX11_lot_0 rfl 1 rfl ?_
  refine j_iconst (v := 0) hE dX11_lot_1 (by decide) ?_
  refine j_bipush (v := 9) hE dX11_lot_2 (by decide) ?_
  obtain ⟨q1, hc2, hf⟩ := bind_of hf
  refine j_callS (ws' := ([n_WP g a , n_Reader g (fun i => a (i + 1)) re_z, n_Tape g (fun i => a (i + 4)) ta_z, n_Road g (fun i => a (i + 6)) ro_z, n_Kinds g (fun i => a (i + 14)) ki_z, n_Rule g (fun i => a (i + 20)) ru_z ru_y, n_Notes g (fun i => a (i + 23)) no_z, n_Road g (fun i => a (i + 30)) sro_z, n_Kinds g (fun i => a (i + 38)) ski_z, n_Rule g (fun i => a (i + 44)) sru_z sru_y, n_Notes g (fun i => a (i + 47)) sno_z, n_Odds g (fun i => a (i + 54)) od_z od_y, n_Luck g (fun i => a (i + 57)) lu_z lu_y, n_Falls g (fun i => a (i + 59)) fa_z, n_Odds g (fun i => a (i + 60)) fod_z fod_y, n_House g (fun i => a (i + 63)) ho_z, n_Poles g (fun i => a (i + 64)) po_z, n_Odds g (fun i => a (i + 69)) pod_z pod_y] : List va_W)) (As := [.int x1, .int 0, .int 9]) (rest := []) (st2 := [.int q1]) hE (fun l => c_WP_isWithin l g x1 0 9 q1 hc2) cd_X11_isWithin st_X11_isWithin ml_WP_149 rfl rfl ⟨⟨Nat.le_of_ble_eq_true rfl, Nat.le_of_ble_eq_true rfl⟩, ⟨Nat.zero_le _, Nat.zero_le _⟩, rfl, rfl⟩ [] rfl rfl rfl (Nat.le_of_ble_eq_true rfl) rfl dX11_lot_4 ?_
  refine j_if_eq (tgt := 20) hE hf dX11_lot_7 (by decide) (fun c3 hf => ?_) (fun c3 hf => ?_)
  · refine j_ldc hE co_WP_236 dX11_lot_20 ?_
    obtain rfl := Option.some.inj hf
    exact j_iret hE hq rfl rfl dX11_lot_22
  · refine j_iload_n hE dX11_lot_10 rfl 2 rfl ?_
    refine j_iconst (v := 3) hE dX11_lot_11 (by decide) ?_
    refine j_bipush (v := 6) hE dX11_lot_12 (by decide) ?_
    obtain ⟨q4, hc5, hf⟩ := bind_of hf
    refine j_callS (ws' := ([n_WP g a , n_Reader g (fun i => a (i + 1)) re_z, n_Tape g (fun i => a (i + 4)) ta_z, n_Road g (fun i => a (i + 6)) ro_z, n_Kinds g (fun i => a (i + 14)) ki_z, n_Rule g (fun i => a (i + 20)) ru_z ru_y, n_Notes g (fun i => a (i + 23)) no_z, n_Road g (fun i => a (i + 30)) sro_z, n_Kinds g (fun i => a (i + 38)) ski_z, n_Rule g (fun i => a (i + 44)) sru_z sru_y, n_Notes g (fun i => a (i + 47)) sno_z, n_Odds g (fun i => a (i + 54)) od_z od_y, n_Luck g (fun i => a (i + 57)) lu_z lu_y, n_Falls g (fun i => a (i + 59)) fa_z, n_Odds g (fun i => a (i + 60)) fod_z fod_y, n_House g (fun i => a (i + 63)) ho_z, n_Poles g (fun i => a (i + 64)) po_z, n_Odds g (fun i => a (i + 69)) pod_z pod_y] : List va_W)) (As := [.int x2, .int 3, .int 6]) (rest := []) (st2 := [.int q4]) hE (fun l => c_WP_isWithin l g x2 3 6 q4 hc5) cd_X11_isWithin st_X11_isWithin ml_WP_149 rfl rfl ⟨⟨Nat.le_of_ble_eq_true rfl, Nat.le_of_ble_eq_true rfl⟩, ⟨Nat.zero_le _, Nat.zero_le _⟩, rfl, rfl⟩ [] rfl rfl rfl (Nat.le_of_ble_eq_true rfl) rfl dX11_lot_14 ?_
    refine j_if_ne (tgt := 23) hE hf dX11_lot_17 (by decide) (fun c6 hf => ?_) (fun c6 hf => ?_)
    · refine j_aload_n hE dX11_lot_23 rfl 0 rfl ?_
      refine j_get (v := .ref (a 59)) hE lg_WP_45 0 rfl 0 (wg_WP_0 g a ) rfl dX11_lot_24 ?_
      refine j_aload_n hE dX11_lot_27 rfl 0 rfl ?_
      refine j_get (v := .ref (a 6)) hE lg_WP_21 0 rfl 0 (wg_WP_0 g a ) rfl dX11_lot_28 ?_
      refine j_iload_n hE dX11_lot_31 rfl 1 rfl ?_
      refine j_iload_n hE dX11_lot_32 rfl 2 rfl ?_
      obtain ⟨q7, hc8, hf⟩ := bind_of hf
      refine j_callV (ws' := ([n_WP g a , n_Reader g (fun i => a (i + 1)) re_z, n_Tape g (fun i => a (i + 4)) ta_z, n_Road g (fun i => a (i + 6)) ro_z, n_Kinds g (fun i => a (i + 14)) ki_z, n_Rule g (fun i => a (i + 20)) ru_z ru_y, n_Notes g (fun i => a (i + 23)) no_z, n_Road g (fun i => a (i + 30)) sro_z, n_Kinds g (fun i => a (i + 38)) ski_z, n_Rule g (fun i => a (i + 44)) sru_z sru_y, n_Notes g (fun i => a (i + 47)) sno_z, n_Odds g (fun i => a (i + 54)) od_z od_y, n_Luck g (fun i => a (i + 57)) lu_z lu_y, n_Falls g (fun i => a (i + 59)) q7.1, n_Odds g (fun i => a (i + 60)) fod_z q7.2, n_House g (fun i => a (i + 63)) ho_z, n_Poles g (fun i => a (i + 64)) po_z, n_Odds g (fun i => a (i + 69)) pod_z pod_y] : List va_W)) (As := [.ref (a 6), .int x1, .int x2]) (rest := []) (st2 := []) hE (fun l => c_Falls_seekDealt l g (fun i => a (i + 59)) (fun i => a (i + 6)) fa_z fod_z fod_y ro_z ki_z ru_z ru_y no_z x1 x2 q7 hc8) cd_X0_seekDealt cv_X0_seekDealt ml_WP_260 rfl rfl rfl (wg_Falls_0 _ _ _) ⟨⟨Nat.le_of_ble_eq_true rfl, Nat.le_of_ble_eq_true rfl⟩, ⟨Nat.zero_le _, Nat.zero_le _⟩, rfl, rfl⟩ [13, 14, 3, 4, 5, 6] rfl rfl rfl (Nat.le_of_ble_eq_true rfl) rfl dX11_lot_33 ?_
      refine j_iload_n hE dX11_lot_36 rfl 3 rfl ?_
      refine j_case hf (fun c9 hf => ?_) (fun c9 hf => ?_)
      · refine j_tableIn (tgt := 68) hE dX11_lot_37 (by rw [c9]; decide) (by rw [c9]; decide) (by rw [c9]; try rfl) (by decide) ?_
        refine j_aload_n hE dX11_lot_68 rfl 0 rfl ?_
        refine j_get (v := .ref (a 59)) hE lg_WP_45 0 rfl 0 (wg_WP_0 g a ) rfl dX11_lot_69 ?_
        refine j_get (v := .ref (a 60)) hE lg_WP_264 13 rfl 0 (wg_Falls_0 g (fun i => a (i + 59)) q7.1) rfl dX11_lot_72 ?_
        refine j_get (v := .long (q7.2 2 0)) hE lg_WP_185 14 rfl 0 (wg_Odds_0 g (fun i => a (i + 60)) fod_z q7.2) rfl dX11_lot_75 ?_
        refine j_l2i hE dX11_lot_78 ?_
        obtain rfl := Option.some.inj hf
        exact j_iret hE hq rfl rfl dX11_lot_79
      refine j_case hf (fun c10 hf => ?_) (fun c10 hf => ?_)
      · refine j_tableIn (tgt := 80) hE dX11_lot_37 (by rw [c10]; decide) (by rw [c10]; decide) (by rw [c10]; try rfl) (by decide) ?_
        refine j_aload_n hE dX11_lot_80 rfl 0 rfl ?_
        refine j_get (v := .ref (a 59)) hE lg_WP_45 0 rfl 0 (wg_WP_0 g a ) rfl dX11_lot_81 ?_
        refine j_get (v := .ref (a 60)) hE lg_WP_264 13 rfl 0 (wg_Falls_0 g (fun i => a (i + 59)) q7.1) rfl dX11_lot_84 ?_
        refine j_get (v := .long (q7.2 3 0)) hE lg_WP_189 14 rfl 0 (wg_Odds_0 g (fun i => a (i + 60)) fod_z q7.2) rfl dX11_lot_87 ?_
        refine j_l2i hE dX11_lot_90 ?_
        obtain rfl := Option.some.inj hf
        exact j_iret hE hq rfl rfl dX11_lot_91
      refine j_case hf (fun c11 hf => ?_) (fun c11 hf => ?_)
      · refine j_tableIn (tgt := 92) hE dX11_lot_37 (by rw [c11]; decide) (by rw [c11]; decide) (by rw [c11]; try rfl) (by decide) ?_
        refine j_aload_n hE dX11_lot_92 rfl 0 rfl ?_
        refine j_get (v := .ref (a 59)) hE lg_WP_45 0 rfl 0 (wg_WP_0 g a ) rfl dX11_lot_93 ?_
        refine j_get (v := .int (q7.1 11 0)) hE lg_WP_265 13 rfl 0 (wg_Falls_0 g (fun i => a (i + 59)) q7.1) rfl dX11_lot_96 ?_
        obtain rfl := Option.some.inj hf
        exact j_iret hE hq rfl rfl dX11_lot_99
      refine j_case hf (fun c12 hf => ?_) (fun c12 hf => ?_)
      · refine j_tableIn (tgt := 100) hE dX11_lot_37 (by rw [c12]; decide) (by rw [c12]; decide) (by rw [c12]; try rfl) (by decide) ?_
        refine j_aload_n hE dX11_lot_100 rfl 0 rfl ?_
        refine j_get (v := .ref (a 59)) hE lg_WP_45 0 rfl 0 (wg_WP_0 g a ) rfl dX11_lot_101 ?_
        refine j_get (v := .int (q7.1 12 0)) hE lg_WP_268 13 rfl 0 (wg_Falls_0 g (fun i => a (i + 59)) q7.1) rfl dX11_lot_104 ?_
        obtain rfl := Option.some.inj hf
        exact j_iret hE hq rfl rfl dX11_lot_107
      have t_c9 : 0 ≠ Int32.toInt x3 := fun h => c9 (Int32.toInt_inj.mp (h.symm.trans (by decide)))
      have t_c10 : 1 ≠ Int32.toInt x3 := fun h => c10 (Int32.toInt_inj.mp (h.symm.trans (by decide)))
      have t_c11 : 2 ≠ Int32.toInt x3 := fun h => c11 (Int32.toInt_inj.mp (h.symm.trans (by decide)))
      have t_c12 : 3 ≠ Int32.toInt x3 := fun h => c12 (Int32.toInt_inj.mp (h.symm.trans (by decide)))
      refine j_tableOut (tgt := 108) hE dX11_lot_37 (by omega) (by decide) ?_
      refine j_ldc hE co_WP_236 dX11_lot_108 ?_
      obtain rfl := Option.some.inj hf
      exact j_iret hE hq rfl rfl dX11_lot_110
    · refine j_ldc hE co_WP_236 dX11_lot_20 ?_
      obtain rfl := Option.some.inj hf
      exact j_iret hE hq rfl rfl dX11_lot_22
def rm_WP_chose : Room := { frames := 4, cells := 0, slots := 0, locals := 98 }
def f_WP_chose (ro_z : jZ) (no_z : jZ) (fa_z : jZ) (fod_y : jY) (x1 : Int32) (x2 : Int32) : Option (jZ × jY × Int32) := (f_WP_isWithin x1 3 6).bind fun q1 => (if q1 = 0 then some (fa_z, fod_y, (-2147483648))
    else (f_WP_isWithin x2 0 1).bind fun q4 => (if q4 = 0 then some (fa_z, fod_y, (-2147483648))
    else (f_Falls_seekChosen fa_z fod_y ro_z no_z x1).bind fun q7 => (if x2 = 0 then some (q7.1, q7.2, (Int64.toInt32 (q7.2 2 0)))
    else some (q7.1, q7.2, (Int64.toInt32 (q7.2 3 0))))))
set_option maxRecDepth 100000 in
theorem c_WP_chose (l : Launch) (g : jG) (a : Nat → Nat) (re_z : jZ) (ta_z : jZ) (ro_z : jZ) (ki_z : jZ) (ru_z : jZ) (ru_y : jY) (no_z : jZ) (sro_z : jZ) (ski_z : jZ) (sru_z : jZ) (sru_y : jY) (sno_z : jZ) (od_z : jZ) (od_y : jY) (lu_z : jZ) (lu_y : jY) (fa_z : jZ) (fod_z : jZ) (fod_y : jY) (ho_z : jZ) (po_z : jZ) (pod_z : jZ) (pod_y : jY) (x1 : Int32) (x2 : Int32) (res : jZ × jY × Int32) (hf : f_WP_chose ro_z no_z fa_z fod_y x1 x2 = some res) : MC l g yX11_chose cX11_chose 3 (some .int) rm_WP_chose [.ref (a 0), .int x1, .int x2] (([n_WP g a , n_Reader g (fun i => a (i + 1)) re_z, n_Tape g (fun i => a (i + 4)) ta_z, n_Road g (fun i => a (i + 6)) ro_z, n_Kinds g (fun i => a (i + 14)) ki_z, n_Rule g (fun i => a (i + 20)) ru_z ru_y, n_Notes g (fun i => a (i + 23)) no_z, n_Road g (fun i => a (i + 30)) sro_z, n_Kinds g (fun i => a (i + 38)) ski_z, n_Rule g (fun i => a (i + 44)) sru_z sru_y, n_Notes g (fun i => a (i + 47)) sno_z, n_Odds g (fun i => a (i + 54)) od_z od_y, n_Luck g (fun i => a (i + 57)) lu_z lu_y, n_Falls g (fun i => a (i + 59)) fa_z, n_Odds g (fun i => a (i + 60)) fod_z fod_y, n_House g (fun i => a (i + 63)) ho_z, n_Poles g (fun i => a (i + 64)) po_z, n_Odds g (fun i => a (i + 69)) pod_z pod_y] : List va_W)) (some (.int res.2.2)) (([n_WP g a , n_Reader g (fun i => a (i + 1)) re_z, n_Tape g (fun i => a (i + 4)) ta_z, n_Road g (fun i => a (i + 6)) ro_z, n_Kinds g (fun i => a (i + 14)) ki_z, n_Rule g (fun i => a (i + 20)) ru_z ru_y, n_Notes g (fun i => a (i + 23)) no_z, n_Road g (fun i => a (i + 30)) sro_z, n_Kinds g (fun i => a (i + 38)) ski_z, n_Rule g (fun i => a (i + 44)) sru_z sru_y, n_Notes g (fun i => a (i + 47)) sno_z, n_Odds g (fun i => a (i + 54)) od_z od_y, n_Luck g (fun i => a (i + 57)) lu_z lu_y, n_Falls g (fun i => a (i + 59)) res.1, n_Odds g (fun i => a (i + 60)) fod_z res.2.1, n_House g (fun i => a (i + 63)) ho_z, n_Poles g (fun i => a (i + 64)) po_z, n_Odds g (fun i => a (i + 69)) pod_z pod_y] : List va_W)) 0 0 := by
  refine MC_of (own := RX11) (lv := [(0, .ref (a 0)), (1, .int x1), (2, .int x2)]) (by decide) rfl (Nat.le_of_ble_eq_true rfl) rfl rfl (fun E hE hq => ?_)
  unfold f_WP_chose at hf
  refine j_iload_n hE dX11_chose_0 rfl 1 rfl ?_
  refine j_iconst (v := 3) hE dX11_chose_1 (by decide) ?_
  refine j_bipush (v := 6) hE dX11_chose_2 (by decide) ?_
  obtain ⟨q1, hc2, hf⟩ := bind_of hf
  refine j_callS (ws' := ([n_WP g a , n_Reader g (fun i => a (i + 1)) re_z, n_Tape g (fun i => a (i + 4)) ta_z, n_Road g (fun i => a (i + 6)) ro_z, n_Kinds g (fun i => a (i + 14)) ki_z, n_Rule g (fun i => a (i + 20)) ru_z ru_y, n_Notes g (fun i => a (i + 23)) no_z, n_Road g (fun i => a (i + 30)) sro_z, n_Kinds g (fun i => a (i + 38)) ski_z, n_Rule g (fun i => a (i + 44)) sru_z sru_y, n_Notes g (fun i => a (i + 47)) sno_z, n_Odds g (fun i => a (i + 54)) od_z od_y, n_Luck g (fun i => a (i + 57)) lu_z lu_y, n_Falls g (fun i => a (i + 59)) fa_z, n_Odds g (fun i => a (i + 60)) fod_z fod_y, n_House g (fun i => a (i + 63)) ho_z, n_Poles g (fun i => a (i + 64)) po_z, n_Odds g (fun i => a (i + 69)) pod_z pod_y] : List va_W)) (As := [.int x1, .int 3, .int 6]) (rest := []) (st2 := [.int q1]) hE (fun l => c_WP_isWithin l g x1 3 6 q1 hc2) cd_X11_isWithin st_X11_isWithin ml_WP_149 rfl rfl ⟨⟨Nat.le_of_ble_eq_true rfl, Nat.le_of_ble_eq_true rfl⟩, ⟨Nat.zero_le _, Nat.zero_le _⟩, rfl, rfl⟩ [] rfl rfl rfl (Nat.le_of_ble_eq_true rfl) rfl dX11_chose_4 ?_
  refine j_if_eq (tgt := 19) hE hf dX11_chose_7 (by decide) (fun c3 hf => ?_) (fun c3 hf => ?_)
  · refine j_ldc hE co_WP_236 dX11_chose_19 ?_
    obtain rfl := Option.some.inj hf
    exact j_iret hE hq rfl rfl dX11_chose_21
  · refine j_iload_n hE dX11_chose_10 rfl 2 rfl ?_
    refine j_iconst (v := 0) hE dX11_chose_11 (by decide) ?_
    refine j_iconst (v := 1) hE dX11_chose_12 (by decide) ?_
    obtain ⟨q4, hc5, hf⟩ := bind_of hf
    refine j_callS (ws' := ([n_WP g a , n_Reader g (fun i => a (i + 1)) re_z, n_Tape g (fun i => a (i + 4)) ta_z, n_Road g (fun i => a (i + 6)) ro_z, n_Kinds g (fun i => a (i + 14)) ki_z, n_Rule g (fun i => a (i + 20)) ru_z ru_y, n_Notes g (fun i => a (i + 23)) no_z, n_Road g (fun i => a (i + 30)) sro_z, n_Kinds g (fun i => a (i + 38)) ski_z, n_Rule g (fun i => a (i + 44)) sru_z sru_y, n_Notes g (fun i => a (i + 47)) sno_z, n_Odds g (fun i => a (i + 54)) od_z od_y, n_Luck g (fun i => a (i + 57)) lu_z lu_y, n_Falls g (fun i => a (i + 59)) fa_z, n_Odds g (fun i => a (i + 60)) fod_z fod_y, n_House g (fun i => a (i + 63)) ho_z, n_Poles g (fun i => a (i + 64)) po_z, n_Odds g (fun i => a (i + 69)) pod_z pod_y] : List va_W)) (As := [.int x2, .int 0, .int 1]) (rest := []) (st2 := [.int q4]) hE (fun l => c_WP_isWithin l g x2 0 1 q4 hc5) cd_X11_isWithin st_X11_isWithin ml_WP_149 rfl rfl ⟨⟨Nat.le_of_ble_eq_true rfl, Nat.le_of_ble_eq_true rfl⟩, ⟨Nat.zero_le _, Nat.zero_le _⟩, rfl, rfl⟩ [] rfl rfl rfl (Nat.le_of_ble_eq_true rfl) rfl dX11_chose_13 ?_
    refine j_if_ne (tgt := 22) hE hf dX11_chose_16 (by decide) (fun c6 hf => ?_) (fun c6 hf => ?_)
    · refine j_aload_n hE dX11_chose_22 rfl 0 rfl ?_
      refine j_get (v := .ref (a 59)) hE lg_WP_45 0 rfl 0 (wg_WP_0 g a ) rfl dX11_chose_23 ?_
      refine j_aload_n hE dX11_chose_26 rfl 0 rfl ?_
      refine j_get (v := .ref (a 6)) hE lg_WP_21 0 rfl 0 (wg_WP_0 g a ) rfl dX11_chose_27 ?_
      refine j_iload_n hE dX11_chose_30 rfl 1 rfl ?_
      obtain ⟨q7, hc8, hf⟩ := bind_of hf
      refine j_callV (ws' := ([n_WP g a , n_Reader g (fun i => a (i + 1)) re_z, n_Tape g (fun i => a (i + 4)) ta_z, n_Road g (fun i => a (i + 6)) ro_z, n_Kinds g (fun i => a (i + 14)) ki_z, n_Rule g (fun i => a (i + 20)) ru_z ru_y, n_Notes g (fun i => a (i + 23)) no_z, n_Road g (fun i => a (i + 30)) sro_z, n_Kinds g (fun i => a (i + 38)) ski_z, n_Rule g (fun i => a (i + 44)) sru_z sru_y, n_Notes g (fun i => a (i + 47)) sno_z, n_Odds g (fun i => a (i + 54)) od_z od_y, n_Luck g (fun i => a (i + 57)) lu_z lu_y, n_Falls g (fun i => a (i + 59)) q7.1, n_Odds g (fun i => a (i + 60)) fod_z q7.2, n_House g (fun i => a (i + 63)) ho_z, n_Poles g (fun i => a (i + 64)) po_z, n_Odds g (fun i => a (i + 69)) pod_z pod_y] : List va_W)) (As := [.ref (a 6), .int x1]) (rest := []) (st2 := []) hE (fun l => c_Falls_seekChosen l g (fun i => a (i + 59)) (fun i => a (i + 6)) fa_z fod_z fod_y ro_z ki_z ru_z ru_y no_z x1 q7 hc8) cd_X0_seekChosen cv_X0_seekChosen ml_WP_271 rfl rfl rfl (wg_Falls_0 _ _ _) ⟨⟨Nat.le_of_ble_eq_true rfl, Nat.le_of_ble_eq_true rfl⟩, ⟨Nat.zero_le _, Nat.zero_le _⟩, rfl, rfl⟩ [13, 14, 3, 4, 5, 6] rfl rfl rfl (Nat.le_of_ble_eq_true rfl) rfl dX11_chose_31 ?_
      refine j_iload_n hE dX11_chose_34 rfl 2 rfl ?_
      refine j_if_ne (tgt := 51) hE hf dX11_chose_35 (by decide) (fun c9 hf => ?_) (fun c9 hf => ?_)
      · refine j_aload_n hE dX11_chose_51 rfl 0 rfl ?_
        refine j_get (v := .ref (a 59)) hE lg_WP_45 0 rfl 0 (wg_WP_0 g a ) rfl dX11_chose_52 ?_
        refine j_get (v := .ref (a 60)) hE lg_WP_264 13 rfl 0 (wg_Falls_0 g (fun i => a (i + 59)) q7.1) rfl dX11_chose_55 ?_
        refine j_get (v := .long (q7.2 3 0)) hE lg_WP_189 14 rfl 0 (wg_Odds_0 g (fun i => a (i + 60)) fod_z q7.2) rfl dX11_chose_58 ?_
        refine j_l2i hE dX11_chose_61 ?_
        obtain rfl := Option.some.inj hf
        exact j_iret hE hq rfl rfl dX11_chose_62
      · refine j_aload_n hE dX11_chose_38 rfl 0 rfl ?_
        refine j_get (v := .ref (a 59)) hE lg_WP_45 0 rfl 0 (wg_WP_0 g a ) rfl dX11_chose_39 ?_
        refine j_get (v := .ref (a 60)) hE lg_WP_264 13 rfl 0 (wg_Falls_0 g (fun i => a (i + 59)) q7.1) rfl dX11_chose_42 ?_
        refine j_get (v := .long (q7.2 2 0)) hE lg_WP_185 14 rfl 0 (wg_Odds_0 g (fun i => a (i + 60)) fod_z q7.2) rfl dX11_chose_45 ?_
        refine j_goto (tgt := 61) hE dX11_chose_48 (by decide) ?_
        refine j_l2i hE dX11_chose_61 ?_
        obtain rfl := Option.some.inj hf
        exact j_iret hE hq rfl rfl dX11_chose_62
    · refine j_ldc hE co_WP_236 dX11_chose_19 ?_
      obtain rfl := Option.some.inj hf
      exact j_iret hE hq rfl rfl dX11_chose_21
def rm_WP_house : Room := { frames := 3, cells := 0, slots := 0, locals := 77 }
def f_WP_house (ro_z : jZ) (no_z : jZ) (ho_z : jZ) (x1 : Int32) (x2 : Int32) : Option (jZ × Int32) := (f_Road_has ro_z x1).bind fun q1 => (if q1 = 0 then some (ho_z, (-2147483648))
    else (ix x1 12).bind fun _ => (f_House_seek ho_z no_z x1 (ro_z 11 (Int32.toNatClampNeg x1))).bind fun q5 => (if q5.2 = 0 then some (q5.1, (-2147483648))
    else (if x2 = 0 then some (q5.1, (q5.1 1 0))
    else (if x2 = 1 then some (q5.1, (q5.1 2 0))
    else (if x2 = 2 then some (q5.1, (q5.1 3 0))
    else (if x2 = 3 then some (q5.1, (q5.1 4 0))
    else (if x2 = 4 then some (q5.1, (q5.1 5 0))
    else some (q5.1, (-2147483648)))))))))
set_option maxRecDepth 100000 in
theorem c_WP_house (l : Launch) (g : jG) (a : Nat → Nat) (re_z : jZ) (ta_z : jZ) (ro_z : jZ) (ki_z : jZ) (ru_z : jZ) (ru_y : jY) (no_z : jZ) (sro_z : jZ) (ski_z : jZ) (sru_z : jZ) (sru_y : jY) (sno_z : jZ) (od_z : jZ) (od_y : jY) (lu_z : jZ) (lu_y : jY) (fa_z : jZ) (fod_z : jZ) (fod_y : jY) (ho_z : jZ) (po_z : jZ) (pod_z : jZ) (pod_y : jY) (x1 : Int32) (x2 : Int32) (res : jZ × Int32) (hf : f_WP_house ro_z no_z ho_z x1 x2 = some res) : MC l g yX11_house cX11_house 3 (some .int) rm_WP_house [.ref (a 0), .int x1, .int x2] (([n_WP g a , n_Reader g (fun i => a (i + 1)) re_z, n_Tape g (fun i => a (i + 4)) ta_z, n_Road g (fun i => a (i + 6)) ro_z, n_Kinds g (fun i => a (i + 14)) ki_z, n_Rule g (fun i => a (i + 20)) ru_z ru_y, n_Notes g (fun i => a (i + 23)) no_z, n_Road g (fun i => a (i + 30)) sro_z, n_Kinds g (fun i => a (i + 38)) ski_z, n_Rule g (fun i => a (i + 44)) sru_z sru_y, n_Notes g (fun i => a (i + 47)) sno_z, n_Odds g (fun i => a (i + 54)) od_z od_y, n_Luck g (fun i => a (i + 57)) lu_z lu_y, n_Falls g (fun i => a (i + 59)) fa_z, n_Odds g (fun i => a (i + 60)) fod_z fod_y, n_House g (fun i => a (i + 63)) ho_z, n_Poles g (fun i => a (i + 64)) po_z, n_Odds g (fun i => a (i + 69)) pod_z pod_y] : List va_W)) (some (.int res.2)) (([n_WP g a , n_Reader g (fun i => a (i + 1)) re_z, n_Tape g (fun i => a (i + 4)) ta_z, n_Road g (fun i => a (i + 6)) ro_z, n_Kinds g (fun i => a (i + 14)) ki_z, n_Rule g (fun i => a (i + 20)) ru_z ru_y, n_Notes g (fun i => a (i + 23)) no_z, n_Road g (fun i => a (i + 30)) sro_z, n_Kinds g (fun i => a (i + 38)) ski_z, n_Rule g (fun i => a (i + 44)) sru_z sru_y, n_Notes g (fun i => a (i + 47)) sno_z, n_Odds g (fun i => a (i + 54)) od_z od_y, n_Luck g (fun i => a (i + 57)) lu_z lu_y, n_Falls g (fun i => a (i + 59)) fa_z, n_Odds g (fun i => a (i + 60)) fod_z fod_y, n_House g (fun i => a (i + 63)) res.1, n_Poles g (fun i => a (i + 64)) po_z, n_Odds g (fun i => a (i + 69)) pod_z pod_y] : List va_W)) 0 0 := by
  refine MC_of (own := RX11) (lv := [(0, .ref (a 0)), (1, .int x1), (2, .int x2)]) (by decide) rfl (Nat.le_of_ble_eq_true rfl) rfl rfl (fun E hE hq => ?_)
  unfold f_WP_house at hf
  refine j_aload_n hE dX11_house_0 rfl 0 rfl ?_
  refine j_get (v := .ref (a 6)) hE lg_WP_21 0 rfl 0 (wg_WP_0 g a ) rfl dX11_house_1 ?_
  refine j_iload_n hE dX11_house_4 rfl 1 rfl ?_
  obtain ⟨q1, hc2, hf⟩ := bind_of hf
  refine j_callV (ws' := ([n_WP g a , n_Reader g (fun i => a (i + 1)) re_z, n_Tape g (fun i => a (i + 4)) ta_z, n_Road g (fun i => a (i + 6)) ro_z, n_Kinds g (fun i => a (i + 14)) ki_z, n_Rule g (fun i => a (i + 20)) ru_z ru_y, n_Notes g (fun i => a (i + 23)) no_z, n_Road g (fun i => a (i + 30)) sro_z, n_Kinds g (fun i => a (i + 38)) ski_z, n_Rule g (fun i => a (i + 44)) sru_z sru_y, n_Notes g (fun i => a (i + 47)) sno_z, n_Odds g (fun i => a (i + 54)) od_z od_y, n_Luck g (fun i => a (i + 57)) lu_z lu_y, n_Falls g (fun i => a (i + 59)) fa_z, n_Odds g (fun i => a (i + 60)) fod_z fod_y, n_House g (fun i => a (i + 63)) ho_z, n_Poles g (fun i => a (i + 64)) po_z, n_Odds g (fun i => a (i + 69)) pod_z pod_y] : List va_W)) (As := [.int x1]) (rest := []) (st2 := [.int q1]) hE (fun l => c_Road_has l g (fun i => a (i + 6)) ro_z ki_z ru_z ru_y no_z x1 q1 hc2) cd_X8_has cv_X8_has ml_WP_114 rfl rfl rfl (wg_Road_0 _ _ _) ⟨⟨Nat.le_of_ble_eq_true rfl, Nat.le_of_ble_eq_true rfl⟩, ⟨Nat.zero_le _, Nat.zero_le _⟩, rfl, rfl⟩ [3, 4, 5, 6] rfl rfl rfl (Nat.le_of_ble_eq_true rfl) rfl dX11_house_5 ?_
  refine j_if_eq (tgt := 38) hE hf dX11_house_8 (by decide) (fun c3 hf => ?_) (fun c3 hf => ?_)
  · refine j_ldc hE co_WP_236 dX11_house_38 ?_
    obtain rfl := Option.some.inj hf
    exact j_iret hE hq rfl rfl dX11_house_40
  · refine j_aload_n hE dX11_house_11 rfl 0 rfl ?_
    refine j_get (v := .ref (a 63)) hE lg_WP_52 0 rfl 0 (wg_WP_0 g a ) rfl dX11_house_12 ?_
    refine j_aload_n hE dX11_house_15 rfl 0 rfl ?_
    refine j_get (v := .ref (a 6)) hE lg_WP_21 0 rfl 0 (wg_WP_0 g a ) rfl dX11_house_16 ?_
    refine j_get (v := .ref (a 23)) hE lg_WP_153 3 rfl 0 (wg_Road_0 g (fun i => a (i + 6)) ro_z) rfl dX11_house_19 ?_
    refine j_iload_n hE dX11_house_22 rfl 1 rfl ?_
    refine j_aload_n hE dX11_house_23 rfl 0 rfl ?_
    refine j_get (v := .ref (a 6)) hE lg_WP_21 0 rfl 0 (wg_WP_0 g a ) rfl dX11_house_24 ?_
    refine j_get (v := .ref (a 10)) hE lg_WP_132 3 rfl 0 (wg_Road_0 g (fun i => a (i + 6)) ro_z) rfl dX11_house_27 ?_
    refine j_iload_n hE dX11_house_30 rfl 1 rfl ?_
    refine j_iald hE hf 3 rfl 4 (wg_Road_4 g (fun i => a (i + 6)) ro_z) dX11_house_31 (fun hf => ?_)
    obtain ⟨q5, hc6, hf⟩ := bind_of hf
    refine j_callV (ws' := ([n_WP g a , n_Reader g (fun i => a (i + 1)) re_z, n_Tape g (fun i => a (i + 4)) ta_z, n_Road g (fun i => a (i + 6)) ro_z, n_Kinds g (fun i => a (i + 14)) ki_z, n_Rule g (fun i => a (i + 20)) ru_z ru_y, n_Notes g (fun i => a (i + 23)) no_z, n_Road g (fun i => a (i + 30)) sro_z, n_Kinds g (fun i => a (i + 38)) ski_z, n_Rule g (fun i => a (i + 44)) sru_z sru_y, n_Notes g (fun i => a (i + 47)) sno_z, n_Odds g (fun i => a (i + 54)) od_z od_y, n_Luck g (fun i => a (i + 57)) lu_z lu_y, n_Falls g (fun i => a (i + 59)) fa_z, n_Odds g (fun i => a (i + 60)) fod_z fod_y, n_House g (fun i => a (i + 63)) q5.1, n_Poles g (fun i => a (i + 64)) po_z, n_Odds g (fun i => a (i + 69)) pod_z pod_y] : List va_W)) (As := [.ref (a 23), .int x1, .int (ro_z 11 (Int32.toNatClampNeg x1))]) (rest := []) (st2 := [.int q5.2]) hE (fun l => c_House_seek l g (fun i => a (i + 63)) (fun i => a (i + 23)) ho_z no_z x1 (ro_z 11 (Int32.toNatClampNeg x1)) q5 hc6) cd_X1_seek cv_X1_seek ml_WP_274 rfl rfl rfl (wg_House_0 _ _ _) ⟨⟨Nat.le_of_ble_eq_true rfl, Nat.le_of_ble_eq_true rfl⟩, ⟨Nat.zero_le _, Nat.zero_le _⟩, rfl, rfl⟩ [15, 6] rfl rfl rfl (Nat.le_of_ble_eq_true rfl) rfl dX11_house_32 ?_
    refine j_if_ne (tgt := 41) hE hf dX11_house_35 (by decide) (fun c7 hf => ?_) (fun c7 hf => ?_)
    · refine j_iload_n hE dX11_house_41 rfl 2 rfl ?_
      refine j_case hf (fun c8 hf => ?_) (fun c8 hf => ?_)
      · refine j_tableIn (tgt := 76) hE dX11_house_42 (by rw [c8]; decide) (by rw [c8]; decide) (by rw [c8]; try rfl) (by decide) ?_
        refine j_aload_n hE dX11_house_76 rfl 0 rfl ?_
        refine j_get (v := .ref (a 63)) hE lg_WP_52 0 rfl 0 (wg_WP_0 g a ) rfl dX11_house_77 ?_
        refine j_get (v := .int (q5.1 1 0)) hE lg_WP_278 15 rfl 0 (wg_House_0 g (fun i => a (i + 63)) q5.1) rfl dX11_house_80 ?_
        obtain rfl := Option.some.inj hf
        exact j_iret hE hq rfl rfl dX11_house_83
      refine j_case hf (fun c9 hf => ?_) (fun c9 hf => ?_)
      · refine j_tableIn (tgt := 84) hE dX11_house_42 (by rw [c9]; decide) (by rw [c9]; decide) (by rw [c9]; try rfl) (by decide) ?_
        refine j_aload_n hE dX11_house_84 rfl 0 rfl ?_
        refine j_get (v := .ref (a 63)) hE lg_WP_52 0 rfl 0 (wg_WP_0 g a ) rfl dX11_house_85 ?_
        refine j_get (v := .int (q5.1 2 0)) hE lg_WP_281 15 rfl 0 (wg_House_0 g (fun i => a (i + 63)) q5.1) rfl dX11_house_88 ?_
        obtain rfl := Option.some.inj hf
        exact j_iret hE hq rfl rfl dX11_house_91
      refine j_case hf (fun c10 hf => ?_) (fun c10 hf => ?_)
      · refine j_tableIn (tgt := 92) hE dX11_house_42 (by rw [c10]; decide) (by rw [c10]; decide) (by rw [c10]; try rfl) (by decide) ?_
        refine j_aload_n hE dX11_house_92 rfl 0 rfl ?_
        refine j_get (v := .ref (a 63)) hE lg_WP_52 0 rfl 0 (wg_WP_0 g a ) rfl dX11_house_93 ?_
        refine j_get (v := .int (q5.1 3 0)) hE lg_WP_284 15 rfl 0 (wg_House_0 g (fun i => a (i + 63)) q5.1) rfl dX11_house_96 ?_
        obtain rfl := Option.some.inj hf
        exact j_iret hE hq rfl rfl dX11_house_99
      refine j_case hf (fun c11 hf => ?_) (fun c11 hf => ?_)
      · refine j_tableIn (tgt := 100) hE dX11_house_42 (by rw [c11]; decide) (by rw [c11]; decide) (by rw [c11]; try rfl) (by decide) ?_
        refine j_aload_n hE dX11_house_100 rfl 0 rfl ?_
        refine j_get (v := .ref (a 63)) hE lg_WP_52 0 rfl 0 (wg_WP_0 g a ) rfl dX11_house_101 ?_
        refine j_get (v := .int (q5.1 4 0)) hE lg_WP_287 15 rfl 0 (wg_House_0 g (fun i => a (i + 63)) q5.1) rfl dX11_house_104 ?_
        obtain rfl := Option.some.inj hf
        exact j_iret hE hq rfl rfl dX11_house_107
      refine j_case hf (fun c12 hf => ?_) (fun c12 hf => ?_)
      · refine j_tableIn (tgt := 108) hE dX11_house_42 (by rw [c12]; decide) (by rw [c12]; decide) (by rw [c12]; try rfl) (by decide) ?_
        refine j_aload_n hE dX11_house_108 rfl 0 rfl ?_
        refine j_get (v := .ref (a 63)) hE lg_WP_52 0 rfl 0 (wg_WP_0 g a ) rfl dX11_house_109 ?_
        refine j_get (v := .int (q5.1 5 0)) hE lg_WP_290 15 rfl 0 (wg_House_0 g (fun i => a (i + 63)) q5.1) rfl dX11_house_112 ?_
        obtain rfl := Option.some.inj hf
        exact j_iret hE hq rfl rfl dX11_house_115
      have t_c8 : 0 ≠ Int32.toInt x2 := fun h => c8 (Int32.toInt_inj.mp (h.symm.trans (by decide)))
      have t_c9 : 1 ≠ Int32.toInt x2 := fun h => c9 (Int32.toInt_inj.mp (h.symm.trans (by decide)))
      have t_c10 : 2 ≠ Int32.toInt x2 := fun h => c10 (Int32.toInt_inj.mp (h.symm.trans (by decide)))
      have t_c11 : 3 ≠ Int32.toInt x2 := fun h => c11 (Int32.toInt_inj.mp (h.symm.trans (by decide)))
      have t_c12 : 4 ≠ Int32.toInt x2 := fun h => c12 (Int32.toInt_inj.mp (h.symm.trans (by decide)))
      refine j_tableOut (tgt := 116) hE dX11_house_42 (by omega) (by decide) ?_
      refine j_ldc hE co_WP_236 dX11_house_116 ?_
      obtain rfl := Option.some.inj hf
      exact j_iret hE hq rfl rfl dX11_house_118
    · refine j_ldc hE co_WP_236 dX11_house_38 ?_
      obtain rfl := Option.some.inj hf
      exact j_iret hE hq rfl rfl dX11_house_40
def rm_WP_coin : Room := { frames := 1, cells := 0, slots := 0, locals := 22 }
def f_WP_coin (ro_z : jZ) (x1 : Int32) (x2 : Int32) : Option (jZ × Int32) := (f_Road_has ro_z x1).bind fun q1 => (if q1 = 0 then some (ro_z, 0)
    else (f_WP_isWithin x2 0 99).bind fun q4 => (if q4 = 0 then some (ro_z, 0)
    else (ix x1 12).bind fun _ => some ((up2 ro_z 14 (Int32.toNatClampNeg x1) x2), 1)))
set_option maxRecDepth 100000 in
theorem c_WP_coin (l : Launch) (g : jG) (a : Nat → Nat) (re_z : jZ) (ta_z : jZ) (ro_z : jZ) (ki_z : jZ) (ru_z : jZ) (ru_y : jY) (no_z : jZ) (sro_z : jZ) (ski_z : jZ) (sru_z : jZ) (sru_y : jY) (sno_z : jZ) (od_z : jZ) (od_y : jY) (lu_z : jZ) (lu_y : jY) (fa_z : jZ) (fod_z : jZ) (fod_y : jY) (ho_z : jZ) (po_z : jZ) (pod_z : jZ) (pod_y : jY) (x1 : Int32) (x2 : Int32) (res : jZ × Int32) (hf : f_WP_coin ro_z x1 x2 = some res) : MC l g yX11_coin cX11_coin 3 (some .boolean) rm_WP_coin [.ref (a 0), .int x1, .int x2] (([n_WP g a , n_Reader g (fun i => a (i + 1)) re_z, n_Tape g (fun i => a (i + 4)) ta_z, n_Road g (fun i => a (i + 6)) ro_z, n_Kinds g (fun i => a (i + 14)) ki_z, n_Rule g (fun i => a (i + 20)) ru_z ru_y, n_Notes g (fun i => a (i + 23)) no_z, n_Road g (fun i => a (i + 30)) sro_z, n_Kinds g (fun i => a (i + 38)) ski_z, n_Rule g (fun i => a (i + 44)) sru_z sru_y, n_Notes g (fun i => a (i + 47)) sno_z, n_Odds g (fun i => a (i + 54)) od_z od_y, n_Luck g (fun i => a (i + 57)) lu_z lu_y, n_Falls g (fun i => a (i + 59)) fa_z, n_Odds g (fun i => a (i + 60)) fod_z fod_y, n_House g (fun i => a (i + 63)) ho_z, n_Poles g (fun i => a (i + 64)) po_z, n_Odds g (fun i => a (i + 69)) pod_z pod_y] : List va_W)) (some (.int res.2)) (([n_WP g a , n_Reader g (fun i => a (i + 1)) re_z, n_Tape g (fun i => a (i + 4)) ta_z, n_Road g (fun i => a (i + 6)) res.1, n_Kinds g (fun i => a (i + 14)) ki_z, n_Rule g (fun i => a (i + 20)) ru_z ru_y, n_Notes g (fun i => a (i + 23)) no_z, n_Road g (fun i => a (i + 30)) sro_z, n_Kinds g (fun i => a (i + 38)) ski_z, n_Rule g (fun i => a (i + 44)) sru_z sru_y, n_Notes g (fun i => a (i + 47)) sno_z, n_Odds g (fun i => a (i + 54)) od_z od_y, n_Luck g (fun i => a (i + 57)) lu_z lu_y, n_Falls g (fun i => a (i + 59)) fa_z, n_Odds g (fun i => a (i + 60)) fod_z fod_y, n_House g (fun i => a (i + 63)) ho_z, n_Poles g (fun i => a (i + 64)) po_z, n_Odds g (fun i => a (i + 69)) pod_z pod_y] : List va_W)) 0 0 := by
  refine MC_of (own := RX11) (lv := [(0, .ref (a 0)), (1, .int x1), (2, .int x2)]) (by decide) rfl (Nat.le_of_ble_eq_true rfl) rfl rfl (fun E hE hq => ?_)
  unfold f_WP_coin at hf
  refine j_aload_n hE dX11_coin_0 rfl 0 rfl ?_
  refine j_get (v := .ref (a 6)) hE lg_WP_21 0 rfl 0 (wg_WP_0 g a ) rfl dX11_coin_1 ?_
  refine j_iload_n hE dX11_coin_4 rfl 1 rfl ?_
  obtain ⟨q1, hc2, hf⟩ := bind_of hf
  refine j_callV (ws' := ([n_WP g a , n_Reader g (fun i => a (i + 1)) re_z, n_Tape g (fun i => a (i + 4)) ta_z, n_Road g (fun i => a (i + 6)) ro_z, n_Kinds g (fun i => a (i + 14)) ki_z, n_Rule g (fun i => a (i + 20)) ru_z ru_y, n_Notes g (fun i => a (i + 23)) no_z, n_Road g (fun i => a (i + 30)) sro_z, n_Kinds g (fun i => a (i + 38)) ski_z, n_Rule g (fun i => a (i + 44)) sru_z sru_y, n_Notes g (fun i => a (i + 47)) sno_z, n_Odds g (fun i => a (i + 54)) od_z od_y, n_Luck g (fun i => a (i + 57)) lu_z lu_y, n_Falls g (fun i => a (i + 59)) fa_z, n_Odds g (fun i => a (i + 60)) fod_z fod_y, n_House g (fun i => a (i + 63)) ho_z, n_Poles g (fun i => a (i + 64)) po_z, n_Odds g (fun i => a (i + 69)) pod_z pod_y] : List va_W)) (As := [.int x1]) (rest := []) (st2 := [.int q1]) hE (fun l => c_Road_has l g (fun i => a (i + 6)) ro_z ki_z ru_z ru_y no_z x1 q1 hc2) cd_X8_has cv_X8_has ml_WP_114 rfl rfl rfl (wg_Road_0 _ _ _) ⟨⟨Nat.le_of_ble_eq_true rfl, Nat.le_of_ble_eq_true rfl⟩, ⟨Nat.zero_le _, Nat.zero_le _⟩, rfl, rfl⟩ [3, 4, 5, 6] rfl rfl rfl (Nat.le_of_ble_eq_true rfl) rfl dX11_coin_5 ?_
  refine j_if_eq (tgt := 21) hE hf dX11_coin_8 (by decide) (fun c3 hf => ?_) (fun c3 hf => ?_)
  · refine j_iconst (v := 0) hE dX11_coin_21 (by decide) ?_
    obtain rfl := Option.some.inj hf
    exact j_zret_c hE (Or.inl rfl) hq rfl rfl dX11_coin_22
  · refine j_iload_n hE dX11_coin_11 rfl 2 rfl ?_
    refine j_iconst (v := 0) hE dX11_coin_12 (by decide) ?_
    refine j_bipush (v := 99) hE dX11_coin_13 (by decide) ?_
    obtain ⟨q4, hc5, hf⟩ := bind_of hf
    refine j_callS (ws' := ([n_WP g a , n_Reader g (fun i => a (i + 1)) re_z, n_Tape g (fun i => a (i + 4)) ta_z, n_Road g (fun i => a (i + 6)) ro_z, n_Kinds g (fun i => a (i + 14)) ki_z, n_Rule g (fun i => a (i + 20)) ru_z ru_y, n_Notes g (fun i => a (i + 23)) no_z, n_Road g (fun i => a (i + 30)) sro_z, n_Kinds g (fun i => a (i + 38)) ski_z, n_Rule g (fun i => a (i + 44)) sru_z sru_y, n_Notes g (fun i => a (i + 47)) sno_z, n_Odds g (fun i => a (i + 54)) od_z od_y, n_Luck g (fun i => a (i + 57)) lu_z lu_y, n_Falls g (fun i => a (i + 59)) fa_z, n_Odds g (fun i => a (i + 60)) fod_z fod_y, n_House g (fun i => a (i + 63)) ho_z, n_Poles g (fun i => a (i + 64)) po_z, n_Odds g (fun i => a (i + 69)) pod_z pod_y] : List va_W)) (As := [.int x2, .int 0, .int 99]) (rest := []) (st2 := [.int q4]) hE (fun l => c_WP_isWithin l g x2 0 99 q4 hc5) cd_X11_isWithin st_X11_isWithin ml_WP_149 rfl rfl ⟨⟨Nat.le_of_ble_eq_true rfl, Nat.le_of_ble_eq_true rfl⟩, ⟨Nat.zero_le _, Nat.zero_le _⟩, rfl, rfl⟩ [] rfl rfl rfl (Nat.le_of_ble_eq_true rfl) rfl dX11_coin_15 ?_
    refine j_if_ne (tgt := 23) hE hf dX11_coin_18 (by decide) (fun c6 hf => ?_) (fun c6 hf => ?_)
    · refine j_aload_n hE dX11_coin_23 rfl 0 rfl ?_
      refine j_get (v := .ref (a 6)) hE lg_WP_21 0 rfl 0 (wg_WP_0 g a ) rfl dX11_coin_24 ?_
      refine j_get (v := .ref (a 13)) hE lg_WP_141 3 rfl 0 (wg_Road_0 g (fun i => a (i + 6)) ro_z) rfl dX11_coin_27 ?_
      refine j_iload_n hE dX11_coin_30 rfl 1 rfl ?_
      refine j_iload_n hE dX11_coin_31 rfl 2 rfl ?_
      refine j_iast (ws' := ([n_WP g a , n_Reader g (fun i => a (i + 1)) re_z, n_Tape g (fun i => a (i + 4)) ta_z, n_Road g (fun i => a (i + 6)) (up2 ro_z 14 (Int32.toNatClampNeg x1) x2), n_Kinds g (fun i => a (i + 14)) ki_z, n_Rule g (fun i => a (i + 20)) ru_z ru_y, n_Notes g (fun i => a (i + 23)) no_z, n_Road g (fun i => a (i + 30)) sro_z, n_Kinds g (fun i => a (i + 38)) ski_z, n_Rule g (fun i => a (i + 44)) sru_z sru_y, n_Notes g (fun i => a (i + 47)) sno_z, n_Odds g (fun i => a (i + 54)) od_z od_y, n_Luck g (fun i => a (i + 57)) lu_z lu_y, n_Falls g (fun i => a (i + 59)) fa_z, n_Odds g (fun i => a (i + 60)) fod_z fod_y, n_House g (fun i => a (i + 63)) ho_z, n_Poles g (fun i => a (i + 64)) po_z, n_Odds g (fun i => a (i + 69)) pod_z pod_y] : List va_W)) hE hf 3 rfl 7 (wg_Road_7 g (fun i => a (i + 6)) ro_z) (wa_Road_7 g (fun i => a (i + 6)) ro_z (Int32.toNatClampNeg x1) x2) rfl dX11_coin_32 (fun hf => ?_)
      refine j_iconst (v := 1) hE dX11_coin_33 (by decide) ?_
      obtain rfl := Option.some.inj hf
      exact j_zret_c hE (Or.inr rfl) hq rfl rfl dX11_coin_34
    · refine j_iconst (v := 0) hE dX11_coin_21 (by decide) ?_
      obtain rfl := Option.some.inj hf
      exact j_zret_c hE (Or.inl rfl) hq rfl rfl dX11_coin_22
def rm_WP_poles : Room := { frames := 5, cells := 0, slots := 0, locals := 133 }
def f_WP_poles_60 (ro_z : jZ) (ki_z : jZ) (no_z : jZ) (x1 : Int32) (x2 : Int32) (x3 : Int32)  (po_z : jZ) (pod_y : jY) (s0 : Int32) (s1 : Int32) : Option (jZ × jY × Int32) := (f_Poles_best po_z s1 s0).bind fun q13 => (if x3 = 0 then some (po_z, pod_y, q13)
    else (if x3 = 1 then (f_Poles_saved po_z q13).bind fun q17 => some (po_z, pod_y, q17)
    else (f_Poles_brought po_z q13).bind fun q19 => some (po_z, pod_y, q19)))
def f_WP_poles (ro_z : jZ) (ki_z : jZ) (no_z : jZ) (po_z : jZ) (pod_y : jY) (x1 : Int32) (x2 : Int32) (x3 : Int32) : Option (jZ × jY × Int32) := (f_WP_isWithin x1 0 (ro_z 7 0)).bind fun q1 => (if q1 = 0 then some (po_z, pod_y, (-1))
    else (f_WP_isWithin x2 0 1).bind fun q4 => (if q4 = 0 then some (po_z, pod_y, (-1))
    else (f_WP_isWithin x3 0 2).bind fun q7 => (if q7 = 0 then some (po_z, pod_y, (-1))
    else (f_Poles_seekRates po_z pod_y ro_z ki_z no_z).bind fun q10 => (if x2 = 0 then f_WP_poles_60 ro_z ki_z no_z x1 x2 x3 q10.1 q10.2 1 x1
    else f_WP_poles_60 ro_z ki_z no_z x1 x2 x3 q10.1 q10.2 0 x1))))
set_option maxRecDepth 100000 in
theorem j_WP_poles_60 (E : jT) (g : jG) (a : Nat → Nat) (re_z : jZ) (ta_z : jZ) (ro_z : jZ) (ki_z : jZ) (ru_z : jZ) (ru_y : jY) (no_z : jZ) (sro_z : jZ) (ski_z : jZ) (sru_z : jZ) (sru_y : jY) (sno_z : jZ) (od_z : jZ) (od_y : jY) (lu_z : jZ) (lu_y : jY) (fa_z : jZ) (fod_z : jZ) (fod_y : jY) (ho_z : jZ) (pod_z : jZ) (x1 : Int32) (x2 : Int32) (x3 : Int32) (res : jZ × jY × Int32) (hE : jOk E g RX11 cX11_poles 5 (some .int) rm_WP_poles) (hq : jEnd E g (some (.int res.2.2)) (([n_WP g a , n_Reader g (fun i => a (i + 1)) re_z, n_Tape g (fun i => a (i + 4)) ta_z, n_Road g (fun i => a (i + 6)) ro_z, n_Kinds g (fun i => a (i + 14)) ki_z, n_Rule g (fun i => a (i + 20)) ru_z ru_y, n_Notes g (fun i => a (i + 23)) no_z, n_Road g (fun i => a (i + 30)) sro_z, n_Kinds g (fun i => a (i + 38)) ski_z, n_Rule g (fun i => a (i + 44)) sru_z sru_y, n_Notes g (fun i => a (i + 47)) sno_z, n_Odds g (fun i => a (i + 54)) od_z od_y, n_Luck g (fun i => a (i + 57)) lu_z lu_y, n_Falls g (fun i => a (i + 59)) fa_z, n_Odds g (fun i => a (i + 60)) fod_z fod_y, n_House g (fun i => a (i + 63)) ho_z, n_Poles g (fun i => a (i + 64)) res.1, n_Odds g (fun i => a (i + 69)) pod_z res.2.1] : List va_W)) 0 0)  (po_z : jZ) (pod_y : jY) (s0 : Int32) (s1 : Int32) (hf : f_WP_poles_60 ro_z ki_z no_z x1 x2 x3 po_z pod_y s0 s1 = some res) : J E g 0 0 (([n_WP g a , n_Reader g (fun i => a (i + 1)) re_z, n_Tape g (fun i => a (i + 4)) ta_z, n_Road g (fun i => a (i + 6)) ro_z, n_Kinds g (fun i => a (i + 14)) ki_z, n_Rule g (fun i => a (i + 20)) ru_z ru_y, n_Notes g (fun i => a (i + 23)) no_z, n_Road g (fun i => a (i + 30)) sro_z, n_Kinds g (fun i => a (i + 38)) ski_z, n_Rule g (fun i => a (i + 44)) sru_z sru_y, n_Notes g (fun i => a (i + 47)) sno_z, n_Odds g (fun i => a (i + 54)) od_z od_y, n_Luck g (fun i => a (i + 57)) lu_z lu_y, n_Falls g (fun i => a (i + 59)) fa_z, n_Odds g (fun i => a (i + 60)) fod_z fod_y, n_House g (fun i => a (i + 63)) ho_z, n_Poles g (fun i => a (i + 64)) po_z, n_Odds g (fun i => a (i + 69)) pod_z pod_y] : List va_W)) [(0, .ref (a 0)), (3, .int x3)] 60 [.int s0, .int s1, .ref (a 64)] := by
  unfold f_WP_poles_60 at hf
  obtain ⟨q13, hc14, hf⟩ := bind_of hf
  refine j_callV (ws' := ([n_WP g a , n_Reader g (fun i => a (i + 1)) re_z, n_Tape g (fun i => a (i + 4)) ta_z, n_Road g (fun i => a (i + 6)) ro_z, n_Kinds g (fun i => a (i + 14)) ki_z, n_Rule g (fun i => a (i + 20)) ru_z ru_y, n_Notes g (fun i => a (i + 23)) no_z, n_Road g (fun i => a (i + 30)) sro_z, n_Kinds g (fun i => a (i + 38)) ski_z, n_Rule g (fun i => a (i + 44)) sru_z sru_y, n_Notes g (fun i => a (i + 47)) sno_z, n_Odds g (fun i => a (i + 54)) od_z od_y, n_Luck g (fun i => a (i + 57)) lu_z lu_y, n_Falls g (fun i => a (i + 59)) fa_z, n_Odds g (fun i => a (i + 60)) fod_z fod_y, n_House g (fun i => a (i + 63)) ho_z, n_Poles g (fun i => a (i + 64)) po_z, n_Odds g (fun i => a (i + 69)) pod_z pod_y] : List va_W)) (As := [.int s1, .int s0]) (rest := []) (st2 := [.int q13]) hE (fun l => c_Poles_best l g (fun i => a (i + 64)) po_z pod_z pod_y s1 s0 q13 hc14) cd_X6_best cv_X6_best ml_WP_297 rfl rfl rfl (wg_Poles_0 _ _ _) ⟨⟨Nat.le_of_ble_eq_true rfl, Nat.le_of_ble_eq_true rfl⟩, ⟨Nat.zero_le _, Nat.zero_le _⟩, rfl, rfl⟩ [16, 17] rfl rfl rfl (Nat.le_of_ble_eq_true rfl) rfl dX11_poles_60 ?_
  refine j_istore (lv' := [(4, .int q13), (0, .ref (a 0)), (3, .int x3)]) hE dX11_poles_63 (by decide) rfl ?_
  refine j_iload_n hE dX11_poles_65 rfl 2 rfl ?_
  refine j_case hf (fun c15 hf => ?_) (fun c15 hf => ?_)
  · refine j_lookup (tgt := 92) hE dX11_poles_66 (by decide) (by rw [c15]; try rfl) (by decide) ?_
    refine j_iload hE dX11_poles_92 0 rfl ?_
    obtain rfl := Option.some.inj hf
    exact j_iret hE hq rfl rfl dX11_poles_94
  refine j_case hf (fun c16 hf => ?_) (fun c16 hf => ?_)
  · refine j_lookup (tgt := 95) hE dX11_poles_66 (by decide) (by rw [c16]; try rfl) (by decide) ?_
    refine j_aload_n hE dX11_poles_95 rfl 1 rfl ?_
    refine j_get (v := .ref (a 64)) hE lg_WP_59 0 rfl 0 (wg_WP_0 g a ) rfl dX11_poles_96 ?_
    refine j_iload hE dX11_poles_99 0 rfl ?_
    obtain ⟨q17, hc18, hf⟩ := bind_of hf
    refine j_callV (ws' := ([n_WP g a , n_Reader g (fun i => a (i + 1)) re_z, n_Tape g (fun i => a (i + 4)) ta_z, n_Road g (fun i => a (i + 6)) ro_z, n_Kinds g (fun i => a (i + 14)) ki_z, n_Rule g (fun i => a (i + 20)) ru_z ru_y, n_Notes g (fun i => a (i + 23)) no_z, n_Road g (fun i => a (i + 30)) sro_z, n_Kinds g (fun i => a (i + 38)) ski_z, n_Rule g (fun i => a (i + 44)) sru_z sru_y, n_Notes g (fun i => a (i + 47)) sno_z, n_Odds g (fun i => a (i + 54)) od_z od_y, n_Luck g (fun i => a (i + 57)) lu_z lu_y, n_Falls g (fun i => a (i + 59)) fa_z, n_Odds g (fun i => a (i + 60)) fod_z fod_y, n_House g (fun i => a (i + 63)) ho_z, n_Poles g (fun i => a (i + 64)) po_z, n_Odds g (fun i => a (i + 69)) pod_z pod_y] : List va_W)) (As := [.int q13]) (rest := []) (st2 := [.int q17]) hE (fun l => c_Poles_saved l g (fun i => a (i + 64)) po_z pod_z pod_y q13 q17 hc18) cd_X6_saved cv_X6_saved ml_WP_301 rfl rfl rfl (wg_Poles_0 _ _ _) ⟨⟨Nat.le_of_ble_eq_true rfl, Nat.le_of_ble_eq_true rfl⟩, ⟨Nat.zero_le _, Nat.zero_le _⟩, rfl, rfl⟩ [16, 17] rfl rfl rfl (Nat.le_of_ble_eq_true rfl) rfl dX11_poles_101 ?_
    obtain rfl := Option.some.inj hf
    exact j_iret hE hq rfl rfl dX11_poles_104
  have t_c15 : 0 ≠ Int32.toInt x3 := fun h => c15 (Int32.toInt_inj.mp (h.symm.trans (by decide)))
  have t_c16 : 1 ≠ Int32.toInt x3 := fun h => c16 (Int32.toInt_inj.mp (h.symm.trans (by decide)))
  refine j_lookup (off := 39) (tgt := 105) hE dX11_poles_66 (by decide) (by simp [Op.lookupswitch.offset, t_c15, t_c16]) (by decide) ?_
  refine j_aload_n hE dX11_poles_105 rfl 1 rfl ?_
  refine j_get (v := .ref (a 64)) hE lg_WP_59 0 rfl 0 (wg_WP_0 g a ) rfl dX11_poles_106 ?_
  refine j_iload hE dX11_poles_109 0 rfl ?_
  obtain ⟨q19, hc20, hf⟩ := bind_of hf
  refine j_callV (ws' := ([n_WP g a , n_Reader g (fun i => a (i + 1)) re_z, n_Tape g (fun i => a (i + 4)) ta_z, n_Road g (fun i => a (i + 6)) ro_z, n_Kinds g (fun i => a (i + 14)) ki_z, n_Rule g (fun i => a (i + 20)) ru_z ru_y, n_Notes g (fun i => a (i + 23)) no_z, n_Road g (fun i => a (i + 30)) sro_z, n_Kinds g (fun i => a (i + 38)) ski_z, n_Rule g (fun i => a (i + 44)) sru_z sru_y, n_Notes g (fun i => a (i + 47)) sno_z, n_Odds g (fun i => a (i + 54)) od_z od_y, n_Luck g (fun i => a (i + 57)) lu_z lu_y, n_Falls g (fun i => a (i + 59)) fa_z, n_Odds g (fun i => a (i + 60)) fod_z fod_y, n_House g (fun i => a (i + 63)) ho_z, n_Poles g (fun i => a (i + 64)) po_z, n_Odds g (fun i => a (i + 69)) pod_z pod_y] : List va_W)) (As := [.int q13]) (rest := []) (st2 := [.int q19]) hE (fun l => c_Poles_brought l g (fun i => a (i + 64)) po_z pod_z pod_y q13 q19 hc20) cd_X6_brought cv_X6_brought ml_WP_304 rfl rfl rfl (wg_Poles_0 _ _ _) ⟨⟨Nat.le_of_ble_eq_true rfl, Nat.le_of_ble_eq_true rfl⟩, ⟨Nat.zero_le _, Nat.zero_le _⟩, rfl, rfl⟩ [16, 17] rfl rfl rfl (Nat.le_of_ble_eq_true rfl) rfl dX11_poles_111 ?_
  obtain rfl := Option.some.inj hf
  exact j_iret hE hq rfl rfl dX11_poles_114
set_option maxRecDepth 100000 in
theorem c_WP_poles (l : Launch) (g : jG) (a : Nat → Nat) (re_z : jZ) (ta_z : jZ) (ro_z : jZ) (ki_z : jZ) (ru_z : jZ) (ru_y : jY) (no_z : jZ) (sro_z : jZ) (ski_z : jZ) (sru_z : jZ) (sru_y : jY) (sno_z : jZ) (od_z : jZ) (od_y : jY) (lu_z : jZ) (lu_y : jY) (fa_z : jZ) (fod_z : jZ) (fod_y : jY) (ho_z : jZ) (po_z : jZ) (pod_z : jZ) (pod_y : jY) (x1 : Int32) (x2 : Int32) (x3 : Int32) (res : jZ × jY × Int32) (hf : f_WP_poles ro_z ki_z no_z po_z pod_y x1 x2 x3 = some res) : MC l g yX11_poles cX11_poles 5 (some .int) rm_WP_poles [.ref (a 0), .int x1, .int x2, .int x3] (([n_WP g a , n_Reader g (fun i => a (i + 1)) re_z, n_Tape g (fun i => a (i + 4)) ta_z, n_Road g (fun i => a (i + 6)) ro_z, n_Kinds g (fun i => a (i + 14)) ki_z, n_Rule g (fun i => a (i + 20)) ru_z ru_y, n_Notes g (fun i => a (i + 23)) no_z, n_Road g (fun i => a (i + 30)) sro_z, n_Kinds g (fun i => a (i + 38)) ski_z, n_Rule g (fun i => a (i + 44)) sru_z sru_y, n_Notes g (fun i => a (i + 47)) sno_z, n_Odds g (fun i => a (i + 54)) od_z od_y, n_Luck g (fun i => a (i + 57)) lu_z lu_y, n_Falls g (fun i => a (i + 59)) fa_z, n_Odds g (fun i => a (i + 60)) fod_z fod_y, n_House g (fun i => a (i + 63)) ho_z, n_Poles g (fun i => a (i + 64)) po_z, n_Odds g (fun i => a (i + 69)) pod_z pod_y] : List va_W)) (some (.int res.2.2)) (([n_WP g a , n_Reader g (fun i => a (i + 1)) re_z, n_Tape g (fun i => a (i + 4)) ta_z, n_Road g (fun i => a (i + 6)) ro_z, n_Kinds g (fun i => a (i + 14)) ki_z, n_Rule g (fun i => a (i + 20)) ru_z ru_y, n_Notes g (fun i => a (i + 23)) no_z, n_Road g (fun i => a (i + 30)) sro_z, n_Kinds g (fun i => a (i + 38)) ski_z, n_Rule g (fun i => a (i + 44)) sru_z sru_y, n_Notes g (fun i => a (i + 47)) sno_z, n_Odds g (fun i => a (i + 54)) od_z od_y, n_Luck g (fun i => a (i + 57)) lu_z lu_y, n_Falls g (fun i => a (i + 59)) fa_z, n_Odds g (fun i => a (i + 60)) fod_z fod_y, n_House g (fun i => a (i + 63)) ho_z, n_Poles g (fun i => a (i + 64)) res.1, n_Odds g (fun i => a (i + 69)) pod_z res.2.1] : List va_W)) 0 0 := by
  refine MC_of (own := RX11) (lv := [(0, .ref (a 0)), (1, .int x1), (2, .int x2), (3, .int x3)]) (by decide) rfl (Nat.le_of_ble_eq_true rfl) rfl rfl (fun E hE hq => ?_)
  unfold f_WP_poles at hf
  refine j_iload_n hE dX11_poles_0 rfl 1 rfl ?_
  refine j_iconst (v := 0) hE dX11_poles_1 (by decide) ?_
  refine j_aload_n hE dX11_poles_2 rfl 0 rfl ?_
  refine j_get (v := .ref (a 6)) hE lg_WP_21 0 rfl 0 (wg_WP_0 g a ) rfl dX11_poles_3 ?_
  refine j_get (v := .int (ro_z 7 0)) hE lg_WP_111 3 rfl 0 (wg_Road_0 g (fun i => a (i + 6)) ro_z) rfl dX11_poles_6 ?_
  obtain ⟨q1, hc2, hf⟩ := bind_of hf
  refine j_callS (ws' := ([n_WP g a , n_Reader g (fun i => a (i + 1)) re_z, n_Tape g (fun i => a (i + 4)) ta_z, n_Road g (fun i => a (i + 6)) ro_z, n_Kinds g (fun i => a (i + 14)) ki_z, n_Rule g (fun i => a (i + 20)) ru_z ru_y, n_Notes g (fun i => a (i + 23)) no_z, n_Road g (fun i => a (i + 30)) sro_z, n_Kinds g (fun i => a (i + 38)) ski_z, n_Rule g (fun i => a (i + 44)) sru_z sru_y, n_Notes g (fun i => a (i + 47)) sno_z, n_Odds g (fun i => a (i + 54)) od_z od_y, n_Luck g (fun i => a (i + 57)) lu_z lu_y, n_Falls g (fun i => a (i + 59)) fa_z, n_Odds g (fun i => a (i + 60)) fod_z fod_y, n_House g (fun i => a (i + 63)) ho_z, n_Poles g (fun i => a (i + 64)) po_z, n_Odds g (fun i => a (i + 69)) pod_z pod_y] : List va_W)) (As := [.int x1, .int 0, .int (ro_z 7 0)]) (rest := []) (st2 := [.int q1]) hE (fun l => c_WP_isWithin l g x1 0 (ro_z 7 0) q1 hc2) cd_X11_isWithin st_X11_isWithin ml_WP_149 rfl rfl ⟨⟨Nat.le_of_ble_eq_true rfl, Nat.le_of_ble_eq_true rfl⟩, ⟨Nat.zero_le _, Nat.zero_le _⟩, rfl, rfl⟩ [] rfl rfl rfl (Nat.le_of_ble_eq_true rfl) rfl dX11_poles_9 ?_
  refine j_if_eq (tgt := 33) hE hf dX11_poles_12 (by decide) (fun c3 hf => ?_) (fun c3 hf => ?_)
  · refine j_iconst (v := (-1)) hE dX11_poles_33 (by decide) ?_
    obtain rfl := Option.some.inj hf
    exact j_iret hE hq rfl rfl dX11_poles_34
  · refine j_iload_n hE dX11_poles_15 rfl 2 rfl ?_
    refine j_iconst (v := 0) hE dX11_poles_16 (by decide) ?_
    refine j_iconst (v := 1) hE dX11_poles_17 (by decide) ?_
    obtain ⟨q4, hc5, hf⟩ := bind_of hf
    refine j_callS (ws' := ([n_WP g a , n_Reader g (fun i => a (i + 1)) re_z, n_Tape g (fun i => a (i + 4)) ta_z, n_Road g (fun i => a (i + 6)) ro_z, n_Kinds g (fun i => a (i + 14)) ki_z, n_Rule g (fun i => a (i + 20)) ru_z ru_y, n_Notes g (fun i => a (i + 23)) no_z, n_Road g (fun i => a (i + 30)) sro_z, n_Kinds g (fun i => a (i + 38)) ski_z, n_Rule g (fun i => a (i + 44)) sru_z sru_y, n_Notes g (fun i => a (i + 47)) sno_z, n_Odds g (fun i => a (i + 54)) od_z od_y, n_Luck g (fun i => a (i + 57)) lu_z lu_y, n_Falls g (fun i => a (i + 59)) fa_z, n_Odds g (fun i => a (i + 60)) fod_z fod_y, n_House g (fun i => a (i + 63)) ho_z, n_Poles g (fun i => a (i + 64)) po_z, n_Odds g (fun i => a (i + 69)) pod_z pod_y] : List va_W)) (As := [.int x2, .int 0, .int 1]) (rest := []) (st2 := [.int q4]) hE (fun l => c_WP_isWithin l g x2 0 1 q4 hc5) cd_X11_isWithin st_X11_isWithin ml_WP_149 rfl rfl ⟨⟨Nat.le_of_ble_eq_true rfl, Nat.le_of_ble_eq_true rfl⟩, ⟨Nat.zero_le _, Nat.zero_le _⟩, rfl, rfl⟩ [] rfl rfl rfl (Nat.le_of_ble_eq_true rfl) rfl dX11_poles_18 ?_
    refine j_if_eq (tgt := 33) hE hf dX11_poles_21 (by decide) (fun c6 hf => ?_) (fun c6 hf => ?_)
    · refine j_iconst (v := (-1)) hE dX11_poles_33 (by decide) ?_
      obtain rfl := Option.some.inj hf
      exact j_iret hE hq rfl rfl dX11_poles_34
    · refine j_iload_n hE dX11_poles_24 rfl 3 rfl ?_
      refine j_iconst (v := 0) hE dX11_poles_25 (by decide) ?_
      refine j_iconst (v := 2) hE dX11_poles_26 (by decide) ?_
      obtain ⟨q7, hc8, hf⟩ := bind_of hf
      refine j_callS (ws' := ([n_WP g a , n_Reader g (fun i => a (i + 1)) re_z, n_Tape g (fun i => a (i + 4)) ta_z, n_Road g (fun i => a (i + 6)) ro_z, n_Kinds g (fun i => a (i + 14)) ki_z, n_Rule g (fun i => a (i + 20)) ru_z ru_y, n_Notes g (fun i => a (i + 23)) no_z, n_Road g (fun i => a (i + 30)) sro_z, n_Kinds g (fun i => a (i + 38)) ski_z, n_Rule g (fun i => a (i + 44)) sru_z sru_y, n_Notes g (fun i => a (i + 47)) sno_z, n_Odds g (fun i => a (i + 54)) od_z od_y, n_Luck g (fun i => a (i + 57)) lu_z lu_y, n_Falls g (fun i => a (i + 59)) fa_z, n_Odds g (fun i => a (i + 60)) fod_z fod_y, n_House g (fun i => a (i + 63)) ho_z, n_Poles g (fun i => a (i + 64)) po_z, n_Odds g (fun i => a (i + 69)) pod_z pod_y] : List va_W)) (As := [.int x3, .int 0, .int 2]) (rest := []) (st2 := [.int q7]) hE (fun l => c_WP_isWithin l g x3 0 2 q7 hc8) cd_X11_isWithin st_X11_isWithin ml_WP_149 rfl rfl ⟨⟨Nat.le_of_ble_eq_true rfl, Nat.le_of_ble_eq_true rfl⟩, ⟨Nat.zero_le _, Nat.zero_le _⟩, rfl, rfl⟩ [] rfl rfl rfl (Nat.le_of_ble_eq_true rfl) rfl dX11_poles_27 ?_
      refine j_if_ne (tgt := 35) hE hf dX11_poles_30 (by decide) (fun c9 hf => ?_) (fun c9 hf => ?_)
      · refine j_aload_n hE dX11_poles_35 rfl 0 rfl ?_
        refine j_get (v := .ref (a 64)) hE lg_WP_59 0 rfl 0 (wg_WP_0 g a ) rfl dX11_poles_36 ?_
        refine j_aload_n hE dX11_poles_39 rfl 0 rfl ?_
        refine j_get (v := .ref (a 6)) hE lg_WP_21 0 rfl 0 (wg_WP_0 g a ) rfl dX11_poles_40 ?_
        obtain ⟨q10, hc11, hf⟩ := bind_of hf
        refine j_callV (ws' := ([n_WP g a , n_Reader g (fun i => a (i + 1)) re_z, n_Tape g (fun i => a (i + 4)) ta_z, n_Road g (fun i => a (i + 6)) ro_z, n_Kinds g (fun i => a (i + 14)) ki_z, n_Rule g (fun i => a (i + 20)) ru_z ru_y, n_Notes g (fun i => a (i + 23)) no_z, n_Road g (fun i => a (i + 30)) sro_z, n_Kinds g (fun i => a (i + 38)) ski_z, n_Rule g (fun i => a (i + 44)) sru_z sru_y, n_Notes g (fun i => a (i + 47)) sno_z, n_Odds g (fun i => a (i + 54)) od_z od_y, n_Luck g (fun i => a (i + 57)) lu_z lu_y, n_Falls g (fun i => a (i + 59)) fa_z, n_Odds g (fun i => a (i + 60)) fod_z fod_y, n_House g (fun i => a (i + 63)) ho_z, n_Poles g (fun i => a (i + 64)) q10.1, n_Odds g (fun i => a (i + 69)) pod_z q10.2] : List va_W)) (As := [.ref (a 6)]) (rest := []) (st2 := []) hE (fun l => c_Poles_seekRates l g (fun i => a (i + 64)) (fun i => a (i + 6)) po_z pod_z pod_y ro_z ki_z ru_z ru_y no_z q10 hc11) cd_X6_seekRates cv_X6_seekRates ml_WP_293 rfl rfl rfl (wg_Poles_0 _ _ _) ⟨⟨Nat.le_of_ble_eq_true rfl, Nat.le_of_ble_eq_true rfl⟩, ⟨Nat.zero_le _, Nat.zero_le _⟩, rfl, rfl⟩ [16, 17, 3, 4, 5, 6] rfl rfl rfl (Nat.le_of_ble_eq_true rfl) rfl dX11_poles_43 ?_
        refine j_aload_n hE dX11_poles_46 rfl 0 rfl ?_
        refine j_get (v := .ref (a 64)) hE lg_WP_59 0 rfl 0 (wg_WP_0 g a ) rfl dX11_poles_47 ?_
        refine j_iload_n hE dX11_poles_50 rfl 1 rfl ?_
        refine j_iload_n hE dX11_poles_51 rfl 2 rfl ?_
        refine j_if_ne (tgt := 59) hE hf dX11_poles_52 (by decide) (fun c12 hf => ?_) (fun c12 hf => ?_)
        · refine j_iconst (v := 0) hE dX11_poles_59 (by decide) ?_
          exact j_sub [0, 3] rfl (j_WP_poles_60 E g a re_z ta_z ro_z ki_z ru_z ru_y no_z sro_z ski_z sru_z sru_y sno_z od_z od_y lu_z lu_y fa_z fod_z fod_y ho_z pod_z x1 x2 x3 res hE hq q10.1 q10.2 0 x1 hf)
        · refine j_iconst (v := 1) hE dX11_poles_55 (by decide) ?_
          refine j_goto (tgt := 60) hE dX11_poles_56 (by decide) ?_
          exact j_sub [0, 3] rfl (j_WP_poles_60 E g a re_z ta_z ro_z ki_z ru_z ru_y no_z sro_z ski_z sru_z sru_y sno_z od_z od_y lu_z lu_y fa_z fod_z fod_y ho_z pod_z x1 x2 x3 res hE hq q10.1 q10.2 1 x1 hf)
      · refine j_iconst (v := (-1)) hE dX11_poles_33 (by decide) ?_
        obtain rfl := Option.some.inj hf
        exact j_iret hE hq rfl rfl dX11_poles_34
def rm_WP_never : Room := { frames := 5, cells := 0, slots := 0, locals := 133 }
def f_WP_never_4 (ro_z : jZ) (ki_z : jZ) (no_z : jZ)   : Nat → jZ → jY → jZ → jY → Int32 → Int32 → Option (jZ × jY × jZ × jY × Int32)
  | 0, _, _, _, _, _, _ => none
  | n + 1, ru_z, ru_y, po_z, pod_y, v1, v2 => (if 9 < v2 then (f_Poles_seekRates po_z pod_y ro_z ki_z no_z).bind fun q2 => (f_Poles_aboveSomeBox q2.1 ro_z).bind fun q4 => some (ru_z, ru_y, q2.1, q2.2, (q4 &&& (v1 ^^^ (-1))))
    else (f_Road_takenIn ro_z ru_z ru_y no_z v2).bind fun q6 => f_WP_never_4 ro_z ki_z no_z n q6.1 q6.2.1 po_z pod_y (v1 ||| q6.2.2) (v2 + 1))
def f_WP_never (ro_z : jZ) (ki_z : jZ) (ru_z : jZ) (ru_y : jY) (no_z : jZ) (po_z : jZ) (pod_y : jY)  : Option (jZ × jY × jZ × jY × Int32) := f_WP_never_4 ro_z ki_z no_z FU ru_z ru_y po_z pod_y 0 3
set_option maxRecDepth 100000 in
theorem j_WP_never_4 (E : jT) (g : jG) (a : Nat → Nat) (re_z : jZ) (ta_z : jZ) (ro_z : jZ) (ki_z : jZ) (no_z : jZ) (sro_z : jZ) (ski_z : jZ) (sru_z : jZ) (sru_y : jY) (sno_z : jZ) (od_z : jZ) (od_y : jY) (lu_z : jZ) (lu_y : jY) (fa_z : jZ) (fod_z : jZ) (fod_y : jY) (ho_z : jZ) (pod_z : jZ)  (res : jZ × jY × jZ × jY × Int32) (hE : jOk E g RX11 cX11_never 3 (some .int) rm_WP_never) (hq : jEnd E g (some (.int res.2.2.2.2)) (([n_WP g a , n_Reader g (fun i => a (i + 1)) re_z, n_Tape g (fun i => a (i + 4)) ta_z, n_Road g (fun i => a (i + 6)) ro_z, n_Kinds g (fun i => a (i + 14)) ki_z, n_Rule g (fun i => a (i + 20)) res.1 res.2.1, n_Notes g (fun i => a (i + 23)) no_z, n_Road g (fun i => a (i + 30)) sro_z, n_Kinds g (fun i => a (i + 38)) ski_z, n_Rule g (fun i => a (i + 44)) sru_z sru_y, n_Notes g (fun i => a (i + 47)) sno_z, n_Odds g (fun i => a (i + 54)) od_z od_y, n_Luck g (fun i => a (i + 57)) lu_z lu_y, n_Falls g (fun i => a (i + 59)) fa_z, n_Odds g (fun i => a (i + 60)) fod_z fod_y, n_House g (fun i => a (i + 63)) ho_z, n_Poles g (fun i => a (i + 64)) res.2.2.1, n_Odds g (fun i => a (i + 69)) pod_z res.2.2.2.1] : List va_W)) 0 0)  : ∀ (n : Nat) (ru_z : jZ) (ru_y : jY) (po_z : jZ) (pod_y : jY) (v1 : Int32) (v2 : Int32), f_WP_never_4 ro_z ki_z no_z n ru_z ru_y po_z pod_y v1 v2 = some res → J E g 0 0 (([n_WP g a , n_Reader g (fun i => a (i + 1)) re_z, n_Tape g (fun i => a (i + 4)) ta_z, n_Road g (fun i => a (i + 6)) ro_z, n_Kinds g (fun i => a (i + 14)) ki_z, n_Rule g (fun i => a (i + 20)) ru_z ru_y, n_Notes g (fun i => a (i + 23)) no_z, n_Road g (fun i => a (i + 30)) sro_z, n_Kinds g (fun i => a (i + 38)) ski_z, n_Rule g (fun i => a (i + 44)) sru_z sru_y, n_Notes g (fun i => a (i + 47)) sno_z, n_Odds g (fun i => a (i + 54)) od_z od_y, n_Luck g (fun i => a (i + 57)) lu_z lu_y, n_Falls g (fun i => a (i + 59)) fa_z, n_Odds g (fun i => a (i + 60)) fod_z fod_y, n_House g (fun i => a (i + 63)) ho_z, n_Poles g (fun i => a (i + 64)) po_z, n_Odds g (fun i => a (i + 69)) pod_z pod_y] : List va_W)) [(0, .ref (a 0)), (1, .int v1), (2, .int v2)] 4 [] := by
  intro n
  induction n with
  | zero =>
    intro ru_z ru_y po_z pod_y v1 v2 hf
    rw [f_WP_never_4] at hf
    cases hf
  | succ n ih =>
    intro ru_z ru_y po_z pod_y v1 v2 hf
    rw [f_WP_never_4] at hf
    refine j_iload_n hE dX11_never_4 rfl 2 rfl ?_
    refine j_bipush (v := 9) hE dX11_never_5 (by decide) ?_
    refine j_icmp_gt (tgt := 27) hE hf dX11_never_7 (by decide) (fun c1 hf => ?_) (fun c1 hf => ?_)
    · refine j_aload_n hE dX11_never_27 rfl 0 rfl ?_
      refine j_get (v := .ref (a 64)) hE lg_WP_59 0 rfl 0 (wg_WP_0 g a ) rfl dX11_never_28 ?_
      refine j_aload_n hE dX11_never_31 rfl 0 rfl ?_
      refine j_get (v := .ref (a 6)) hE lg_WP_21 0 rfl 0 (wg_WP_0 g a ) rfl dX11_never_32 ?_
      obtain ⟨q2, hc3, hf⟩ := bind_of hf
      refine j_callV (ws' := ([n_WP g a , n_Reader g (fun i => a (i + 1)) re_z, n_Tape g (fun i => a (i + 4)) ta_z, n_Road g (fun i => a (i + 6)) ro_z, n_Kinds g (fun i => a (i + 14)) ki_z, n_Rule g (fun i => a (i + 20)) ru_z ru_y, n_Notes g (fun i => a (i + 23)) no_z, n_Road g (fun i => a (i + 30)) sro_z, n_Kinds g (fun i => a (i + 38)) ski_z, n_Rule g (fun i => a (i + 44)) sru_z sru_y, n_Notes g (fun i => a (i + 47)) sno_z, n_Odds g (fun i => a (i + 54)) od_z od_y, n_Luck g (fun i => a (i + 57)) lu_z lu_y, n_Falls g (fun i => a (i + 59)) fa_z, n_Odds g (fun i => a (i + 60)) fod_z fod_y, n_House g (fun i => a (i + 63)) ho_z, n_Poles g (fun i => a (i + 64)) q2.1, n_Odds g (fun i => a (i + 69)) pod_z q2.2] : List va_W)) (As := [.ref (a 6)]) (rest := []) (st2 := []) hE (fun l => c_Poles_seekRates l g (fun i => a (i + 64)) (fun i => a (i + 6)) po_z pod_z pod_y ro_z ki_z ru_z ru_y no_z q2 hc3) cd_X6_seekRates cv_X6_seekRates ml_WP_293 rfl rfl rfl (wg_Poles_0 _ _ _) ⟨⟨Nat.le_of_ble_eq_true rfl, Nat.le_of_ble_eq_true rfl⟩, ⟨Nat.zero_le _, Nat.zero_le _⟩, rfl, rfl⟩ [16, 17, 3, 4, 5, 6] rfl rfl rfl (Nat.le_of_ble_eq_true rfl) rfl dX11_never_35 ?_
      refine j_aload_n hE dX11_never_38 rfl 0 rfl ?_
      refine j_get (v := .ref (a 64)) hE lg_WP_59 0 rfl 0 (wg_WP_0 g a ) rfl dX11_never_39 ?_
      refine j_aload_n hE dX11_never_42 rfl 0 rfl ?_
      refine j_get (v := .ref (a 6)) hE lg_WP_21 0 rfl 0 (wg_WP_0 g a ) rfl dX11_never_43 ?_
      obtain ⟨q4, hc5, hf⟩ := bind_of hf
      refine j_callV (ws' := ([n_WP g a , n_Reader g (fun i => a (i + 1)) re_z, n_Tape g (fun i => a (i + 4)) ta_z, n_Road g (fun i => a (i + 6)) ro_z, n_Kinds g (fun i => a (i + 14)) ki_z, n_Rule g (fun i => a (i + 20)) ru_z ru_y, n_Notes g (fun i => a (i + 23)) no_z, n_Road g (fun i => a (i + 30)) sro_z, n_Kinds g (fun i => a (i + 38)) ski_z, n_Rule g (fun i => a (i + 44)) sru_z sru_y, n_Notes g (fun i => a (i + 47)) sno_z, n_Odds g (fun i => a (i + 54)) od_z od_y, n_Luck g (fun i => a (i + 57)) lu_z lu_y, n_Falls g (fun i => a (i + 59)) fa_z, n_Odds g (fun i => a (i + 60)) fod_z fod_y, n_House g (fun i => a (i + 63)) ho_z, n_Poles g (fun i => a (i + 64)) q2.1, n_Odds g (fun i => a (i + 69)) pod_z q2.2] : List va_W)) (As := [.ref (a 6)]) (rest := []) (st2 := [.int q4]) hE (fun l => c_Poles_aboveSomeBox l g (fun i => a (i + 64)) (fun i => a (i + 6)) q2.1 pod_z q2.2 ro_z ki_z ru_z ru_y no_z q4 hc5) cd_X6_aboveSomeBox cv_X6_aboveSomeBox ml_WP_307 rfl rfl rfl (wg_Poles_0 _ _ _) ⟨⟨Nat.le_of_ble_eq_true rfl, Nat.le_of_ble_eq_true rfl⟩, ⟨Nat.zero_le _, Nat.zero_le _⟩, rfl, rfl⟩ [16, 17, 3, 4, 5, 6] rfl rfl rfl (Nat.le_of_ble_eq_true rfl) rfl dX11_never_46 ?_
      refine j_iload_n hE dX11_never_49 rfl 1 rfl ?_
      refine j_iconst (v := (-1)) hE dX11_never_50 (by decide) ?_
      refine j_ixor hE dX11_never_51 ?_
      refine j_iand hE dX11_never_52 ?_
      obtain rfl := Option.some.inj hf
      exact j_iret hE hq rfl rfl dX11_never_53
    · refine j_iload_n hE dX11_never_10 rfl 1 rfl ?_
      refine j_aload_n hE dX11_never_11 rfl 0 rfl ?_
      refine j_get (v := .ref (a 6)) hE lg_WP_21 0 rfl 0 (wg_WP_0 g a ) rfl dX11_never_12 ?_
      refine j_iload_n hE dX11_never_15 rfl 2 rfl ?_
      obtain ⟨q6, hc7, hf⟩ := bind_of hf
      refine j_callV (ws' := ([n_WP g a , n_Reader g (fun i => a (i + 1)) re_z, n_Tape g (fun i => a (i + 4)) ta_z, n_Road g (fun i => a (i + 6)) ro_z, n_Kinds g (fun i => a (i + 14)) ki_z, n_Rule g (fun i => a (i + 20)) q6.1 q6.2.1, n_Notes g (fun i => a (i + 23)) no_z, n_Road g (fun i => a (i + 30)) sro_z, n_Kinds g (fun i => a (i + 38)) ski_z, n_Rule g (fun i => a (i + 44)) sru_z sru_y, n_Notes g (fun i => a (i + 47)) sno_z, n_Odds g (fun i => a (i + 54)) od_z od_y, n_Luck g (fun i => a (i + 57)) lu_z lu_y, n_Falls g (fun i => a (i + 59)) fa_z, n_Odds g (fun i => a (i + 60)) fod_z fod_y, n_House g (fun i => a (i + 63)) ho_z, n_Poles g (fun i => a (i + 64)) po_z, n_Odds g (fun i => a (i + 69)) pod_z pod_y] : List va_W)) (As := [.int v2]) (rest := [.int v1]) (st2 := [.int q6.2.2, .int v1]) hE (fun l => c_Road_takenIn l g (fun i => a (i + 6)) ro_z ki_z ru_z ru_y no_z v2 q6 hc7) cd_X8_takenIn cv_X8_takenIn ml_WP_206 rfl rfl rfl (wg_Road_0 _ _ _) ⟨⟨Nat.le_of_ble_eq_true rfl, Nat.le_of_ble_eq_true rfl⟩, ⟨Nat.zero_le _, Nat.zero_le _⟩, rfl, rfl⟩ [3, 4, 5, 6] rfl rfl rfl (Nat.le_of_ble_eq_true rfl) rfl dX11_never_16 ?_
      refine j_ior hE dX11_never_19 ?_
      refine j_istore_n (lv' := [(1, .int (v1 ||| q6.2.2)), (0, .ref (a 0)), (2, .int v2)]) hE dX11_never_20 rfl (by decide) rfl ?_
      refine j_iinc (v := (v2 + 1)) (lv' := [(2, .int (v2 + 1)), (1, .int (v1 ||| q6.2.2)), (0, .ref (a 0))]) hE dX11_never_21 2 rfl rfl (by decide) rfl ?_
      refine j_goto (tgt := 4) hE dX11_never_24 (by decide) ?_
      exact j_sub [2, 1, 0] rfl (ih q6.1 q6.2.1 po_z pod_y (v1 ||| q6.2.2) (v2 + 1) hf)
set_option maxRecDepth 100000 in
theorem c_WP_never (l : Launch) (g : jG) (a : Nat → Nat) (re_z : jZ) (ta_z : jZ) (ro_z : jZ) (ki_z : jZ) (ru_z : jZ) (ru_y : jY) (no_z : jZ) (sro_z : jZ) (ski_z : jZ) (sru_z : jZ) (sru_y : jY) (sno_z : jZ) (od_z : jZ) (od_y : jY) (lu_z : jZ) (lu_y : jY) (fa_z : jZ) (fod_z : jZ) (fod_y : jY) (ho_z : jZ) (po_z : jZ) (pod_z : jZ) (pod_y : jY)  (res : jZ × jY × jZ × jY × Int32) (hf : f_WP_never ro_z ki_z ru_z ru_y no_z po_z pod_y = some res) : MC l g yX11_never cX11_never 3 (some .int) rm_WP_never [.ref (a 0)] (([n_WP g a , n_Reader g (fun i => a (i + 1)) re_z, n_Tape g (fun i => a (i + 4)) ta_z, n_Road g (fun i => a (i + 6)) ro_z, n_Kinds g (fun i => a (i + 14)) ki_z, n_Rule g (fun i => a (i + 20)) ru_z ru_y, n_Notes g (fun i => a (i + 23)) no_z, n_Road g (fun i => a (i + 30)) sro_z, n_Kinds g (fun i => a (i + 38)) ski_z, n_Rule g (fun i => a (i + 44)) sru_z sru_y, n_Notes g (fun i => a (i + 47)) sno_z, n_Odds g (fun i => a (i + 54)) od_z od_y, n_Luck g (fun i => a (i + 57)) lu_z lu_y, n_Falls g (fun i => a (i + 59)) fa_z, n_Odds g (fun i => a (i + 60)) fod_z fod_y, n_House g (fun i => a (i + 63)) ho_z, n_Poles g (fun i => a (i + 64)) po_z, n_Odds g (fun i => a (i + 69)) pod_z pod_y] : List va_W)) (some (.int res.2.2.2.2)) (([n_WP g a , n_Reader g (fun i => a (i + 1)) re_z, n_Tape g (fun i => a (i + 4)) ta_z, n_Road g (fun i => a (i + 6)) ro_z, n_Kinds g (fun i => a (i + 14)) ki_z, n_Rule g (fun i => a (i + 20)) res.1 res.2.1, n_Notes g (fun i => a (i + 23)) no_z, n_Road g (fun i => a (i + 30)) sro_z, n_Kinds g (fun i => a (i + 38)) ski_z, n_Rule g (fun i => a (i + 44)) sru_z sru_y, n_Notes g (fun i => a (i + 47)) sno_z, n_Odds g (fun i => a (i + 54)) od_z od_y, n_Luck g (fun i => a (i + 57)) lu_z lu_y, n_Falls g (fun i => a (i + 59)) fa_z, n_Odds g (fun i => a (i + 60)) fod_z fod_y, n_House g (fun i => a (i + 63)) ho_z, n_Poles g (fun i => a (i + 64)) res.2.2.1, n_Odds g (fun i => a (i + 69)) pod_z res.2.2.2.1] : List va_W)) 0 0 := by
  refine MC_of (own := RX11) (lv := [(0, .ref (a 0))]) (by decide) rfl (Nat.le_of_ble_eq_true rfl) rfl rfl (fun E hE hq => ?_)
  unfold f_WP_never at hf
  refine j_iconst (v := 0) hE dX11_never_0 (by decide) ?_
  refine j_istore_n (lv' := [(1, .int 0), (0, .ref (a 0))]) hE dX11_never_1 rfl (by decide) rfl ?_
  refine j_iconst (v := 3) hE dX11_never_2 (by decide) ?_
  refine j_istore_n (lv' := [(2, .int 3), (1, .int 0), (0, .ref (a 0))]) hE dX11_never_3 rfl (by decide) rfl ?_
  exact j_sub [2, 1, 0] rfl (j_WP_never_4 E g a re_z ta_z ro_z ki_z no_z sro_z ski_z sru_z sru_y sno_z od_z od_y lu_z lu_y fa_z fod_z fod_y ho_z pod_z res hE hq FU ru_z ru_y po_z pod_y 0 3 hf)
def rm_WP_draws : Room := { frames := 6, cells := 0, slots := 0, locals := 150 }
def f_WP_draws (ki_z : jZ) (ru_z : jZ) (ru_y : jY) (lu_z : jZ) (x1 : Int32) (x2 : Int32) (x3 : Int32) : Option (jZ × jY × jZ × Int32) := (if x1 < 0 then some (ru_z, ru_y, lu_z, (-2147483648))
    else (f_WP_isWithin x2 1 500).bind fun q2 => (if q2 = 0 then some (ru_z, ru_y, lu_z, (-2147483648))
    else (f_WP_isWithin x3 0 1).bind fun q5 => (if q5 = 0 then some (ru_z, ru_y, lu_z, (-2147483648))
    else (if (ki_z 0 0) = 0 then some (ru_z, ru_y, lu_z, (-2147483648))
    else (f_Luck_deal lu_z ki_z ru_z ru_y x1 x2).bind fun q9 => (if x3 = 0 then some (q9.2.1, q9.2.2, q9.1, (q9.1 6 0))
    else some (q9.2.1, q9.2.2, q9.1, (q9.1 7 0)))))))
set_option maxRecDepth 100000 in
theorem c_WP_draws (l : Launch) (g : jG) (a : Nat → Nat) (re_z : jZ) (ta_z : jZ) (ro_z : jZ) (ki_z : jZ) (ru_z : jZ) (ru_y : jY) (no_z : jZ) (sro_z : jZ) (ski_z : jZ) (sru_z : jZ) (sru_y : jY) (sno_z : jZ) (od_z : jZ) (od_y : jY) (lu_z : jZ) (lu_y : jY) (fa_z : jZ) (fod_z : jZ) (fod_y : jY) (ho_z : jZ) (po_z : jZ) (pod_z : jZ) (pod_y : jY) (x1 : Int32) (x2 : Int32) (x3 : Int32) (res : jZ × jY × jZ × Int32) (hf : f_WP_draws ki_z ru_z ru_y lu_z x1 x2 x3 = some res) : MC l g yX11_draws cX11_draws 4 (some .int) rm_WP_draws [.ref (a 0), .int x1, .int x2, .int x3] (([n_WP g a , n_Reader g (fun i => a (i + 1)) re_z, n_Tape g (fun i => a (i + 4)) ta_z, n_Road g (fun i => a (i + 6)) ro_z, n_Kinds g (fun i => a (i + 14)) ki_z, n_Rule g (fun i => a (i + 20)) ru_z ru_y, n_Notes g (fun i => a (i + 23)) no_z, n_Road g (fun i => a (i + 30)) sro_z, n_Kinds g (fun i => a (i + 38)) ski_z, n_Rule g (fun i => a (i + 44)) sru_z sru_y, n_Notes g (fun i => a (i + 47)) sno_z, n_Odds g (fun i => a (i + 54)) od_z od_y, n_Luck g (fun i => a (i + 57)) lu_z lu_y, n_Falls g (fun i => a (i + 59)) fa_z, n_Odds g (fun i => a (i + 60)) fod_z fod_y, n_House g (fun i => a (i + 63)) ho_z, n_Poles g (fun i => a (i + 64)) po_z, n_Odds g (fun i => a (i + 69)) pod_z pod_y] : List va_W)) (some (.int res.2.2.2)) (([n_WP g a , n_Reader g (fun i => a (i + 1)) re_z, n_Tape g (fun i => a (i + 4)) ta_z, n_Road g (fun i => a (i + 6)) ro_z, n_Kinds g (fun i => a (i + 14)) ki_z, n_Rule g (fun i => a (i + 20)) res.1 res.2.1, n_Notes g (fun i => a (i + 23)) no_z, n_Road g (fun i => a (i + 30)) sro_z, n_Kinds g (fun i => a (i + 38)) ski_z, n_Rule g (fun i => a (i + 44)) sru_z sru_y, n_Notes g (fun i => a (i + 47)) sno_z, n_Odds g (fun i => a (i + 54)) od_z od_y, n_Luck g (fun i => a (i + 57)) res.2.2.1 lu_y, n_Falls g (fun i => a (i + 59)) fa_z, n_Odds g (fun i => a (i + 60)) fod_z fod_y, n_House g (fun i => a (i + 63)) ho_z, n_Poles g (fun i => a (i + 64)) po_z, n_Odds g (fun i => a (i + 69)) pod_z pod_y] : List va_W)) 0 0 := by
  refine MC_of (own := RX11) (lv := [(0, .ref (a 0)), (1, .int x1), (2, .int x2), (3, .int x3)]) (by decide) rfl (Nat.le_of_ble_eq_true rfl) rfl rfl (fun E hE hq => ?_)
  unfold f_WP_draws at hf
  refine j_iload_n hE dX11_draws_0 rfl 1 rfl ?_
  refine j_if_lt (tgt := 37) hE hf dX11_draws_1 (by decide) (fun c1 hf => ?_) (fun c1 hf => ?_)
  · refine j_ldc hE co_WP_236 dX11_draws_37 ?_
    obtain rfl := Option.some.inj hf
    exact j_iret hE hq rfl rfl dX11_draws_39
  · refine j_iload_n hE dX11_draws_4 rfl 2 rfl ?_
    refine j_iconst (v := 1) hE dX11_draws_5 (by decide) ?_
    refine j_sipush (v := 500) hE dX11_draws_6 (by decide) ?_
    obtain ⟨q2, hc3, hf⟩ := bind_of hf
    refine j_callS (ws' := ([n_WP g a , n_Reader g (fun i => a (i + 1)) re_z, n_Tape g (fun i => a (i + 4)) ta_z, n_Road g (fun i => a (i + 6)) ro_z, n_Kinds g (fun i => a (i + 14)) ki_z, n_Rule g (fun i => a (i + 20)) ru_z ru_y, n_Notes g (fun i => a (i + 23)) no_z, n_Road g (fun i => a (i + 30)) sro_z, n_Kinds g (fun i => a (i + 38)) ski_z, n_Rule g (fun i => a (i + 44)) sru_z sru_y, n_Notes g (fun i => a (i + 47)) sno_z, n_Odds g (fun i => a (i + 54)) od_z od_y, n_Luck g (fun i => a (i + 57)) lu_z lu_y, n_Falls g (fun i => a (i + 59)) fa_z, n_Odds g (fun i => a (i + 60)) fod_z fod_y, n_House g (fun i => a (i + 63)) ho_z, n_Poles g (fun i => a (i + 64)) po_z, n_Odds g (fun i => a (i + 69)) pod_z pod_y] : List va_W)) (As := [.int x2, .int 1, .int 500]) (rest := []) (st2 := [.int q2]) hE (fun l => c_WP_isWithin l g x2 1 500 q2 hc3) cd_X11_isWithin st_X11_isWithin ml_WP_149 rfl rfl ⟨⟨Nat.le_of_ble_eq_true rfl, Nat.le_of_ble_eq_true rfl⟩, ⟨Nat.zero_le _, Nat.zero_le _⟩, rfl, rfl⟩ [] rfl rfl rfl (Nat.le_of_ble_eq_true rfl) rfl dX11_draws_9 ?_
    refine j_if_eq (tgt := 37) hE hf dX11_draws_12 (by decide) (fun c4 hf => ?_) (fun c4 hf => ?_)
    · refine j_ldc hE co_WP_236 dX11_draws_37 ?_
      obtain rfl := Option.some.inj hf
      exact j_iret hE hq rfl rfl dX11_draws_39
    · refine j_iload_n hE dX11_draws_15 rfl 3 rfl ?_
      refine j_iconst (v := 0) hE dX11_draws_16 (by decide) ?_
      refine j_iconst (v := 1) hE dX11_draws_17 (by decide) ?_
      obtain ⟨q5, hc6, hf⟩ := bind_of hf
      refine j_callS (ws' := ([n_WP g a , n_Reader g (fun i => a (i + 1)) re_z, n_Tape g (fun i => a (i + 4)) ta_z, n_Road g (fun i => a (i + 6)) ro_z, n_Kinds g (fun i => a (i + 14)) ki_z, n_Rule g (fun i => a (i + 20)) ru_z ru_y, n_Notes g (fun i => a (i + 23)) no_z, n_Road g (fun i => a (i + 30)) sro_z, n_Kinds g (fun i => a (i + 38)) ski_z, n_Rule g (fun i => a (i + 44)) sru_z sru_y, n_Notes g (fun i => a (i + 47)) sno_z, n_Odds g (fun i => a (i + 54)) od_z od_y, n_Luck g (fun i => a (i + 57)) lu_z lu_y, n_Falls g (fun i => a (i + 59)) fa_z, n_Odds g (fun i => a (i + 60)) fod_z fod_y, n_House g (fun i => a (i + 63)) ho_z, n_Poles g (fun i => a (i + 64)) po_z, n_Odds g (fun i => a (i + 69)) pod_z pod_y] : List va_W)) (As := [.int x3, .int 0, .int 1]) (rest := []) (st2 := [.int q5]) hE (fun l => c_WP_isWithin l g x3 0 1 q5 hc6) cd_X11_isWithin st_X11_isWithin ml_WP_149 rfl rfl ⟨⟨Nat.le_of_ble_eq_true rfl, Nat.le_of_ble_eq_true rfl⟩, ⟨Nat.zero_le _, Nat.zero_le _⟩, rfl, rfl⟩ [] rfl rfl rfl (Nat.le_of_ble_eq_true rfl) rfl dX11_draws_18 ?_
      refine j_if_eq (tgt := 37) hE hf dX11_draws_21 (by decide) (fun c7 hf => ?_) (fun c7 hf => ?_)
      · refine j_ldc hE co_WP_236 dX11_draws_37 ?_
        obtain rfl := Option.some.inj hf
        exact j_iret hE hq rfl rfl dX11_draws_39
      · refine j_aload_n hE dX11_draws_24 rfl 0 rfl ?_
        refine j_get (v := .ref (a 6)) hE lg_WP_21 0 rfl 0 (wg_WP_0 g a ) rfl dX11_draws_25 ?_
        refine j_get (v := .ref (a 14)) hE lg_WP_93 3 rfl 0 (wg_Road_0 g (fun i => a (i + 6)) ro_z) rfl dX11_draws_28 ?_
        refine j_get (v := .int (ki_z 0 0)) hE lg_WP_103 4 rfl 0 (wg_Kinds_0 g (fun i => a (i + 14)) ki_z) rfl dX11_draws_31 ?_
        refine j_if_ne (tgt := 40) hE hf dX11_draws_34 (by decide) (fun c8 hf => ?_) (fun c8 hf => ?_)
        · refine j_aload_n hE dX11_draws_40 rfl 0 rfl ?_
          refine j_get (v := .ref (a 57)) hE lg_WP_38 0 rfl 0 (wg_WP_0 g a ) rfl dX11_draws_41 ?_
          refine j_aload_n hE dX11_draws_44 rfl 0 rfl ?_
          refine j_get (v := .ref (a 6)) hE lg_WP_21 0 rfl 0 (wg_WP_0 g a ) rfl dX11_draws_45 ?_
          refine j_iload_n hE dX11_draws_48 rfl 1 rfl ?_
          refine j_iload_n hE dX11_draws_49 rfl 2 rfl ?_
          obtain ⟨q9, hc10, hf⟩ := bind_of hf
          refine j_callV (ws' := ([n_WP g a , n_Reader g (fun i => a (i + 1)) re_z, n_Tape g (fun i => a (i + 4)) ta_z, n_Road g (fun i => a (i + 6)) ro_z, n_Kinds g (fun i => a (i + 14)) ki_z, n_Rule g (fun i => a (i + 20)) q9.2.1 q9.2.2, n_Notes g (fun i => a (i + 23)) no_z, n_Road g (fun i => a (i + 30)) sro_z, n_Kinds g (fun i => a (i + 38)) ski_z, n_Rule g (fun i => a (i + 44)) sru_z sru_y, n_Notes g (fun i => a (i + 47)) sno_z, n_Odds g (fun i => a (i + 54)) od_z od_y, n_Luck g (fun i => a (i + 57)) q9.1 lu_y, n_Falls g (fun i => a (i + 59)) fa_z, n_Odds g (fun i => a (i + 60)) fod_z fod_y, n_House g (fun i => a (i + 63)) ho_z, n_Poles g (fun i => a (i + 64)) po_z, n_Odds g (fun i => a (i + 69)) pod_z pod_y] : List va_W)) (As := [.ref (a 6), .int x1, .int x2]) (rest := []) (st2 := []) hE (fun l => c_Luck_deal l g (fun i => a (i + 57)) (fun i => a (i + 6)) lu_z lu_y ro_z ki_z ru_z ru_y no_z x1 x2 q9 hc10) cd_X3_deal cv_X3_deal ml_WP_311 rfl rfl rfl (wg_Luck_0 _ _ _ _) ⟨⟨Nat.le_of_ble_eq_true rfl, Nat.le_of_ble_eq_true rfl⟩, ⟨Nat.zero_le _, Nat.zero_le _⟩, rfl, rfl⟩ [12, 3, 4, 5, 6] rfl rfl rfl (Nat.le_of_ble_eq_true rfl) rfl dX11_draws_50 ?_
          refine j_iload_n hE dX11_draws_53 rfl 3 rfl ?_
          refine j_if_ne (tgt := 67) hE hf dX11_draws_54 (by decide) (fun c11 hf => ?_) (fun c11 hf => ?_)
          · refine j_aload_n hE dX11_draws_67 rfl 0 rfl ?_
            refine j_get (v := .ref (a 57)) hE lg_WP_38 0 rfl 0 (wg_WP_0 g a ) rfl dX11_draws_68 ?_
            refine j_get (v := .int (q9.1 7 0)) hE lg_WP_317 12 rfl 0 (wg_Luck_0 g (fun i => a (i + 57)) q9.1 lu_y) rfl dX11_draws_71 ?_
            obtain rfl := Option.some.inj hf
            exact j_iret hE hq rfl rfl dX11_draws_74
          · refine j_aload_n hE dX11_draws_57 rfl 0 rfl ?_
            refine j_get (v := .ref (a 57)) hE lg_WP_38 0 rfl 0 (wg_WP_0 g a ) rfl dX11_draws_58 ?_
            refine j_get (v := .int (q9.1 6 0)) hE lg_WP_314 12 rfl 0 (wg_Luck_0 g (fun i => a (i + 57)) q9.1 lu_y) rfl dX11_draws_61 ?_
            refine j_goto (tgt := 74) hE dX11_draws_64 (by decide) ?_
            obtain rfl := Option.some.inj hf
            exact j_iret hE hq rfl rfl dX11_draws_74
        · refine j_ldc hE co_WP_236 dX11_draws_37 ?_
          obtain rfl := Option.some.inj hf
          exact j_iret hE hq rfl rfl dX11_draws_39
def rm_WP_number : Room := { frames := 1, cells := 0, slots := 0, locals := 20 }
def f_WP_number (ro_z : jZ) (ki_z : jZ) (ru_z : jZ) (no_z : jZ) (x1 : Int32) : Option (Int32) := (if x1 = 0 then some (ki_z 0 0)
    else (if x1 = 1 then some (ro_z 7 0)
    else (if x1 = 2 then some (no_z 0 0)
    else (if x1 = 3 then (f_Notes_byHowMany no_z).bind fun q5 => some q5
    else (if x1 = 4 then some (ru_z 0 0)
    else (if x1 = 5 then some (ro_z 5 0)
    else (if x1 = 6 then some (ro_z 6 0)
    else some (-1))))))))
set_option maxRecDepth 100000 in
theorem c_WP_number (l : Launch) (g : jG) (a : Nat → Nat) (re_z : jZ) (ta_z : jZ) (ro_z : jZ) (ki_z : jZ) (ru_z : jZ) (ru_y : jY) (no_z : jZ) (sro_z : jZ) (ski_z : jZ) (sru_z : jZ) (sru_y : jY) (sno_z : jZ) (od_z : jZ) (od_y : jY) (lu_z : jZ) (lu_y : jY) (fa_z : jZ) (fod_z : jZ) (fod_y : jY) (ho_z : jZ) (po_z : jZ) (pod_z : jZ) (pod_y : jY) (x1 : Int32) (res : Int32) (hf : f_WP_number ro_z ki_z ru_z no_z x1 = some res) : MC l g yX11_number cX11_number 2 (some .int) rm_WP_number [.ref (a 0), .int x1] (([n_WP g a , n_Reader g (fun i => a (i + 1)) re_z, n_Tape g (fun i => a (i + 4)) ta_z, n_Road g (fun i => a (i + 6)) ro_z, n_Kinds g (fun i => a (i + 14)) ki_z, n_Rule g (fun i => a (i + 20)) ru_z ru_y, n_Notes g (fun i => a (i + 23)) no_z, n_Road g (fun i => a (i + 30)) sro_z, n_Kinds g (fun i => a (i + 38)) ski_z, n_Rule g (fun i => a (i + 44)) sru_z sru_y, n_Notes g (fun i => a (i + 47)) sno_z, n_Odds g (fun i => a (i + 54)) od_z od_y, n_Luck g (fun i => a (i + 57)) lu_z lu_y, n_Falls g (fun i => a (i + 59)) fa_z, n_Odds g (fun i => a (i + 60)) fod_z fod_y, n_House g (fun i => a (i + 63)) ho_z, n_Poles g (fun i => a (i + 64)) po_z, n_Odds g (fun i => a (i + 69)) pod_z pod_y] : List va_W)) (some (.int res)) (([n_WP g a , n_Reader g (fun i => a (i + 1)) re_z, n_Tape g (fun i => a (i + 4)) ta_z, n_Road g (fun i => a (i + 6)) ro_z, n_Kinds g (fun i => a (i + 14)) ki_z, n_Rule g (fun i => a (i + 20)) ru_z ru_y, n_Notes g (fun i => a (i + 23)) no_z, n_Road g (fun i => a (i + 30)) sro_z, n_Kinds g (fun i => a (i + 38)) ski_z, n_Rule g (fun i => a (i + 44)) sru_z sru_y, n_Notes g (fun i => a (i + 47)) sno_z, n_Odds g (fun i => a (i + 54)) od_z od_y, n_Luck g (fun i => a (i + 57)) lu_z lu_y, n_Falls g (fun i => a (i + 59)) fa_z, n_Odds g (fun i => a (i + 60)) fod_z fod_y, n_House g (fun i => a (i + 63)) ho_z, n_Poles g (fun i => a (i + 64)) po_z, n_Odds g (fun i => a (i + 69)) pod_z pod_y] : List va_W)) 0 0 := by
  refine MC_of (own := RX11) (lv := [(0, .ref (a 0)), (1, .int x1)]) (by decide) rfl (Nat.le_of_ble_eq_true rfl) rfl rfl (fun E hE hq => ?_)
  unfold f_WP_number at hf
  refine j_iload_n hE dX11_number_0 rfl 1 rfl ?_
  refine j_case hf (fun c1 hf => ?_) (fun c1 hf => ?_)
  · refine j_tableIn (tgt := 44) hE dX11_number_1 (by rw [c1]; decide) (by rw [c1]; decide) (by rw [c1]; try rfl) (by decide) ?_
    refine j_aload_n hE dX11_number_44 rfl 0 rfl ?_
    refine j_get (v := .ref (a 6)) hE lg_WP_21 0 rfl 0 (wg_WP_0 g a ) rfl dX11_number_45 ?_
    refine j_get (v := .ref (a 14)) hE lg_WP_93 3 rfl 0 (wg_Road_0 g (fun i => a (i + 6)) ro_z) rfl dX11_number_48 ?_
    refine j_get (v := .int (ki_z 0 0)) hE lg_WP_103 4 rfl 0 (wg_Kinds_0 g (fun i => a (i + 14)) ki_z) rfl dX11_number_51 ?_
    obtain rfl := Option.some.inj hf
    exact j_iret hE hq rfl rfl dX11_number_54
  refine j_case hf (fun c2 hf => ?_) (fun c2 hf => ?_)
  · refine j_tableIn (tgt := 55) hE dX11_number_1 (by rw [c2]; decide) (by rw [c2]; decide) (by rw [c2]; try rfl) (by decide) ?_
    refine j_aload_n hE dX11_number_55 rfl 0 rfl ?_
    refine j_get (v := .ref (a 6)) hE lg_WP_21 0 rfl 0 (wg_WP_0 g a ) rfl dX11_number_56 ?_
    refine j_get (v := .int (ro_z 7 0)) hE lg_WP_111 3 rfl 0 (wg_Road_0 g (fun i => a (i + 6)) ro_z) rfl dX11_number_59 ?_
    obtain rfl := Option.some.inj hf
    exact j_iret hE hq rfl rfl dX11_number_62
  refine j_case hf (fun c3 hf => ?_) (fun c3 hf => ?_)
  · refine j_tableIn (tgt := 63) hE dX11_number_1 (by rw [c3]; decide) (by rw [c3]; decide) (by rw [c3]; try rfl) (by decide) ?_
    refine j_aload_n hE dX11_number_63 rfl 0 rfl ?_
    refine j_get (v := .ref (a 6)) hE lg_WP_21 0 rfl 0 (wg_WP_0 g a ) rfl dX11_number_64 ?_
    refine j_get (v := .ref (a 23)) hE lg_WP_153 3 rfl 0 (wg_Road_0 g (fun i => a (i + 6)) ro_z) rfl dX11_number_67 ?_
    refine j_get (v := .int (no_z 0 0)) hE lg_WP_163 6 rfl 0 (wg_Notes_0 g (fun i => a (i + 23)) no_z) rfl dX11_number_70 ?_
    obtain rfl := Option.some.inj hf
    exact j_iret hE hq rfl rfl dX11_number_73
  refine j_case hf (fun c4 hf => ?_) (fun c4 hf => ?_)
  · refine j_tableIn (tgt := 74) hE dX11_number_1 (by rw [c4]; decide) (by rw [c4]; decide) (by rw [c4]; try rfl) (by decide) ?_
    refine j_aload_n hE dX11_number_74 rfl 0 rfl ?_
    refine j_get (v := .ref (a 6)) hE lg_WP_21 0 rfl 0 (wg_WP_0 g a ) rfl dX11_number_75 ?_
    refine j_get (v := .ref (a 23)) hE lg_WP_153 3 rfl 0 (wg_Road_0 g (fun i => a (i + 6)) ro_z) rfl dX11_number_78 ?_
    obtain ⟨q5, hc6, hf⟩ := bind_of hf
    refine j_callV (ws' := ([n_WP g a , n_Reader g (fun i => a (i + 1)) re_z, n_Tape g (fun i => a (i + 4)) ta_z, n_Road g (fun i => a (i + 6)) ro_z, n_Kinds g (fun i => a (i + 14)) ki_z, n_Rule g (fun i => a (i + 20)) ru_z ru_y, n_Notes g (fun i => a (i + 23)) no_z, n_Road g (fun i => a (i + 30)) sro_z, n_Kinds g (fun i => a (i + 38)) ski_z, n_Rule g (fun i => a (i + 44)) sru_z sru_y, n_Notes g (fun i => a (i + 47)) sno_z, n_Odds g (fun i => a (i + 54)) od_z od_y, n_Luck g (fun i => a (i + 57)) lu_z lu_y, n_Falls g (fun i => a (i + 59)) fa_z, n_Odds g (fun i => a (i + 60)) fod_z fod_y, n_House g (fun i => a (i + 63)) ho_z, n_Poles g (fun i => a (i + 64)) po_z, n_Odds g (fun i => a (i + 69)) pod_z pod_y] : List va_W)) (As := []) (rest := []) (st2 := [.int q5]) hE (fun l => c_Notes_byHowMany l g (fun i => a (i + 23)) no_z q5 hc6) cd_X4_byHowMany cv_X4_byHowMany ml_WP_320 rfl rfl rfl (wg_Notes_0 _ _ _) ⟨⟨Nat.le_of_ble_eq_true rfl, Nat.le_of_ble_eq_true rfl⟩, ⟨Nat.zero_le _, Nat.zero_le _⟩, rfl, rfl⟩ [6] rfl rfl rfl (Nat.le_of_ble_eq_true rfl) rfl dX11_number_81 ?_
    obtain rfl := Option.some.inj hf
    exact j_iret hE hq rfl rfl dX11_number_84
  refine j_case hf (fun c7 hf => ?_) (fun c7 hf => ?_)
  · refine j_tableIn (tgt := 85) hE dX11_number_1 (by rw [c7]; decide) (by rw [c7]; decide) (by rw [c7]; try rfl) (by decide) ?_
    refine j_aload_n hE dX11_number_85 rfl 0 rfl ?_
    refine j_get (v := .ref (a 6)) hE lg_WP_21 0 rfl 0 (wg_WP_0 g a ) rfl dX11_number_86 ?_
    refine j_get (v := .ref (a 20)) hE lg_WP_324 3 rfl 0 (wg_Road_0 g (fun i => a (i + 6)) ro_z) rfl dX11_number_89 ?_
    refine j_get (v := .int (ru_z 0 0)) hE lg_WP_328 5 rfl 0 (wg_Rule_0 g (fun i => a (i + 20)) ru_z ru_y) rfl dX11_number_92 ?_
    obtain rfl := Option.some.inj hf
    exact j_iret hE hq rfl rfl dX11_number_95
  refine j_case hf (fun c8 hf => ?_) (fun c8 hf => ?_)
  · refine j_tableIn (tgt := 96) hE dX11_number_1 (by rw [c8]; decide) (by rw [c8]; decide) (by rw [c8]; try rfl) (by decide) ?_
    refine j_aload_n hE dX11_number_96 rfl 0 rfl ?_
    refine j_get (v := .ref (a 6)) hE lg_WP_21 0 rfl 0 (wg_WP_0 g a ) rfl dX11_number_97 ?_
    refine j_get (v := .int (ro_z 5 0)) hE lg_WP_333 3 rfl 0 (wg_Road_0 g (fun i => a (i + 6)) ro_z) rfl dX11_number_100 ?_
    obtain rfl := Option.some.inj hf
    exact j_iret hE hq rfl rfl dX11_number_103
  refine j_case hf (fun c9 hf => ?_) (fun c9 hf => ?_)
  · refine j_tableIn (tgt := 104) hE dX11_number_1 (by rw [c9]; decide) (by rw [c9]; decide) (by rw [c9]; try rfl) (by decide) ?_
    refine j_aload_n hE dX11_number_104 rfl 0 rfl ?_
    refine j_get (v := .ref (a 6)) hE lg_WP_21 0 rfl 0 (wg_WP_0 g a ) rfl dX11_number_105 ?_
    refine j_get (v := .int (ro_z 6 0)) hE lg_WP_336 3 rfl 0 (wg_Road_0 g (fun i => a (i + 6)) ro_z) rfl dX11_number_108 ?_
    obtain rfl := Option.some.inj hf
    exact j_iret hE hq rfl rfl dX11_number_111
  have t_c1 : 0 ≠ Int32.toInt x1 := fun h => c1 (Int32.toInt_inj.mp (h.symm.trans (by decide)))
  have t_c2 : 1 ≠ Int32.toInt x1 := fun h => c2 (Int32.toInt_inj.mp (h.symm.trans (by decide)))
  have t_c3 : 2 ≠ Int32.toInt x1 := fun h => c3 (Int32.toInt_inj.mp (h.symm.trans (by decide)))
  have t_c4 : 3 ≠ Int32.toInt x1 := fun h => c4 (Int32.toInt_inj.mp (h.symm.trans (by decide)))
  have t_c7 : 4 ≠ Int32.toInt x1 := fun h => c7 (Int32.toInt_inj.mp (h.symm.trans (by decide)))
  have t_c8 : 5 ≠ Int32.toInt x1 := fun h => c8 (Int32.toInt_inj.mp (h.symm.trans (by decide)))
  have t_c9 : 6 ≠ Int32.toInt x1 := fun h => c9 (Int32.toInt_inj.mp (h.symm.trans (by decide)))
  refine j_tableOut (tgt := 112) hE dX11_number_1 (by omega) (by decide) ?_
  refine j_iconst (v := (-1)) hE dX11_number_112 (by decide) ?_
  obtain rfl := Option.some.inj hf
  exact j_iret hE hq rfl rfl dX11_number_113
def rm_Mo_thrown : Room := { frames := 0, cells := 0, slots := 0, locals := 0 }
def f_Mo_thrown (mo_z : jZ)  : Option (Int32) := some (mo_z 0 0)
set_option maxRecDepth 100000 in
theorem c_Mo_thrown (l : Launch) (g : jG) (a : Nat → Nat) (mo_z : jZ) (mo_y : jY)  (res : Int32) (hf : f_Mo_thrown mo_z = some res) : MC l g yX12_thrown cX12_thrown 1 (some .int) rm_Mo_thrown [.ref (a 0)] (([n_Mo g a mo_z mo_y] : List va_W)) (some (.int res)) (([n_Mo g a mo_z mo_y] : List va_W)) 0 0 := by
  refine MC_of (own := RX12) (lv := [(0, .ref (a 0))]) (by decide) rfl (Nat.le_of_ble_eq_true rfl) rfl rfl (fun E hE hq => ?_)
  unfold f_Mo_thrown at hf
  refine j_aload_n hE dX12_thrown_0 rfl 0 rfl ?_
  refine j_get (v := .int (mo_z 0 0)) hE lg_Mo_87 0 rfl 0 (wg_Mo_0 g a mo_z mo_y) rfl dX12_thrown_1 ?_
  obtain rfl := Option.some.inj hf
  exact j_iret hE hq rfl rfl dX12_thrown_4
def rm_Mo_feed : Room := { frames := 0, cells := 0, slots := 0, locals := 0 }
def f_Mo_feed_73  (x1 : Int32) (x2 : Int32) (x3 : Int32) (x4 : Int32) (x5 : Int32) (k20 : jZ → Int32 → Option (jZ × Int32)) (mo_z : jZ) (v6 : Int32) (s0 : Int32) : Option (jZ × Int32) := (ix ((mo_z 2 0) + v6) 600).bind fun _ => k20 (up2 mo_z 1 (Int32.toNatClampNeg ((mo_z 2 0) + v6)) ((s0 >>> ((24 - (8 * (v6 - v6 / 4 * 4))) &&& 31)) &&& 255)) (v6 + 1)
def f_Mo_feed_20  (x1 : Int32) (x2 : Int32) (x3 : Int32) (x4 : Int32) (x5 : Int32)  : Nat → jZ → Int32 → Option (jZ × Int32)
  | 0, _, _ => none
  | n + 1, mo_z, v6 => (if 20 ≤ v6 then some ((up2 mo_z 2 0 ((mo_z 2 0) + 20)), ((mo_z 2 0) + 20))
    else (if 4 ≤ v6 then (if 8 ≤ v6 then (if 12 ≤ v6 then (if 16 ≤ v6 then f_Mo_feed_73 x1 x2 x3 x4 x5 (fun mo_z v6 => f_Mo_feed_20 x1 x2 x3 x4 x5 n mo_z v6) mo_z v6 x5
    else f_Mo_feed_73 x1 x2 x3 x4 x5 (fun mo_z v6 => f_Mo_feed_20 x1 x2 x3 x4 x5 n mo_z v6) mo_z v6 x4)
    else f_Mo_feed_73 x1 x2 x3 x4 x5 (fun mo_z v6 => f_Mo_feed_20 x1 x2 x3 x4 x5 n mo_z v6) mo_z v6 x3)
    else f_Mo_feed_73 x1 x2 x3 x4 x5 (fun mo_z v6 => f_Mo_feed_20 x1 x2 x3 x4 x5 n mo_z v6) mo_z v6 x2)
    else f_Mo_feed_73 x1 x2 x3 x4 x5 (fun mo_z v6 => f_Mo_feed_20 x1 x2 x3 x4 x5 n mo_z v6) mo_z v6 x1))
def f_Mo_feed (mo_z : jZ) (x1 : Int32) (x2 : Int32) (x3 : Int32) (x4 : Int32) (x5 : Int32) : Option (jZ × Int32) := (if (mo_z 2 0) ≤ 580 then f_Mo_feed_20 x1 x2 x3 x4 x5 FU (up2 mo_z 0 0 0) 0
    else some ((up2 mo_z 0 0 0), (-1)))
set_option maxRecDepth 100000 in
theorem j_Mo_feed_73 (E : jT) (g : jG) (a : Nat → Nat) (mo_y : jY) (x1 : Int32) (x2 : Int32) (x3 : Int32) (x4 : Int32) (x5 : Int32) (res : jZ × Int32) (hE : jOk E g RX12 cX12_feed 8 (some .int) rm_Mo_feed) (hq : jEnd E g (some (.int res.2)) (([n_Mo g a res.1 mo_y] : List va_W)) 0 0) (k20 : jZ → Int32 → Option (jZ × Int32)) (hk20 : ∀ (mo_z : jZ) (v6 : Int32), k20 mo_z v6 = some res → J E g 0 0 (([n_Mo g a mo_z mo_y] : List va_W)) [(0, .ref (a 0)), (1, .int x1), (2, .int x2), (3, .int x3), (4, .int x4), (5, .int x5), (6, .int v6)] 20 []) (mo_z : jZ) (v6 : Int32) (s0 : Int32) (hf : f_Mo_feed_73 x1 x2 x3 x4 x5 k20 mo_z v6 s0 = some res) : J E g 0 0 (([n_Mo g a mo_z mo_y] : List va_W)) [(0, .ref (a 0)), (1, .int x1), (2, .int x2), (3, .int x3), (4, .int x4), (5, .int x5), (6, .int v6)] 73 [.int s0] := by
  unfold f_Mo_feed_73 at hf
  refine j_istore (lv' := [(7, .int s0), (0, .ref (a 0)), (1, .int x1), (2, .int x2), (3, .int x3), (4, .int x4), (5, .int x5), (6, .int v6)]) hE dX12_feed_73 (by decide) rfl ?_
  refine j_aload_n hE dX12_feed_75 rfl 1 rfl ?_
  refine j_get (v := .ref (a 1)) hE lg_Mo_9 0 rfl 0 (wg_Mo_0 g a mo_z mo_y) rfl dX12_feed_76 ?_
  refine j_aload_n hE dX12_feed_79 rfl 1 rfl ?_
  refine j_get (v := .int (mo_z 2 0)) hE lg_Mo_90 0 rfl 0 (wg_Mo_0 g a mo_z mo_y) rfl dX12_feed_80 ?_
  refine j_iload hE dX12_feed_83 7 rfl ?_
  refine j_iadd hE dX12_feed_85 ?_
  refine j_iload hE dX12_feed_86 0 rfl ?_
  refine j_bipush (v := 24) hE dX12_feed_88 (by decide) ?_
  refine j_bipush (v := 8) hE dX12_feed_90 (by decide) ?_
  refine j_iload hE dX12_feed_92 7 rfl ?_
  refine j_iconst (v := 4) hE dX12_feed_94 (by decide) ?_
  refine j_irem_c hE (by decide) dX12_feed_95 ?_
  refine j_imul hE dX12_feed_96 ?_
  refine j_isub hE dX12_feed_97 ?_
  refine j_ishr hE dX12_feed_98 ?_
  refine j_sipush (v := 255) hE dX12_feed_99 (by decide) ?_
  refine j_iand hE dX12_feed_102 ?_
  refine j_iast (ws' := ([n_Mo g a (up2 mo_z 1 (Int32.toNatClampNeg ((mo_z 2 0) + v6)) ((s0 >>> ((24 - (8 * (v6 - v6 / 4 * 4))) &&& 31)) &&& 255)) mo_y] : List va_W)) hE hf 0 rfl 1 (wg_Mo_1 g a mo_z mo_y) (wa_Mo_1 g a mo_z mo_y (Int32.toNatClampNeg ((mo_z 2 0) + v6)) ((s0 >>> ((24 - (8 * (v6 - v6 / 4 * 4))) &&& 31)) &&& 255)) rfl dX12_feed_103 (fun hf => ?_)
  refine j_iinc (v := (v6 + 1)) (lv' := [(6, .int (v6 + 1)), (7, .int s0), (0, .ref (a 0)), (1, .int x1), (2, .int x2), (3, .int x3), (4, .int x4), (5, .int x5)]) hE dX12_feed_104 7 rfl rfl (by decide) rfl ?_
  refine j_goto (tgt := 20) hE dX12_feed_107 (by decide) ?_
  exact j_sub [2, 3, 4, 5, 6, 7, 0] rfl (hk20 (up2 mo_z 1 (Int32.toNatClampNeg ((mo_z 2 0) + v6)) ((s0 >>> ((24 - (8 * (v6 - v6 / 4 * 4))) &&& 31)) &&& 255)) (v6 + 1) hf)
set_option maxRecDepth 100000 in
theorem j_Mo_feed_20 (E : jT) (g : jG) (a : Nat → Nat) (mo_y : jY) (x1 : Int32) (x2 : Int32) (x3 : Int32) (x4 : Int32) (x5 : Int32) (res : jZ × Int32) (hE : jOk E g RX12 cX12_feed 8 (some .int) rm_Mo_feed) (hq : jEnd E g (some (.int res.2)) (([n_Mo g a res.1 mo_y] : List va_W)) 0 0)  : ∀ (n : Nat) (mo_z : jZ) (v6 : Int32), f_Mo_feed_20 x1 x2 x3 x4 x5 n mo_z v6 = some res → J E g 0 0 (([n_Mo g a mo_z mo_y] : List va_W)) [(0, .ref (a 0)), (1, .int x1), (2, .int x2), (3, .int x3), (4, .int x4), (5, .int x5), (6, .int v6)] 20 [] := by
  intro n
  induction n with
  | zero =>
    intro mo_z v6 hf
    rw [f_Mo_feed_20] at hf
    cases hf
  | succ n ih =>
    intro mo_z v6 hf
    rw [f_Mo_feed_20] at hf
    refine j_iload hE dX12_feed_20 6 rfl ?_
    refine j_bipush (v := 20) hE dX12_feed_22 (by decide) ?_
    refine j_icmp_ge (tgt := 110) hE hf dX12_feed_24 (by decide) (fun c2 hf => ?_) (fun c2 hf => ?_)
    · refine j_aload_n hE dX12_feed_110 rfl 0 rfl ?_
      refine j_dup hE dX12_feed_111 rfl ?_
      refine j_get (v := .int (mo_z 2 0)) hE lg_Mo_90 0 rfl 0 (wg_Mo_0 g a mo_z mo_y) rfl dX12_feed_112 ?_
      refine j_bipush (v := 20) hE dX12_feed_115 (by decide) ?_
      refine j_iadd hE dX12_feed_117 ?_
      refine j_put (v := .int ((mo_z 2 0) + 20)) (ws' := ([n_Mo g a (up2 mo_z 2 0 ((mo_z 2 0) + 20)) mo_y] : List va_W)) hE lp_Mo_90 0 rfl 0 (wg_Mo_0 g a mo_z mo_y) rfl rfl (Nat.le_of_ble_eq_true rfl) (wp_Mo_2 g a mo_z mo_y ((mo_z 2 0) + 20)) rfl dX12_feed_118 ?_
      refine j_aload_n hE dX12_feed_121 rfl 0 rfl ?_
      refine j_get (v := .int ((mo_z 2 0) + 20)) hE lg_Mo_90 0 rfl 0 (wg_Mo_0 g a (up2 mo_z 2 0 ((mo_z 2 0) + 20)) mo_y) rfl dX12_feed_122 ?_
      obtain rfl := Option.some.inj hf
      exact j_iret hE hq rfl rfl dX12_feed_125
    · refine j_iload hE dX12_feed_27 6 rfl ?_
      refine j_iconst (v := 4) hE dX12_feed_29 (by decide) ?_
      refine j_icmp_ge (tgt := 37) hE hf dX12_feed_30 (by decide) (fun c3 hf => ?_) (fun c3 hf => ?_)
      · refine j_iload hE dX12_feed_37 6 rfl ?_
        refine j_bipush (v := 8) hE dX12_feed_39 (by decide) ?_
        refine j_icmp_ge (tgt := 48) hE hf dX12_feed_41 (by decide) (fun c4 hf => ?_) (fun c4 hf => ?_)
        · refine j_iload hE dX12_feed_48 6 rfl ?_
          refine j_bipush (v := 12) hE dX12_feed_50 (by decide) ?_
          refine j_icmp_ge (tgt := 59) hE hf dX12_feed_52 (by decide) (fun c5 hf => ?_) (fun c5 hf => ?_)
          · refine j_iload hE dX12_feed_59 6 rfl ?_
            refine j_bipush (v := 16) hE dX12_feed_61 (by decide) ?_
            refine j_icmp_ge (tgt := 71) hE hf dX12_feed_63 (by decide) (fun c6 hf => ?_) (fun c6 hf => ?_)
            · refine j_iload hE dX12_feed_71 5 rfl ?_
              exact j_Mo_feed_73 E g a mo_y x1 x2 x3 x4 x5 res hE hq (fun mo_z v6 => f_Mo_feed_20 x1 x2 x3 x4 x5 n mo_z v6) (fun mo_z v6 hf => ih mo_z v6 hf) mo_z v6 x5 hf
            · refine j_iload hE dX12_feed_66 4 rfl ?_
              refine j_goto (tgt := 73) hE dX12_feed_68 (by decide) ?_
              exact j_Mo_feed_73 E g a mo_y x1 x2 x3 x4 x5 res hE hq (fun mo_z v6 => f_Mo_feed_20 x1 x2 x3 x4 x5 n mo_z v6) (fun mo_z v6 hf => ih mo_z v6 hf) mo_z v6 x4 hf
          · refine j_iload_n hE dX12_feed_55 rfl 3 rfl ?_
            refine j_goto (tgt := 73) hE dX12_feed_56 (by decide) ?_
            exact j_Mo_feed_73 E g a mo_y x1 x2 x3 x4 x5 res hE hq (fun mo_z v6 => f_Mo_feed_20 x1 x2 x3 x4 x5 n mo_z v6) (fun mo_z v6 hf => ih mo_z v6 hf) mo_z v6 x3 hf
        · refine j_iload_n hE dX12_feed_44 rfl 2 rfl ?_
          refine j_goto (tgt := 73) hE dX12_feed_45 (by decide) ?_
          exact j_Mo_feed_73 E g a mo_y x1 x2 x3 x4 x5 res hE hq (fun mo_z v6 => f_Mo_feed_20 x1 x2 x3 x4 x5 n mo_z v6) (fun mo_z v6 hf => ih mo_z v6 hf) mo_z v6 x2 hf
      · refine j_iload_n hE dX12_feed_33 rfl 1 rfl ?_
        refine j_goto (tgt := 73) hE dX12_feed_34 (by decide) ?_
        exact j_Mo_feed_73 E g a mo_y x1 x2 x3 x4 x5 res hE hq (fun mo_z v6 => f_Mo_feed_20 x1 x2 x3 x4 x5 n mo_z v6) (fun mo_z v6 hf => ih mo_z v6 hf) mo_z v6 x1 hf
set_option maxRecDepth 100000 in
theorem c_Mo_feed (l : Launch) (g : jG) (a : Nat → Nat) (mo_z : jZ) (mo_y : jY) (x1 : Int32) (x2 : Int32) (x3 : Int32) (x4 : Int32) (x5 : Int32) (res : jZ × Int32) (hf : f_Mo_feed mo_z x1 x2 x3 x4 x5 = some res) : MC l g yX12_feed cX12_feed 8 (some .int) rm_Mo_feed [.ref (a 0), .int x1, .int x2, .int x3, .int x4, .int x5] (([n_Mo g a mo_z mo_y] : List va_W)) (some (.int res.2)) (([n_Mo g a res.1 mo_y] : List va_W)) 0 0 := by
  refine MC_of (own := RX12) (lv := [(0, .ref (a 0)), (1, .int x1), (2, .int x2), (3, .int x3), (4, .int x4), (5, .int x5)]) (by decide) rfl (Nat.le_of_ble_eq_true rfl) rfl rfl (fun E hE hq => ?_)
  unfold f_Mo_feed at hf
  refine j_aload_n hE dX12_feed_0 rfl 0 rfl ?_
  refine j_iconst (v := 0) hE dX12_feed_1 (by decide) ?_
  refine j_put (v := .int 0) (ws' := ([n_Mo g a (up2 mo_z 0 0 0) mo_y] : List va_W)) hE lp_Mo_87 0 rfl 0 (wg_Mo_0 g a mo_z mo_y) rfl rfl (Nat.le_of_ble_eq_true rfl) (wp_Mo_0 g a mo_z mo_y 0) rfl dX12_feed_2 ?_
  refine j_aload_n hE dX12_feed_5 rfl 0 rfl ?_
  refine j_get (v := .int (mo_z 2 0)) hE lg_Mo_90 0 rfl 0 (wg_Mo_0 g a (up2 mo_z 0 0 0) mo_y) rfl dX12_feed_6 ?_
  refine j_sipush (v := 580) hE dX12_feed_9 (by decide) ?_
  refine j_icmp_le (tgt := 17) hE hf dX12_feed_12 (by decide) (fun c1 hf => ?_) (fun c1 hf => ?_)
  · refine j_iconst (v := 0) hE dX12_feed_17 (by decide) ?_
    refine j_istore (lv' := [(6, .int 0), (0, .ref (a 0)), (1, .int x1), (2, .int x2), (3, .int x3), (4, .int x4), (5, .int x5)]) hE dX12_feed_18 (by decide) rfl ?_
    exact j_sub [1, 2, 3, 4, 5, 6, 0] rfl (j_Mo_feed_20 E g a mo_y x1 x2 x3 x4 x5 res hE hq FU (up2 mo_z 0 0 0) 0 hf)
  · refine j_iconst (v := (-1)) hE dX12_feed_15 (by decide) ?_
    obtain rfl := Option.some.inj hf
    exact j_iret hE hq rfl rfl dX12_feed_16
def rm_Mo_here : Room := { frames := 0, cells := 0, slots := 0, locals := 0 }
def f_Mo_here (mo_z : jZ)  : Option (Int32) := (if (mo_z 27 0) ≤ (mo_z 28 0) then some (-1)
    else (ix (mo_z 28 0) 600).bind fun _ => some (mo_z 1 (Int32.toNatClampNeg (mo_z 28 0))))
set_option maxRecDepth 100000 in
theorem c_Mo_here (l : Launch) (g : jG) (a : Nat → Nat) (mo_z : jZ) (mo_y : jY)  (res : Int32) (hf : f_Mo_here mo_z = some res) : MC l g yX12_here cX12_here 1 (some .int) rm_Mo_here [.ref (a 0)] (([n_Mo g a mo_z mo_y] : List va_W)) (some (.int res)) (([n_Mo g a mo_z mo_y] : List va_W)) 0 0 := by
  refine MC_of (own := RX12) (lv := [(0, .ref (a 0))]) (by decide) rfl (Nat.le_of_ble_eq_true rfl) rfl rfl (fun E hE hq => ?_)
  unfold f_Mo_here at hf
  refine j_aload_n hE dX12_here_0 rfl 0 rfl ?_
  refine j_get (v := .int (mo_z 28 0)) hE lg_Mo_93 0 rfl 0 (wg_Mo_0 g a mo_z mo_y) rfl dX12_here_1 ?_
  refine j_aload_n hE dX12_here_4 rfl 0 rfl ?_
  refine j_get (v := .int (mo_z 27 0)) hE lg_Mo_96 0 rfl 0 (wg_Mo_0 g a mo_z mo_y) rfl dX12_here_5 ?_
  refine j_icmp_ge (tgt := 23) hE hf dX12_here_8 (by decide) (fun c1 hf => ?_) (fun c1 hf => ?_)
  · refine j_iconst (v := (-1)) hE dX12_here_23 (by decide) ?_
    obtain rfl := Option.some.inj hf
    exact j_iret hE hq rfl rfl dX12_here_24
  · refine j_aload_n hE dX12_here_11 rfl 0 rfl ?_
    refine j_get (v := .ref (a 1)) hE lg_Mo_9 0 rfl 0 (wg_Mo_0 g a mo_z mo_y) rfl dX12_here_12 ?_
    refine j_aload_n hE dX12_here_15 rfl 0 rfl ?_
    refine j_get (v := .int (mo_z 28 0)) hE lg_Mo_93 0 rfl 0 (wg_Mo_0 g a mo_z mo_y) rfl dX12_here_16 ?_
    refine j_iald hE hf 0 rfl 1 (wg_Mo_1 g a mo_z mo_y) dX12_here_19 (fun hf => ?_)
    refine j_goto (tgt := 24) hE dX12_here_20 (by decide) ?_
    obtain rfl := Option.some.inj hf
    exact j_iret hE hq rfl rfl dX12_here_24
def rm_Mo_isSmall : Room := { frames := 0, cells := 0, slots := 0, locals := 0 }
def f_Mo_isSmall  (x0 : Int32) : Option (Int32) := (if x0 < 97 then some 0
    else (if 122 < x0 then some 0
    else some 1))
set_option maxRecDepth 100000 in
theorem c_Mo_isSmall (l : Launch) (g : jG)   (x0 : Int32) (res : Int32) (hf : f_Mo_isSmall x0 = some res) : MC l g yX12_isSmall cX12_isSmall 1 (some .boolean) rm_Mo_isSmall [.int x0] (([] : List va_W)) (some (.int res)) (([] : List va_W)) 0 0 := by
  refine MC_of (own := RX12) (lv := [(0, .int x0)]) (by decide) rfl (Nat.le_of_ble_eq_true rfl) rfl rfl (fun E hE hq => ?_)
  unfold f_Mo_isSmall at hf
  refine j_iload_n hE dX12_isSmall_0 rfl 0 rfl ?_
  refine j_bipush (v := 97) hE dX12_isSmall_1 (by decide) ?_
  refine j_icmp_lt (tgt := 16) hE hf dX12_isSmall_3 (by decide) (fun c1 hf => ?_) (fun c1 hf => ?_)
  · refine j_iconst (v := 0) hE dX12_isSmall_16 (by decide) ?_
    obtain rfl := Option.some.inj hf
    exact j_zret_c hE (Or.inl rfl) hq rfl rfl dX12_isSmall_17
  · refine j_iload_n hE dX12_isSmall_6 rfl 0 rfl ?_
    refine j_bipush (v := 122) hE dX12_isSmall_7 (by decide) ?_
    refine j_icmp_gt (tgt := 16) hE hf dX12_isSmall_9 (by decide) (fun c2 hf => ?_) (fun c2 hf => ?_)
    · refine j_iconst (v := 0) hE dX12_isSmall_16 (by decide) ?_
      obtain rfl := Option.some.inj hf
      exact j_zret_c hE (Or.inl rfl) hq rfl rfl dX12_isSmall_17
    · refine j_iconst (v := 1) hE dX12_isSmall_12 (by decide) ?_
      refine j_goto (tgt := 17) hE dX12_isSmall_13 (by decide) ?_
      obtain rfl := Option.some.inj hf
      exact j_zret_c hE (Or.inr rfl) hq rfl rfl dX12_isSmall_17
def rm_Mo_isDigit : Room := { frames := 0, cells := 0, slots := 0, locals := 0 }
def f_Mo_isDigit  (x0 : Int32) : Option (Int32) := (if x0 < 48 then some 0
    else (if 57 < x0 then some 0
    else some 1))
set_option maxRecDepth 100000 in
theorem c_Mo_isDigit (l : Launch) (g : jG)   (x0 : Int32) (res : Int32) (hf : f_Mo_isDigit x0 = some res) : MC l g yX12_isDigit cX12_isDigit 1 (some .boolean) rm_Mo_isDigit [.int x0] (([] : List va_W)) (some (.int res)) (([] : List va_W)) 0 0 := by
  refine MC_of (own := RX12) (lv := [(0, .int x0)]) (by decide) rfl (Nat.le_of_ble_eq_true rfl) rfl rfl (fun E hE hq => ?_)
  unfold f_Mo_isDigit at hf
  refine j_iload_n hE dX12_isDigit_0 rfl 0 rfl ?_
  refine j_bipush (v := 48) hE dX12_isDigit_1 (by decide) ?_
  refine j_icmp_lt (tgt := 16) hE hf dX12_isDigit_3 (by decide) (fun c1 hf => ?_) (fun c1 hf => ?_)
  · refine j_iconst (v := 0) hE dX12_isDigit_16 (by decide) ?_
    obtain rfl := Option.some.inj hf
    exact j_zret_c hE (Or.inl rfl) hq rfl rfl dX12_isDigit_17
  · refine j_iload_n hE dX12_isDigit_6 rfl 0 rfl ?_
    refine j_bipush (v := 57) hE dX12_isDigit_7 (by decide) ?_
    refine j_icmp_gt (tgt := 16) hE hf dX12_isDigit_9 (by decide) (fun c2 hf => ?_) (fun c2 hf => ?_)
    · refine j_iconst (v := 0) hE dX12_isDigit_16 (by decide) ?_
      obtain rfl := Option.some.inj hf
      exact j_zret_c hE (Or.inl rfl) hq rfl rfl dX12_isDigit_17
    · refine j_iconst (v := 1) hE dX12_isDigit_12 (by decide) ?_
      refine j_goto (tgt := 17) hE dX12_isDigit_13 (by decide) ?_
      obtain rfl := Option.some.inj hf
      exact j_zret_c hE (Or.inr rfl) hq rfl rfl dX12_isDigit_17
def rm_Mo_sign : Room := { frames := 1, cells := 0, slots := 0, locals := 20 }
def f_Mo_sign_128  (x1 : Int32)  (mo_z : jZ) : Option (jZ) := (if x1 = 62 then (f_Mo_here mo_z).bind fun q29 => (if q29 = 61 then some (up2 (up2 mo_z 31 0 258) 28 0 ((mo_z 28 0) + 1))
    else (if (mo_z 31 0) < 256 then some mo_z
    else some (up2 mo_z 28 0 ((mo_z 28 0) + 1))))
    else (if (mo_z 31 0) < 256 then some mo_z
    else some (up2 mo_z 28 0 ((mo_z 28 0) + 1))))
def f_Mo_sign_76  (x1 : Int32)  (mo_z : jZ) (s0 : Int32) : Option (jZ) := (if x1 = 60 then (f_Mo_here (up2 (up2 mo_z 30 0 s0) 31 0 x1)).bind fun q16 => (if q16 = 61 then (if x1 = 60 then (f_Mo_here (up2 (up2 (up2 mo_z 30 0 s0) 31 0 x1) 31 0 256)).bind fun q24 => (if q24 = 62 then f_Mo_sign_128 x1 (up2 (up2 (up2 (up2 mo_z 30 0 s0) 31 0 x1) 31 0 256) 31 0 257)
    else f_Mo_sign_128 x1 (up2 (up2 (up2 mo_z 30 0 s0) 31 0 x1) 31 0 256))
    else f_Mo_sign_128 x1 (up2 (up2 (up2 mo_z 30 0 s0) 31 0 x1) 31 0 256))
    else (if x1 = 60 then (f_Mo_here (up2 (up2 mo_z 30 0 s0) 31 0 x1)).bind fun q20 => (if q20 = 62 then f_Mo_sign_128 x1 (up2 (up2 (up2 mo_z 30 0 s0) 31 0 x1) 31 0 257)
    else f_Mo_sign_128 x1 (up2 (up2 mo_z 30 0 s0) 31 0 x1))
    else f_Mo_sign_128 x1 (up2 (up2 mo_z 30 0 s0) 31 0 x1)))
    else (if x1 = 60 then (f_Mo_here (up2 (up2 mo_z 30 0 s0) 31 0 x1)).bind fun q13 => (if q13 = 62 then f_Mo_sign_128 x1 (up2 (up2 (up2 mo_z 30 0 s0) 31 0 x1) 31 0 257)
    else f_Mo_sign_128 x1 (up2 (up2 mo_z 30 0 s0) 31 0 x1))
    else f_Mo_sign_128 x1 (up2 (up2 mo_z 30 0 s0) 31 0 x1)))
def f_Mo_sign (mo_z : jZ) (x1 : Int32) : Option (jZ) := (if x1 = 59 then f_Mo_sign_76 x1 (up2 mo_z 28 0 ((mo_z 28 0) + 1)) 3
    else (if x1 = 40 then f_Mo_sign_76 x1 (up2 mo_z 28 0 ((mo_z 28 0) + 1)) 3
    else (if x1 = 41 then f_Mo_sign_76 x1 (up2 mo_z 28 0 ((mo_z 28 0) + 1)) 3
    else (if x1 = 43 then f_Mo_sign_76 x1 (up2 mo_z 28 0 ((mo_z 28 0) + 1)) 3
    else (if x1 = 45 then f_Mo_sign_76 x1 (up2 mo_z 28 0 ((mo_z 28 0) + 1)) 3
    else (if x1 = 42 then f_Mo_sign_76 x1 (up2 mo_z 28 0 ((mo_z 28 0) + 1)) 3
    else (if x1 = 47 then f_Mo_sign_76 x1 (up2 mo_z 28 0 ((mo_z 28 0) + 1)) 3
    else (if x1 = 60 then f_Mo_sign_76 x1 (up2 mo_z 28 0 ((mo_z 28 0) + 1)) 3
    else (if x1 = 61 then f_Mo_sign_76 x1 (up2 mo_z 28 0 ((mo_z 28 0) + 1)) 3
    else (if x1 = 62 then f_Mo_sign_76 x1 (up2 mo_z 28 0 ((mo_z 28 0) + 1)) 3
    else f_Mo_sign_76 x1 (up2 mo_z 28 0 ((mo_z 28 0) + 1)) 5))))))))))
set_option maxRecDepth 100000 in
theorem j_Mo_sign_128 (E : jT) (g : jG) (a : Nat → Nat) (mo_y : jY) (x1 : Int32) (res : jZ) (hE : jOk E g RX12 cX12_sign 2 (none : Option Jvm.ClassFile.FieldType) rm_Mo_sign) (hq : jEnd E g none (([n_Mo g a res mo_y] : List va_W)) 0 0)  (mo_z : jZ) (hf : f_Mo_sign_128 x1 mo_z = some res) : J E g 0 0 (([n_Mo g a mo_z mo_y] : List va_W)) [(0, .ref (a 0)), (1, .int x1)] 128 [] := by
  unfold f_Mo_sign_128 at hf
  refine j_iload_n hE dX12_sign_128 rfl 1 rfl ?_
  refine j_bipush (v := 62) hE dX12_sign_129 (by decide) ?_
  refine j_icmp_ne (tgt := 150) hE hf dX12_sign_131 (by decide) (fun c27 hf => ?_) (fun c27 hf => ?_)
  · refine j_aload_n hE dX12_sign_150 rfl 0 rfl ?_
    refine j_get (v := .int (mo_z 31 0)) hE lg_Mo_116 0 rfl 0 (wg_Mo_0 g a mo_z mo_y) rfl dX12_sign_151 ?_
    refine j_sipush (v := 256) hE dX12_sign_154 (by decide) ?_
    refine j_icmp_lt (tgt := 170) hE hf dX12_sign_157 (by decide) (fun c28 hf => ?_) (fun c28 hf => ?_)
    · obtain rfl := Option.some.inj hf
      exact j_vret hE hq rfl rfl dX12_sign_170
    · refine j_aload_n hE dX12_sign_160 rfl 0 rfl ?_
      refine j_dup hE dX12_sign_161 rfl ?_
      refine j_get (v := .int (mo_z 28 0)) hE lg_Mo_93 0 rfl 0 (wg_Mo_0 g a mo_z mo_y) rfl dX12_sign_162 ?_
      refine j_iconst (v := 1) hE dX12_sign_165 (by decide) ?_
      refine j_iadd hE dX12_sign_166 ?_
      refine j_put (v := .int ((mo_z 28 0) + 1)) (ws' := ([n_Mo g a (up2 mo_z 28 0 ((mo_z 28 0) + 1)) mo_y] : List va_W)) hE lp_Mo_93 0 rfl 0 (wg_Mo_0 g a mo_z mo_y) rfl rfl (Nat.le_of_ble_eq_true rfl) (wp_Mo_28 g a mo_z mo_y ((mo_z 28 0) + 1)) rfl dX12_sign_167 ?_
      obtain rfl := Option.some.inj hf
      exact j_vret hE hq rfl rfl dX12_sign_170
  · refine j_aload_n hE dX12_sign_134 rfl 0 rfl ?_
    obtain ⟨q29, hc30, hf⟩ := bind_of hf
    refine j_callV (ws' := ([n_Mo g a mo_z mo_y] : List va_W)) (As := []) (rest := []) (st2 := [.int q29]) hE (fun l => c_Mo_here l g a mo_z mo_y q29 hc30) cd_X12_here cv_X12_here ml_Mo_99 rfl rfl rfl (wg_Mo_0 _ _ _ _) ⟨⟨Nat.le_of_ble_eq_true rfl, Nat.le_of_ble_eq_true rfl⟩, ⟨Nat.zero_le _, Nat.zero_le _⟩, rfl, rfl⟩ [0] rfl rfl rfl (Nat.le_of_ble_eq_true rfl) rfl dX12_sign_135 ?_
    refine j_bipush (v := 61) hE dX12_sign_138 (by decide) ?_
    refine j_icmp_ne (tgt := 150) hE hf dX12_sign_140 (by decide) (fun c31 hf => ?_) (fun c31 hf => ?_)
    · refine j_aload_n hE dX12_sign_150 rfl 0 rfl ?_
      refine j_get (v := .int (mo_z 31 0)) hE lg_Mo_116 0 rfl 0 (wg_Mo_0 g a mo_z mo_y) rfl dX12_sign_151 ?_
      refine j_sipush (v := 256) hE dX12_sign_154 (by decide) ?_
      refine j_icmp_lt (tgt := 170) hE hf dX12_sign_157 (by decide) (fun c32 hf => ?_) (fun c32 hf => ?_)
      · obtain rfl := Option.some.inj hf
        exact j_vret hE hq rfl rfl dX12_sign_170
      · refine j_aload_n hE dX12_sign_160 rfl 0 rfl ?_
        refine j_dup hE dX12_sign_161 rfl ?_
        refine j_get (v := .int (mo_z 28 0)) hE lg_Mo_93 0 rfl 0 (wg_Mo_0 g a mo_z mo_y) rfl dX12_sign_162 ?_
        refine j_iconst (v := 1) hE dX12_sign_165 (by decide) ?_
        refine j_iadd hE dX12_sign_166 ?_
        refine j_put (v := .int ((mo_z 28 0) + 1)) (ws' := ([n_Mo g a (up2 mo_z 28 0 ((mo_z 28 0) + 1)) mo_y] : List va_W)) hE lp_Mo_93 0 rfl 0 (wg_Mo_0 g a mo_z mo_y) rfl rfl (Nat.le_of_ble_eq_true rfl) (wp_Mo_28 g a mo_z mo_y ((mo_z 28 0) + 1)) rfl dX12_sign_167 ?_
        obtain rfl := Option.some.inj hf
        exact j_vret hE hq rfl rfl dX12_sign_170
    · refine j_aload_n hE dX12_sign_143 rfl 0 rfl ?_
      refine j_sipush (v := 258) hE dX12_sign_144 (by decide) ?_
      refine j_put (v := .int 258) (ws' := ([n_Mo g a (up2 mo_z 31 0 258) mo_y] : List va_W)) hE lp_Mo_116 0 rfl 0 (wg_Mo_0 g a mo_z mo_y) rfl rfl (Nat.le_of_ble_eq_true rfl) (wp_Mo_31 g a mo_z mo_y 258) rfl dX12_sign_147 ?_
      refine j_aload_n hE dX12_sign_150 rfl 0 rfl ?_
      refine j_get (v := .int 258) hE lg_Mo_116 0 rfl 0 (wg_Mo_0 g a (up2 mo_z 31 0 258) mo_y) rfl dX12_sign_151 ?_
      refine j_sipush (v := 256) hE dX12_sign_154 (by decide) ?_
      refine j_icmp_lt_f (tgt := 170) hE (by decide) dX12_sign_157 (by decide) ?_
      refine j_aload_n hE dX12_sign_160 rfl 0 rfl ?_
      refine j_dup hE dX12_sign_161 rfl ?_
      refine j_get (v := .int (mo_z 28 0)) hE lg_Mo_93 0 rfl 0 (wg_Mo_0 g a (up2 mo_z 31 0 258) mo_y) rfl dX12_sign_162 ?_
      refine j_iconst (v := 1) hE dX12_sign_165 (by decide) ?_
      refine j_iadd hE dX12_sign_166 ?_
      refine j_put (v := .int ((mo_z 28 0) + 1)) (ws' := ([n_Mo g a (up2 (up2 mo_z 31 0 258) 28 0 ((mo_z 28 0) + 1)) mo_y] : List va_W)) hE lp_Mo_93 0 rfl 0 (wg_Mo_0 g a (up2 mo_z 31 0 258) mo_y) rfl rfl (Nat.le_of_ble_eq_true rfl) (wp_Mo_28 g a (up2 mo_z 31 0 258) mo_y ((mo_z 28 0) + 1)) rfl dX12_sign_167 ?_
      obtain rfl := Option.some.inj hf
      exact j_vret hE hq rfl rfl dX12_sign_170
set_option maxRecDepth 100000 in
theorem j_Mo_sign_76 (E : jT) (g : jG) (a : Nat → Nat) (mo_y : jY) (x1 : Int32) (res : jZ) (hE : jOk E g RX12 cX12_sign 2 (none : Option Jvm.ClassFile.FieldType) rm_Mo_sign) (hq : jEnd E g none (([n_Mo g a res mo_y] : List va_W)) 0 0)  (mo_z : jZ) (s0 : Int32) (hf : f_Mo_sign_76 x1 mo_z s0 = some res) : J E g 0 0 (([n_Mo g a mo_z mo_y] : List va_W)) [(0, .ref (a 0)), (1, .int x1)] 76 [.int s0, .ref (a 0)] := by
  unfold f_Mo_sign_76 at hf
  refine j_put (v := .int s0) (ws' := ([n_Mo g a (up2 mo_z 30 0 s0) mo_y] : List va_W)) hE lp_Mo_106 0 rfl 0 (wg_Mo_0 g a mo_z mo_y) rfl rfl (Nat.le_of_ble_eq_true rfl) (wp_Mo_30 g a mo_z mo_y s0) rfl dX12_sign_76 ?_
  refine j_aload_n hE dX12_sign_79 rfl 0 rfl ?_
  refine j_iload_n hE dX12_sign_80 rfl 1 rfl ?_
  refine j_put (v := .int x1) (ws' := ([n_Mo g a (up2 (up2 mo_z 30 0 s0) 31 0 x1) mo_y] : List va_W)) hE lp_Mo_116 0 rfl 0 (wg_Mo_0 g a (up2 mo_z 30 0 s0) mo_y) rfl rfl (Nat.le_of_ble_eq_true rfl) (wp_Mo_31 g a (up2 mo_z 30 0 s0) mo_y x1) rfl dX12_sign_81 ?_
  refine j_iload_n hE dX12_sign_84 rfl 1 rfl ?_
  refine j_bipush (v := 60) hE dX12_sign_85 (by decide) ?_
  refine j_icmp_ne (tgt := 106) hE hf dX12_sign_87 (by decide) (fun c11 hf => ?_) (fun c11 hf => ?_)
  · refine j_iload_n hE dX12_sign_106 rfl 1 rfl ?_
    refine j_bipush (v := 60) hE dX12_sign_107 (by decide) ?_
    refine j_icmp_ne (tgt := 128) hE hf dX12_sign_109 (by decide) (fun c12 hf => ?_) (fun c12 hf => ?_)
    · exact j_Mo_sign_128 E g a mo_y x1 res hE hq (up2 (up2 mo_z 30 0 s0) 31 0 x1) hf
    · refine j_aload_n hE dX12_sign_112 rfl 0 rfl ?_
      obtain ⟨q13, hc14, hf⟩ := bind_of hf
      refine j_callV (ws' := ([n_Mo g a (up2 (up2 mo_z 30 0 s0) 31 0 x1) mo_y] : List va_W)) (As := []) (rest := []) (st2 := [.int q13]) hE (fun l => c_Mo_here l g a (up2 (up2 mo_z 30 0 s0) 31 0 x1) mo_y q13 hc14) cd_X12_here cv_X12_here ml_Mo_99 rfl rfl rfl (wg_Mo_0 _ _ _ _) ⟨⟨Nat.le_of_ble_eq_true rfl, Nat.le_of_ble_eq_true rfl⟩, ⟨Nat.zero_le _, Nat.zero_le _⟩, rfl, rfl⟩ [0] rfl rfl rfl (Nat.le_of_ble_eq_true rfl) rfl dX12_sign_113 ?_
      refine j_bipush (v := 62) hE dX12_sign_116 (by decide) ?_
      refine j_icmp_ne (tgt := 128) hE hf dX12_sign_118 (by decide) (fun c15 hf => ?_) (fun c15 hf => ?_)
      · exact j_Mo_sign_128 E g a mo_y x1 res hE hq (up2 (up2 mo_z 30 0 s0) 31 0 x1) hf
      · refine j_aload_n hE dX12_sign_121 rfl 0 rfl ?_
        refine j_sipush (v := 257) hE dX12_sign_122 (by decide) ?_
        refine j_put (v := .int 257) (ws' := ([n_Mo g a (up2 (up2 (up2 mo_z 30 0 s0) 31 0 x1) 31 0 257) mo_y] : List va_W)) hE lp_Mo_116 0 rfl 0 (wg_Mo_0 g a (up2 (up2 mo_z 30 0 s0) 31 0 x1) mo_y) rfl rfl (Nat.le_of_ble_eq_true rfl) (wp_Mo_31 g a (up2 (up2 mo_z 30 0 s0) 31 0 x1) mo_y 257) rfl dX12_sign_125 ?_
        exact j_Mo_sign_128 E g a mo_y x1 res hE hq (up2 (up2 (up2 mo_z 30 0 s0) 31 0 x1) 31 0 257) hf
  · refine j_aload_n hE dX12_sign_90 rfl 0 rfl ?_
    obtain ⟨q16, hc17, hf⟩ := bind_of hf
    refine j_callV (ws' := ([n_Mo g a (up2 (up2 mo_z 30 0 s0) 31 0 x1) mo_y] : List va_W)) (As := []) (rest := []) (st2 := [.int q16]) hE (fun l => c_Mo_here l g a (up2 (up2 mo_z 30 0 s0) 31 0 x1) mo_y q16 hc17) cd_X12_here cv_X12_here ml_Mo_99 rfl rfl rfl (wg_Mo_0 _ _ _ _) ⟨⟨Nat.le_of_ble_eq_true rfl, Nat.le_of_ble_eq_true rfl⟩, ⟨Nat.zero_le _, Nat.zero_le _⟩, rfl, rfl⟩ [0] rfl rfl rfl (Nat.le_of_ble_eq_true rfl) rfl dX12_sign_91 ?_
    refine j_bipush (v := 61) hE dX12_sign_94 (by decide) ?_
    refine j_icmp_ne (tgt := 106) hE hf dX12_sign_96 (by decide) (fun c18 hf => ?_) (fun c18 hf => ?_)
    · refine j_iload_n hE dX12_sign_106 rfl 1 rfl ?_
      refine j_bipush (v := 60) hE dX12_sign_107 (by decide) ?_
      refine j_icmp_ne (tgt := 128) hE hf dX12_sign_109 (by decide) (fun c19 hf => ?_) (fun c19 hf => ?_)
      · exact j_Mo_sign_128 E g a mo_y x1 res hE hq (up2 (up2 mo_z 30 0 s0) 31 0 x1) hf
      · refine j_aload_n hE dX12_sign_112 rfl 0 rfl ?_
        obtain ⟨q20, hc21, hf⟩ := bind_of hf
        refine j_callV (ws' := ([n_Mo g a (up2 (up2 mo_z 30 0 s0) 31 0 x1) mo_y] : List va_W)) (As := []) (rest := []) (st2 := [.int q20]) hE (fun l => c_Mo_here l g a (up2 (up2 mo_z 30 0 s0) 31 0 x1) mo_y q20 hc21) cd_X12_here cv_X12_here ml_Mo_99 rfl rfl rfl (wg_Mo_0 _ _ _ _) ⟨⟨Nat.le_of_ble_eq_true rfl, Nat.le_of_ble_eq_true rfl⟩, ⟨Nat.zero_le _, Nat.zero_le _⟩, rfl, rfl⟩ [0] rfl rfl rfl (Nat.le_of_ble_eq_true rfl) rfl dX12_sign_113 ?_
        refine j_bipush (v := 62) hE dX12_sign_116 (by decide) ?_
        refine j_icmp_ne (tgt := 128) hE hf dX12_sign_118 (by decide) (fun c22 hf => ?_) (fun c22 hf => ?_)
        · exact j_Mo_sign_128 E g a mo_y x1 res hE hq (up2 (up2 mo_z 30 0 s0) 31 0 x1) hf
        · refine j_aload_n hE dX12_sign_121 rfl 0 rfl ?_
          refine j_sipush (v := 257) hE dX12_sign_122 (by decide) ?_
          refine j_put (v := .int 257) (ws' := ([n_Mo g a (up2 (up2 (up2 mo_z 30 0 s0) 31 0 x1) 31 0 257) mo_y] : List va_W)) hE lp_Mo_116 0 rfl 0 (wg_Mo_0 g a (up2 (up2 mo_z 30 0 s0) 31 0 x1) mo_y) rfl rfl (Nat.le_of_ble_eq_true rfl) (wp_Mo_31 g a (up2 (up2 mo_z 30 0 s0) 31 0 x1) mo_y 257) rfl dX12_sign_125 ?_
          exact j_Mo_sign_128 E g a mo_y x1 res hE hq (up2 (up2 (up2 mo_z 30 0 s0) 31 0 x1) 31 0 257) hf
    · refine j_aload_n hE dX12_sign_99 rfl 0 rfl ?_
      refine j_sipush (v := 256) hE dX12_sign_100 (by decide) ?_
      refine j_put (v := .int 256) (ws' := ([n_Mo g a (up2 (up2 (up2 mo_z 30 0 s0) 31 0 x1) 31 0 256) mo_y] : List va_W)) hE lp_Mo_116 0 rfl 0 (wg_Mo_0 g a (up2 (up2 mo_z 30 0 s0) 31 0 x1) mo_y) rfl rfl (Nat.le_of_ble_eq_true rfl) (wp_Mo_31 g a (up2 (up2 mo_z 30 0 s0) 31 0 x1) mo_y 256) rfl dX12_sign_103 ?_
      refine j_iload_n hE dX12_sign_106 rfl 1 rfl ?_
      refine j_bipush (v := 60) hE dX12_sign_107 (by decide) ?_
      refine j_icmp_ne (tgt := 128) hE hf dX12_sign_109 (by decide) (fun c23 hf => ?_) (fun c23 hf => ?_)
      · exact j_Mo_sign_128 E g a mo_y x1 res hE hq (up2 (up2 (up2 mo_z 30 0 s0) 31 0 x1) 31 0 256) hf
      · refine j_aload_n hE dX12_sign_112 rfl 0 rfl ?_
        obtain ⟨q24, hc25, hf⟩ := bind_of hf
        refine j_callV (ws' := ([n_Mo g a (up2 (up2 (up2 mo_z 30 0 s0) 31 0 x1) 31 0 256) mo_y] : List va_W)) (As := []) (rest := []) (st2 := [.int q24]) hE (fun l => c_Mo_here l g a (up2 (up2 (up2 mo_z 30 0 s0) 31 0 x1) 31 0 256) mo_y q24 hc25) cd_X12_here cv_X12_here ml_Mo_99 rfl rfl rfl (wg_Mo_0 _ _ _ _) ⟨⟨Nat.le_of_ble_eq_true rfl, Nat.le_of_ble_eq_true rfl⟩, ⟨Nat.zero_le _, Nat.zero_le _⟩, rfl, rfl⟩ [0] rfl rfl rfl (Nat.le_of_ble_eq_true rfl) rfl dX12_sign_113 ?_
        refine j_bipush (v := 62) hE dX12_sign_116 (by decide) ?_
        refine j_icmp_ne (tgt := 128) hE hf dX12_sign_118 (by decide) (fun c26 hf => ?_) (fun c26 hf => ?_)
        · exact j_Mo_sign_128 E g a mo_y x1 res hE hq (up2 (up2 (up2 mo_z 30 0 s0) 31 0 x1) 31 0 256) hf
        · refine j_aload_n hE dX12_sign_121 rfl 0 rfl ?_
          refine j_sipush (v := 257) hE dX12_sign_122 (by decide) ?_
          refine j_put (v := .int 257) (ws' := ([n_Mo g a (up2 (up2 (up2 (up2 mo_z 30 0 s0) 31 0 x1) 31 0 256) 31 0 257) mo_y] : List va_W)) hE lp_Mo_116 0 rfl 0 (wg_Mo_0 g a (up2 (up2 (up2 mo_z 30 0 s0) 31 0 x1) 31 0 256) mo_y) rfl rfl (Nat.le_of_ble_eq_true rfl) (wp_Mo_31 g a (up2 (up2 (up2 mo_z 30 0 s0) 31 0 x1) 31 0 256) mo_y 257) rfl dX12_sign_125 ?_
          exact j_Mo_sign_128 E g a mo_y x1 res hE hq (up2 (up2 (up2 (up2 mo_z 30 0 s0) 31 0 x1) 31 0 256) 31 0 257) hf
set_option maxRecDepth 100000 in
theorem c_Mo_sign (l : Launch) (g : jG) (a : Nat → Nat) (mo_z : jZ) (mo_y : jY) (x1 : Int32) (res : jZ) (hf : f_Mo_sign mo_z x1 = some res) : MC l g yX12_sign cX12_sign 2 (none : Option Jvm.ClassFile.FieldType) rm_Mo_sign [.ref (a 0), .int x1] (([n_Mo g a mo_z mo_y] : List va_W)) none (([n_Mo g a res mo_y] : List va_W)) 0 0 := by
  refine MC_of (own := RX12) (lv := [(0, .ref (a 0)), (1, .int x1)]) (by decide) rfl (Nat.le_of_ble_eq_true rfl) rfl rfl (fun E hE hq => ?_)
  unfold f_Mo_sign at hf
  refine j_aload_n hE dX12_sign_0 rfl 0 rfl ?_
  refine j_dup hE dX12_sign_1 rfl ?_
  refine j_get (v := .int (mo_z 28 0)) hE lg_Mo_93 0 rfl 0 (wg_Mo_0 g a mo_z mo_y) rfl dX12_sign_2 ?_
  refine j_iconst (v := 1) hE dX12_sign_5 (by decide) ?_
  refine j_iadd hE dX12_sign_6 ?_
  refine j_put (v := .int ((mo_z 28 0) + 1)) (ws' := ([n_Mo g a (up2 mo_z 28 0 ((mo_z 28 0) + 1)) mo_y] : List va_W)) hE lp_Mo_93 0 rfl 0 (wg_Mo_0 g a mo_z mo_y) rfl rfl (Nat.le_of_ble_eq_true rfl) (wp_Mo_28 g a mo_z mo_y ((mo_z 28 0) + 1)) rfl dX12_sign_7 ?_
  refine j_aload_n hE dX12_sign_10 rfl 0 rfl ?_
  refine j_iload_n hE dX12_sign_11 rfl 1 rfl ?_
  refine j_bipush (v := 59) hE dX12_sign_12 (by decide) ?_
  refine j_icmp_eq (tgt := 71) hE hf dX12_sign_14 (by decide) (fun c1 hf => ?_) (fun c1 hf => ?_)
  · refine j_iconst (v := 3) hE dX12_sign_71 (by decide) ?_
    refine j_goto (tgt := 76) hE dX12_sign_72 (by decide) ?_
    exact j_Mo_sign_76 E g a mo_y x1 res hE hq (up2 mo_z 28 0 ((mo_z 28 0) + 1)) 3 hf
  · refine j_iload_n hE dX12_sign_17 rfl 1 rfl ?_
    refine j_bipush (v := 40) hE dX12_sign_18 (by decide) ?_
    refine j_icmp_eq (tgt := 71) hE hf dX12_sign_20 (by decide) (fun c2 hf => ?_) (fun c2 hf => ?_)
    · refine j_iconst (v := 3) hE dX12_sign_71 (by decide) ?_
      refine j_goto (tgt := 76) hE dX12_sign_72 (by decide) ?_
      exact j_Mo_sign_76 E g a mo_y x1 res hE hq (up2 mo_z 28 0 ((mo_z 28 0) + 1)) 3 hf
    · refine j_iload_n hE dX12_sign_23 rfl 1 rfl ?_
      refine j_bipush (v := 41) hE dX12_sign_24 (by decide) ?_
      refine j_icmp_eq (tgt := 71) hE hf dX12_sign_26 (by decide) (fun c3 hf => ?_) (fun c3 hf => ?_)
      · refine j_iconst (v := 3) hE dX12_sign_71 (by decide) ?_
        refine j_goto (tgt := 76) hE dX12_sign_72 (by decide) ?_
        exact j_Mo_sign_76 E g a mo_y x1 res hE hq (up2 mo_z 28 0 ((mo_z 28 0) + 1)) 3 hf
      · refine j_iload_n hE dX12_sign_29 rfl 1 rfl ?_
        refine j_bipush (v := 43) hE dX12_sign_30 (by decide) ?_
        refine j_icmp_eq (tgt := 71) hE hf dX12_sign_32 (by decide) (fun c4 hf => ?_) (fun c4 hf => ?_)
        · refine j_iconst (v := 3) hE dX12_sign_71 (by decide) ?_
          refine j_goto (tgt := 76) hE dX12_sign_72 (by decide) ?_
          exact j_Mo_sign_76 E g a mo_y x1 res hE hq (up2 mo_z 28 0 ((mo_z 28 0) + 1)) 3 hf
        · refine j_iload_n hE dX12_sign_35 rfl 1 rfl ?_
          refine j_bipush (v := 45) hE dX12_sign_36 (by decide) ?_
          refine j_icmp_eq (tgt := 71) hE hf dX12_sign_38 (by decide) (fun c5 hf => ?_) (fun c5 hf => ?_)
          · refine j_iconst (v := 3) hE dX12_sign_71 (by decide) ?_
            refine j_goto (tgt := 76) hE dX12_sign_72 (by decide) ?_
            exact j_Mo_sign_76 E g a mo_y x1 res hE hq (up2 mo_z 28 0 ((mo_z 28 0) + 1)) 3 hf
          · refine j_iload_n hE dX12_sign_41 rfl 1 rfl ?_
            refine j_bipush (v := 42) hE dX12_sign_42 (by decide) ?_
            refine j_icmp_eq (tgt := 71) hE hf dX12_sign_44 (by decide) (fun c6 hf => ?_) (fun c6 hf => ?_)
            · refine j_iconst (v := 3) hE dX12_sign_71 (by decide) ?_
              refine j_goto (tgt := 76) hE dX12_sign_72 (by decide) ?_
              exact j_Mo_sign_76 E g a mo_y x1 res hE hq (up2 mo_z 28 0 ((mo_z 28 0) + 1)) 3 hf
            · refine j_iload_n hE dX12_sign_47 rfl 1 rfl ?_
              refine j_bipush (v := 47) hE dX12_sign_48 (by decide) ?_
              refine j_icmp_eq (tgt := 71) hE hf dX12_sign_50 (by decide) (fun c7 hf => ?_) (fun c7 hf => ?_)
              · refine j_iconst (v := 3) hE dX12_sign_71 (by decide) ?_
                refine j_goto (tgt := 76) hE dX12_sign_72 (by decide) ?_
                exact j_Mo_sign_76 E g a mo_y x1 res hE hq (up2 mo_z 28 0 ((mo_z 28 0) + 1)) 3 hf
              · refine j_iload_n hE dX12_sign_53 rfl 1 rfl ?_
                refine j_bipush (v := 60) hE dX12_sign_54 (by decide) ?_
                refine j_icmp_eq (tgt := 71) hE hf dX12_sign_56 (by decide) (fun c8 hf => ?_) (fun c8 hf => ?_)
                · refine j_iconst (v := 3) hE dX12_sign_71 (by decide) ?_
                  refine j_goto (tgt := 76) hE dX12_sign_72 (by decide) ?_
                  exact j_Mo_sign_76 E g a mo_y x1 res hE hq (up2 mo_z 28 0 ((mo_z 28 0) + 1)) 3 hf
                · refine j_iload_n hE dX12_sign_59 rfl 1 rfl ?_
                  refine j_bipush (v := 61) hE dX12_sign_60 (by decide) ?_
                  refine j_icmp_eq (tgt := 71) hE hf dX12_sign_62 (by decide) (fun c9 hf => ?_) (fun c9 hf => ?_)
                  · refine j_iconst (v := 3) hE dX12_sign_71 (by decide) ?_
                    refine j_goto (tgt := 76) hE dX12_sign_72 (by decide) ?_
                    exact j_Mo_sign_76 E g a mo_y x1 res hE hq (up2 mo_z 28 0 ((mo_z 28 0) + 1)) 3 hf
                  · refine j_iload_n hE dX12_sign_65 rfl 1 rfl ?_
                    refine j_bipush (v := 62) hE dX12_sign_66 (by decide) ?_
                    refine j_icmp_ne (tgt := 75) hE hf dX12_sign_68 (by decide) (fun c10 hf => ?_) (fun c10 hf => ?_)
                    · refine j_iconst (v := 5) hE dX12_sign_75 (by decide) ?_
                      exact j_Mo_sign_76 E g a mo_y x1 res hE hq (up2 mo_z 28 0 ((mo_z 28 0) + 1)) 5 hf
                    · refine j_iconst (v := 3) hE dX12_sign_71 (by decide) ?_
                      refine j_goto (tgt := 76) hE dX12_sign_72 (by decide) ?_
                      exact j_Mo_sign_76 E g a mo_y x1 res hE hq (up2 mo_z 28 0 ((mo_z 28 0) + 1)) 3 hf
def rm_Mo_word : Room := { frames := 8, cells := 0, slots := 0, locals := 200 }
def f_Mo_word_97 (mo_z : jZ)  (k4 : Int32 → Int32 → Option (Int32)) : Nat → Int32 → Int32 → Option (Int32)
  | 0, _, _ => none
  | n + 1, v1, v2 => (ix v2 83).bind fun _ => (if (strC 2 (Int32.toNatClampNeg v2)) = 32 then k4 (v1 + 1) (v2 + 1)
    else f_Mo_word_97 mo_z k4 n v1 (v2 + 1))
def f_Mo_word_69 (mo_z : jZ)  (k4 : Int32 → Int32 → Option (Int32)) (v1 : Int32) (v2 : Int32) (v3 : Int32) : Option (Int32) := (ix (v2 + v3) 83).bind fun _ => (if (strC 2 (Int32.toNatClampNeg (v2 + v3))) = 32 then (if ((mo_z 29 0) + v3) = (mo_z 28 0) then some v1
    else f_Mo_word_97 mo_z k4 FU v1 v2)
    else f_Mo_word_97 mo_z k4 FU v1 v2)
def f_Mo_word_15 (mo_z : jZ)  (k4 : Int32 → Int32 → Option (Int32)) : Nat → Int32 → Int32 → Int32 → Option (Int32)
  | 0, _, _, _ => none
  | n + 1, v1, v2, v3 => (ix (v2 + v3) 83).bind fun _ => (if (strC 2 (Int32.toNatClampNeg (v2 + v3))) = 32 then f_Mo_word_69 mo_z k4 v1 v2 v3
    else (if (mo_z 28 0) ≤ ((mo_z 29 0) + v3) then f_Mo_word_69 mo_z k4 v1 v2 v3
    else (ix ((mo_z 29 0) + v3) 600).bind fun _ => (ix (v2 + v3) 83).bind fun _ => (if (mo_z 1 (Int32.toNatClampNeg ((mo_z 29 0) + v3))) = (strC 2 (Int32.toNatClampNeg (v2 + v3))) then f_Mo_word_15 mo_z k4 n v1 v2 (v3 + 1)
    else f_Mo_word_69 mo_z k4 v1 v2 v3)))
def f_Mo_word_4 (mo_z : jZ)   : Nat → Int32 → Int32 → Option (Int32)
  | 0, _, _ => none
  | n + 1, v1, v2 => (if 83 ≤ v2 then some (-1)
    else f_Mo_word_15 mo_z (fun v1 v2 => f_Mo_word_4 mo_z n v1 v2) FU v1 v2 0)
def f_Mo_word (mo_z : jZ)  : Option (Int32) := f_Mo_word_4 mo_z FU 0 0
set_option maxRecDepth 100000 in
theorem j_Mo_word_97 (E : jT) (g : jG) (a : Nat → Nat) (mo_z : jZ) (mo_y : jY)  (res : Int32) (hE : jOk E g RX12 cX12_word 4 (some .int) rm_Mo_word) (hq : jEnd E g (some (.int res)) (([n_Mo g a mo_z mo_y] : List va_W)) 0 0) (k4 : Int32 → Int32 → Option (Int32)) (hk4 : ∀ (v1 : Int32) (v2 : Int32), k4 v1 v2 = some res → J E g 0 0 (([n_Mo g a mo_z mo_y] : List va_W)) [(0, .ref (a 0)), (1, .int v1), (2, .int v2)] 4 []) : ∀ (n : Nat) (v1 : Int32) (v2 : Int32), f_Mo_word_97 mo_z k4 n v1 v2 = some res → J E g 0 0 (([n_Mo g a mo_z mo_y] : List va_W)) [(0, .ref (a 0)), (1, .int v1), (2, .int v2)] 97 [] := by
  intro n
  induction n with
  | zero =>
    intro v1 v2 hf
    rw [f_Mo_word_97] at hf
    cases hf
  | succ n ih =>
    intro v1 v2 hf
    rw [f_Mo_word_97] at hf
    refine j_lds2 hE dX12_word_97 ?_
    refine j_iload_n hE dX12_word_99 rfl 2 rfl ?_
    refine j_schar (i := 2) (n := 83) hE hf ml_Mo_136 (by decide) rfl rfl ⟨⟨Nat.le_of_ble_eq_true rfl, Nat.le_of_ble_eq_true rfl⟩, Nat.zero_le _, Nat.zero_le _⟩ (Nat.le_of_ble_eq_true rfl) dX12_word_100 (fun hf => ?_)
    refine j_bipush (v := 32) hE dX12_word_103 (by decide) ?_
    refine j_icmp_eq (tgt := 114) hE hf dX12_word_105 (by decide) (fun c8 hf => ?_) (fun c8 hf => ?_)
    · refine j_iinc (v := (v2 + 1)) (lv' := [(2, .int (v2 + 1)), (0, .ref (a 0)), (1, .int v1)]) hE dX12_word_114 2 rfl rfl (by decide) rfl ?_
      refine j_iinc (v := (v1 + 1)) (lv' := [(1, .int (v1 + 1)), (2, .int (v2 + 1)), (0, .ref (a 0))]) hE dX12_word_117 2 rfl rfl (by decide) rfl ?_
      refine j_goto (tgt := 4) hE dX12_word_120 (by decide) ?_
      exact j_sub [2, 0, 1] rfl (hk4 (v1 + 1) (v2 + 1) hf)
    · refine j_iinc (v := (v2 + 1)) (lv' := [(2, .int (v2 + 1)), (0, .ref (a 0)), (1, .int v1)]) hE dX12_word_108 2 rfl rfl (by decide) rfl ?_
      refine j_goto (tgt := 97) hE dX12_word_111 (by decide) ?_
      exact j_sub [1, 2, 0] rfl (ih v1 (v2 + 1) hf)
set_option maxRecDepth 100000 in
theorem j_Mo_word_69 (E : jT) (g : jG) (a : Nat → Nat) (mo_z : jZ) (mo_y : jY)  (res : Int32) (hE : jOk E g RX12 cX12_word 4 (some .int) rm_Mo_word) (hq : jEnd E g (some (.int res)) (([n_Mo g a mo_z mo_y] : List va_W)) 0 0) (k4 : Int32 → Int32 → Option (Int32)) (hk4 : ∀ (v1 : Int32) (v2 : Int32), k4 v1 v2 = some res → J E g 0 0 (([n_Mo g a mo_z mo_y] : List va_W)) [(0, .ref (a 0)), (1, .int v1), (2, .int v2)] 4 []) (v1 : Int32) (v2 : Int32) (v3 : Int32) (hf : f_Mo_word_69 mo_z k4 v1 v2 v3 = some res) : J E g 0 0 (([n_Mo g a mo_z mo_y] : List va_W)) [(0, .ref (a 0)), (1, .int v1), (2, .int v2), (3, .int v3)] 69 [] := by
  unfold f_Mo_word_69 at hf
  refine j_lds2 hE dX12_word_69 ?_
  refine j_iload_n hE dX12_word_71 rfl 2 rfl ?_
  refine j_iload_n hE dX12_word_72 rfl 3 rfl ?_
  refine j_iadd hE dX12_word_73 ?_
  refine j_schar (i := 2) (n := 83) hE hf ml_Mo_136 (by decide) rfl rfl ⟨⟨Nat.le_of_ble_eq_true rfl, Nat.le_of_ble_eq_true rfl⟩, Nat.zero_le _, Nat.zero_le _⟩ (Nat.le_of_ble_eq_true rfl) dX12_word_74 (fun hf => ?_)
  refine j_bipush (v := 32) hE dX12_word_77 (by decide) ?_
  refine j_icmp_ne (tgt := 97) hE hf dX12_word_79 (by decide) (fun c6 hf => ?_) (fun c6 hf => ?_)
  · exact j_sub [0, 1, 2] rfl (j_Mo_word_97 E g a mo_z mo_y res hE hq k4 hk4 FU v1 v2 hf)
  · refine j_aload_n hE dX12_word_82 rfl 0 rfl ?_
    refine j_get (v := .int (mo_z 29 0)) hE lg_Mo_103 0 rfl 0 (wg_Mo_0 g a mo_z mo_y) rfl dX12_word_83 ?_
    refine j_iload_n hE dX12_word_86 rfl 3 rfl ?_
    refine j_iadd hE dX12_word_87 ?_
    refine j_aload_n hE dX12_word_88 rfl 0 rfl ?_
    refine j_get (v := .int (mo_z 28 0)) hE lg_Mo_93 0 rfl 0 (wg_Mo_0 g a mo_z mo_y) rfl dX12_word_89 ?_
    refine j_icmp_ne (tgt := 97) hE hf dX12_word_92 (by decide) (fun c7 hf => ?_) (fun c7 hf => ?_)
    · exact j_sub [0, 1, 2] rfl (j_Mo_word_97 E g a mo_z mo_y res hE hq k4 hk4 FU v1 v2 hf)
    · refine j_iload_n hE dX12_word_95 rfl 1 rfl ?_
      obtain rfl := Option.some.inj hf
      exact j_iret hE hq rfl rfl dX12_word_96
set_option maxRecDepth 100000 in
theorem j_Mo_word_15 (E : jT) (g : jG) (a : Nat → Nat) (mo_z : jZ) (mo_y : jY)  (res : Int32) (hE : jOk E g RX12 cX12_word 4 (some .int) rm_Mo_word) (hq : jEnd E g (some (.int res)) (([n_Mo g a mo_z mo_y] : List va_W)) 0 0) (k4 : Int32 → Int32 → Option (Int32)) (hk4 : ∀ (v1 : Int32) (v2 : Int32), k4 v1 v2 = some res → J E g 0 0 (([n_Mo g a mo_z mo_y] : List va_W)) [(0, .ref (a 0)), (1, .int v1), (2, .int v2)] 4 []) : ∀ (n : Nat) (v1 : Int32) (v2 : Int32) (v3 : Int32), f_Mo_word_15 mo_z k4 n v1 v2 v3 = some res → J E g 0 0 (([n_Mo g a mo_z mo_y] : List va_W)) [(0, .ref (a 0)), (1, .int v1), (2, .int v2), (3, .int v3)] 15 [] := by
  intro n
  induction n with
  | zero =>
    intro v1 v2 v3 hf
    rw [f_Mo_word_15] at hf
    cases hf
  | succ n ih =>
    intro v1 v2 v3 hf
    rw [f_Mo_word_15] at hf
    refine j_lds2 hE dX12_word_15 ?_
    refine j_iload_n hE dX12_word_17 rfl 2 rfl ?_
    refine j_iload_n hE dX12_word_18 rfl 3 rfl ?_
    refine j_iadd hE dX12_word_19 ?_
    refine j_schar (i := 2) (n := 83) hE hf ml_Mo_136 (by decide) rfl rfl ⟨⟨Nat.le_of_ble_eq_true rfl, Nat.le_of_ble_eq_true rfl⟩, Nat.zero_le _, Nat.zero_le _⟩ (Nat.le_of_ble_eq_true rfl) dX12_word_20 (fun hf => ?_)
    refine j_bipush (v := 32) hE dX12_word_23 (by decide) ?_
    refine j_icmp_eq (tgt := 69) hE hf dX12_word_25 (by decide) (fun c2 hf => ?_) (fun c2 hf => ?_)
    · exact j_Mo_word_69 E g a mo_z mo_y res hE hq k4 hk4 v1 v2 v3 hf
    · refine j_aload_n hE dX12_word_28 rfl 0 rfl ?_
      refine j_get (v := .int (mo_z 29 0)) hE lg_Mo_103 0 rfl 0 (wg_Mo_0 g a mo_z mo_y) rfl dX12_word_29 ?_
      refine j_iload_n hE dX12_word_32 rfl 3 rfl ?_
      refine j_iadd hE dX12_word_33 ?_
      refine j_aload_n hE dX12_word_34 rfl 0 rfl ?_
      refine j_get (v := .int (mo_z 28 0)) hE lg_Mo_93 0 rfl 0 (wg_Mo_0 g a mo_z mo_y) rfl dX12_word_35 ?_
      refine j_icmp_ge (tgt := 69) hE hf dX12_word_38 (by decide) (fun c3 hf => ?_) (fun c3 hf => ?_)
      · exact j_Mo_word_69 E g a mo_z mo_y res hE hq k4 hk4 v1 v2 v3 hf
      · refine j_aload_n hE dX12_word_41 rfl 0 rfl ?_
        refine j_get (v := .ref (a 1)) hE lg_Mo_9 0 rfl 0 (wg_Mo_0 g a mo_z mo_y) rfl dX12_word_42 ?_
        refine j_aload_n hE dX12_word_45 rfl 0 rfl ?_
        refine j_get (v := .int (mo_z 29 0)) hE lg_Mo_103 0 rfl 0 (wg_Mo_0 g a mo_z mo_y) rfl dX12_word_46 ?_
        refine j_iload_n hE dX12_word_49 rfl 3 rfl ?_
        refine j_iadd hE dX12_word_50 ?_
        refine j_iald hE hf 0 rfl 1 (wg_Mo_1 g a mo_z mo_y) dX12_word_51 (fun hf => ?_)
        refine j_lds2 hE dX12_word_52 ?_
        refine j_iload_n hE dX12_word_54 rfl 2 rfl ?_
        refine j_iload_n hE dX12_word_55 rfl 3 rfl ?_
        refine j_iadd hE dX12_word_56 ?_
        refine j_schar (i := 2) (n := 83) hE hf ml_Mo_136 (by decide) rfl rfl ⟨⟨Nat.le_of_ble_eq_true rfl, Nat.le_of_ble_eq_true rfl⟩, Nat.zero_le _, Nat.zero_le _⟩ (Nat.le_of_ble_eq_true rfl) dX12_word_57 (fun hf => ?_)
        refine j_icmp_ne (tgt := 69) hE hf dX12_word_60 (by decide) (fun c5 hf => ?_) (fun c5 hf => ?_)
        · exact j_Mo_word_69 E g a mo_z mo_y res hE hq k4 hk4 v1 v2 v3 hf
        · refine j_iinc (v := (v3 + 1)) (lv' := [(3, .int (v3 + 1)), (0, .ref (a 0)), (1, .int v1), (2, .int v2)]) hE dX12_word_63 3 rfl rfl (by decide) rfl ?_
          refine j_goto (tgt := 15) hE dX12_word_66 (by decide) ?_
          exact j_sub [1, 2, 3, 0] rfl (ih v1 v2 (v3 + 1) hf)
set_option maxRecDepth 100000 in
theorem j_Mo_word_4 (E : jT) (g : jG) (a : Nat → Nat) (mo_z : jZ) (mo_y : jY)  (res : Int32) (hE : jOk E g RX12 cX12_word 4 (some .int) rm_Mo_word) (hq : jEnd E g (some (.int res)) (([n_Mo g a mo_z mo_y] : List va_W)) 0 0)  : ∀ (n : Nat) (v1 : Int32) (v2 : Int32), f_Mo_word_4 mo_z n v1 v2 = some res → J E g 0 0 (([n_Mo g a mo_z mo_y] : List va_W)) [(0, .ref (a 0)), (1, .int v1), (2, .int v2)] 4 [] := by
  intro n
  induction n with
  | zero =>
    intro v1 v2 hf
    rw [f_Mo_word_4] at hf
    cases hf
  | succ n ih =>
    intro v1 v2 hf
    rw [f_Mo_word_4] at hf
    refine j_iload_n hE dX12_word_4 rfl 2 rfl ?_
    refine j_lds2 hE dX12_word_5 ?_
    refine j_slen (i := 2) (v := 83) hE ml_Mo_131 (by decide) rfl rfl ⟨⟨Nat.le_of_ble_eq_true rfl, Nat.le_of_ble_eq_true rfl⟩, Nat.zero_le _, Nat.zero_le _⟩ (Nat.le_of_ble_eq_true rfl) dX12_word_7 ?_
    refine j_icmp_ge (tgt := 123) hE hf dX12_word_10 (by decide) (fun c1 hf => ?_) (fun c1 hf => ?_)
    · refine j_iconst (v := (-1)) hE dX12_word_123 (by decide) ?_
      obtain rfl := Option.some.inj hf
      exact j_iret hE hq rfl rfl dX12_word_124
    · refine j_iconst (v := 0) hE dX12_word_13 (by decide) ?_
      refine j_istore_n (lv' := [(3, .int 0), (0, .ref (a 0)), (1, .int v1), (2, .int v2)]) hE dX12_word_14 rfl (by decide) rfl ?_
      exact j_sub [1, 2, 3, 0] rfl (j_Mo_word_15 E g a mo_z mo_y res hE hq (fun v1 v2 => f_Mo_word_4 mo_z n v1 v2) (fun v1 v2 hf => ih v1 v2 hf) FU v1 v2 0 hf)
set_option maxRecDepth 100000 in
theorem c_Mo_word (l : Launch) (g : jG) (a : Nat → Nat) (mo_z : jZ) (mo_y : jY)  (res : Int32) (hf : f_Mo_word mo_z = some res) : MC l g yX12_word cX12_word 4 (some .int) rm_Mo_word [.ref (a 0)] (([n_Mo g a mo_z mo_y] : List va_W)) (some (.int res)) (([n_Mo g a mo_z mo_y] : List va_W)) 0 0 := by
  refine MC_of (own := RX12) (lv := [(0, .ref (a 0))]) (by decide) rfl (Nat.le_of_ble_eq_true rfl) rfl rfl (fun E hE hq => ?_)
  unfold f_Mo_word at hf
  refine j_iconst (v := 0) hE dX12_word_0 (by decide) ?_
  refine j_istore_n (lv' := [(1, .int 0), (0, .ref (a 0))]) hE dX12_word_1 rfl (by decide) rfl ?_
  refine j_iconst (v := 0) hE dX12_word_2 (by decide) ?_
  refine j_istore_n (lv' := [(2, .int 0), (1, .int 0), (0, .ref (a 0))]) hE dX12_word_3 rfl (by decide) rfl ?_
  exact j_sub [2, 1, 0] rfl (j_Mo_word_4 E g a mo_z mo_y res hE hq FU 0 0 hf)
def rm_Mo_name : Room := { frames := 0, cells := 0, slots := 0, locals := 0 }
def f_Mo_name_7    : Nat → jZ → Int32 → Option (jZ)
  | 0, _, _ => none
  | n + 1, mo_z, v1 => (if 6 ≤ v1 then some mo_z
    else (if (mo_z 28 0) ≤ ((mo_z 29 0) + v1) then f_Mo_name_7  n (up2 mo_z 31 0 (((mo_z 31 0) <<< (5 &&& 31)) ||| 0)) (v1 + 1)
    else (ix ((mo_z 29 0) + v1) 600).bind fun _ => f_Mo_name_7  n (up2 mo_z 31 0 (((mo_z 31 0) <<< (5 &&& 31)) ||| (((mo_z 1 (Int32.toNatClampNeg ((mo_z 29 0) + v1))) - 97) + 1))) (v1 + 1)))
def f_Mo_name (mo_z : jZ)  : Option (jZ) := f_Mo_name_7 FU (up2 mo_z 31 0 0) 0
set_option maxRecDepth 100000 in
theorem j_Mo_name_7 (E : jT) (g : jG) (a : Nat → Nat) (mo_y : jY)  (res : jZ) (hE : jOk E g RX12 cX12_name 2 (none : Option Jvm.ClassFile.FieldType) rm_Mo_name) (hq : jEnd E g none (([n_Mo g a res mo_y] : List va_W)) 0 0)  : ∀ (n : Nat) (mo_z : jZ) (v1 : Int32), f_Mo_name_7 n mo_z v1 = some res → J E g 0 0 (([n_Mo g a mo_z mo_y] : List va_W)) [(0, .ref (a 0)), (1, .int v1)] 7 [] := by
  intro n
  induction n with
  | zero =>
    intro mo_z v1 hf
    rw [f_Mo_name_7] at hf
    cases hf
  | succ n ih =>
    intro mo_z v1 hf
    rw [f_Mo_name_7] at hf
    refine j_iload_n hE dX12_name_7 rfl 1 rfl ?_
    refine j_bipush (v := 6) hE dX12_name_8 (by decide) ?_
    refine j_icmp_ge (tgt := 63) hE hf dX12_name_10 (by decide) (fun c1 hf => ?_) (fun c1 hf => ?_)
    · obtain rfl := Option.some.inj hf
      exact j_vret hE hq rfl rfl dX12_name_63
    · refine j_aload_n hE dX12_name_13 rfl 0 rfl ?_
      refine j_aload_n hE dX12_name_14 rfl 0 rfl ?_
      refine j_get (v := .int (mo_z 31 0)) hE lg_Mo_116 0 rfl 0 (wg_Mo_0 g a mo_z mo_y) rfl dX12_name_15 ?_
      refine j_iconst (v := 5) hE dX12_name_18 (by decide) ?_
      refine j_ishl hE dX12_name_19 ?_
      refine j_aload_n hE dX12_name_20 rfl 0 rfl ?_
      refine j_get (v := .int (mo_z 29 0)) hE lg_Mo_103 0 rfl 0 (wg_Mo_0 g a mo_z mo_y) rfl dX12_name_21 ?_
      refine j_iload_n hE dX12_name_24 rfl 1 rfl ?_
      refine j_iadd hE dX12_name_25 ?_
      refine j_aload_n hE dX12_name_26 rfl 0 rfl ?_
      refine j_get (v := .int (mo_z 28 0)) hE lg_Mo_93 0 rfl 0 (wg_Mo_0 g a mo_z mo_y) rfl dX12_name_27 ?_
      refine j_icmp_ge (tgt := 52) hE hf dX12_name_30 (by decide) (fun c2 hf => ?_) (fun c2 hf => ?_)
      · refine j_iconst (v := 0) hE dX12_name_52 (by decide) ?_
        refine j_ior hE dX12_name_53 ?_
        refine j_put (v := .int (((mo_z 31 0) <<< (5 &&& 31)) ||| 0)) (ws' := ([n_Mo g a (up2 mo_z 31 0 (((mo_z 31 0) <<< (5 &&& 31)) ||| 0)) mo_y] : List va_W)) hE lp_Mo_116 0 rfl 0 (wg_Mo_0 g a mo_z mo_y) rfl rfl (Nat.le_of_ble_eq_true rfl) (wp_Mo_31 g a mo_z mo_y (((mo_z 31 0) <<< (5 &&& 31)) ||| 0)) rfl dX12_name_54 ?_
        refine j_iinc (v := (v1 + 1)) (lv' := [(1, .int (v1 + 1)), (0, .ref (a 0))]) hE dX12_name_57 1 rfl rfl (by decide) rfl ?_
        refine j_goto (tgt := 7) hE dX12_name_60 (by decide) ?_
        exact j_sub [1, 0] rfl (ih (up2 mo_z 31 0 (((mo_z 31 0) <<< (5 &&& 31)) ||| 0)) (v1 + 1) hf)
      · refine j_aload_n hE dX12_name_33 rfl 0 rfl ?_
        refine j_get (v := .ref (a 1)) hE lg_Mo_9 0 rfl 0 (wg_Mo_0 g a mo_z mo_y) rfl dX12_name_34 ?_
        refine j_aload_n hE dX12_name_37 rfl 0 rfl ?_
        refine j_get (v := .int (mo_z 29 0)) hE lg_Mo_103 0 rfl 0 (wg_Mo_0 g a mo_z mo_y) rfl dX12_name_38 ?_
        refine j_iload_n hE dX12_name_41 rfl 1 rfl ?_
        refine j_iadd hE dX12_name_42 ?_
        refine j_iald hE hf 0 rfl 1 (wg_Mo_1 g a mo_z mo_y) dX12_name_43 (fun hf => ?_)
        refine j_bipush (v := 97) hE dX12_name_44 (by decide) ?_
        refine j_isub hE dX12_name_46 ?_
        refine j_iconst (v := 1) hE dX12_name_47 (by decide) ?_
        refine j_iadd hE dX12_name_48 ?_
        refine j_goto (tgt := 53) hE dX12_name_49 (by decide) ?_
        refine j_ior hE dX12_name_53 ?_
        refine j_put (v := .int (((mo_z 31 0) <<< (5 &&& 31)) ||| (((mo_z 1 (Int32.toNatClampNeg ((mo_z 29 0) + v1))) - 97) + 1))) (ws' := ([n_Mo g a (up2 mo_z 31 0 (((mo_z 31 0) <<< (5 &&& 31)) ||| (((mo_z 1 (Int32.toNatClampNeg ((mo_z 29 0) + v1))) - 97) + 1))) mo_y] : List va_W)) hE lp_Mo_116 0 rfl 0 (wg_Mo_0 g a mo_z mo_y) rfl rfl (Nat.le_of_ble_eq_true rfl) (wp_Mo_31 g a mo_z mo_y (((mo_z 31 0) <<< (5 &&& 31)) ||| (((mo_z 1 (Int32.toNatClampNeg ((mo_z 29 0) + v1))) - 97) + 1))) rfl dX12_name_54 ?_
        refine j_iinc (v := (v1 + 1)) (lv' := [(1, .int (v1 + 1)), (0, .ref (a 0))]) hE dX12_name_57 1 rfl rfl (by decide) rfl ?_
        refine j_goto (tgt := 7) hE dX12_name_60 (by decide) ?_
        exact j_sub [1, 0] rfl (ih (up2 mo_z 31 0 (((mo_z 31 0) <<< (5 &&& 31)) ||| (((mo_z 1 (Int32.toNatClampNeg ((mo_z 29 0) + v1))) - 97) + 1))) (v1 + 1) hf)
set_option maxRecDepth 100000 in
theorem c_Mo_name (l : Launch) (g : jG) (a : Nat → Nat) (mo_z : jZ) (mo_y : jY)  (res : jZ) (hf : f_Mo_name mo_z = some res) : MC l g yX12_name cX12_name 2 (none : Option Jvm.ClassFile.FieldType) rm_Mo_name [.ref (a 0)] (([n_Mo g a mo_z mo_y] : List va_W)) none (([n_Mo g a res mo_y] : List va_W)) 0 0 := by
  refine MC_of (own := RX12) (lv := [(0, .ref (a 0))]) (by decide) rfl (Nat.le_of_ble_eq_true rfl) rfl rfl (fun E hE hq => ?_)
  unfold f_Mo_name at hf
  refine j_aload_n hE dX12_name_0 rfl 0 rfl ?_
  refine j_iconst (v := 0) hE dX12_name_1 (by decide) ?_
  refine j_put (v := .int 0) (ws' := ([n_Mo g a (up2 mo_z 31 0 0) mo_y] : List va_W)) hE lp_Mo_116 0 rfl 0 (wg_Mo_0 g a mo_z mo_y) rfl rfl (Nat.le_of_ble_eq_true rfl) (wp_Mo_31 g a mo_z mo_y 0) rfl dX12_name_2 ?_
  refine j_iconst (v := 0) hE dX12_name_5 (by decide) ?_
  refine j_istore_n (lv' := [(1, .int 0), (0, .ref (a 0))]) hE dX12_name_6 rfl (by decide) rfl ?_
  exact j_sub [1, 0] rfl (j_Mo_name_7 E g a mo_y res hE hq FU (up2 mo_z 31 0 0) 0 hf)
def rm_Mo_next : Room := { frames := 9, cells := 0, slots := 0, locals := 223 }
def f_Mo_next_162    : Nat → jZ → Option (jZ)
  | 0, _ => none
  | n + 1, mo_z => (f_Mo_here mo_z).bind fun q18 => (f_Mo_isDigit q18).bind fun q20 => (if q20 = 0 then some mo_z
    else (if (mo_z 31 0) ≤ 999 then (f_Mo_here mo_z).bind fun q24 => f_Mo_next_162  n (up2 (up2 mo_z 31 0 (((10 * (mo_z 31 0)) + q24) - 48)) 28 0 ((mo_z 28 0) + 1))
    else f_Mo_next_162  n (up2 (up2 mo_z 31 0 (mo_z 31 0)) 28 0 ((mo_z 28 0) + 1))))
def f_Mo_next_64    : Nat → jZ → Option (jZ)
  | 0, _ => none
  | n + 1, mo_z => (f_Mo_here mo_z).bind fun q26 => (f_Mo_isSmall q26).bind fun q28 => (if q28 = 0 then (f_Mo_word mo_z).bind fun q31 => (if q31 = (-1) then (if ((mo_z 28 0) - (mo_z 29 0)) ≤ 6 then (f_Mo_name (up2 (up2 mo_z 31 0 q31) 30 0 1)).bind fun q35 => some q35
    else some (up2 (up2 mo_z 31 0 q31) 30 0 5))
    else some (up2 (up2 mo_z 31 0 q31) 30 0 0))
    else f_Mo_next_64  n (up2 mo_z 28 0 ((mo_z 28 0) + 1)))
def f_Mo_next_0    : Nat → jZ → Option (jZ)
  | 0, _ => none
  | n + 1, mo_z => (f_Mo_here mo_z).bind fun q1 => (if q1 = 10 then f_Mo_next_0  n (up2 mo_z 28 0 ((mo_z 28 0) + 1))
    else (f_Mo_here mo_z).bind fun q4 => (if q4 = 32 then f_Mo_next_0  n (up2 mo_z 28 0 ((mo_z 28 0) + 1))
    else (f_Mo_here (up2 mo_z 29 0 (mo_z 28 0))).bind fun q7 => (if q7 = (-1) then some (up2 (up2 mo_z 29 0 (mo_z 28 0)) 30 0 4)
    else (f_Mo_isSmall q7).bind fun q10 => (if q10 = 0 then (f_Mo_isDigit q7).bind fun q13 => (if q13 = 0 then (f_Mo_sign (up2 mo_z 29 0 (mo_z 28 0)) q7).bind fun q16 => some q16
    else f_Mo_next_162 FU (up2 (up2 (up2 mo_z 29 0 (mo_z 28 0)) 30 0 2) 31 0 0))
    else f_Mo_next_64 FU (up2 mo_z 29 0 (mo_z 28 0))))))
def f_Mo_next (mo_z : jZ)  : Option (jZ) := f_Mo_next_0 FU mo_z
set_option maxRecDepth 100000 in
theorem j_Mo_next_162 (E : jT) (g : jG) (a : Nat → Nat) (mo_y : jY)  (res : jZ) (hE : jOk E g RX12 cX12_next 2 (none : Option Jvm.ClassFile.FieldType) rm_Mo_next) (hq : jEnd E g none (([n_Mo g a res mo_y] : List va_W)) 0 0)  : ∀ (n : Nat) (mo_z : jZ), f_Mo_next_162 n mo_z = some res → J E g 0 0 (([n_Mo g a mo_z mo_y] : List va_W)) [(0, .ref (a 0))] 162 [] := by
  intro n
  induction n with
  | zero =>
    intro mo_z hf
    rw [f_Mo_next_162] at hf
    cases hf
  | succ n ih =>
    intro mo_z hf
    rw [f_Mo_next_162] at hf
    refine j_aload_n hE dX12_next_162 rfl 0 rfl ?_
    obtain ⟨q18, hc19, hf⟩ := bind_of hf
    refine j_callV (ws' := ([n_Mo g a mo_z mo_y] : List va_W)) (As := []) (rest := []) (st2 := [.int q18]) hE (fun l => c_Mo_here l g a mo_z mo_y q18 hc19) cd_X12_here cv_X12_here ml_Mo_99 rfl rfl rfl (wg_Mo_0 _ _ _ _) ⟨⟨Nat.le_of_ble_eq_true rfl, Nat.le_of_ble_eq_true rfl⟩, ⟨Nat.zero_le _, Nat.zero_le _⟩, rfl, rfl⟩ [0] rfl rfl rfl (Nat.le_of_ble_eq_true rfl) rfl dX12_next_163 ?_
    obtain ⟨q20, hc21, hf⟩ := bind_of hf
    refine j_callS (ws' := ([n_Mo g a mo_z mo_y] : List va_W)) (As := [.int q18]) (rest := []) (st2 := [.int q20]) hE (fun l => c_Mo_isDigit l g q18 q20 hc21) cd_X12_isDigit st_X12_isDigit ml_Mo_122 rfl rfl ⟨⟨Nat.le_of_ble_eq_true rfl, Nat.le_of_ble_eq_true rfl⟩, ⟨Nat.zero_le _, Nat.zero_le _⟩, rfl, rfl⟩ [] rfl rfl rfl (Nat.le_of_ble_eq_true rfl) rfl dX12_next_166 ?_
    refine j_if_eq (tgt := 226) hE hf dX12_next_169 (by decide) (fun c22 hf => ?_) (fun c22 hf => ?_)
    · obtain rfl := Option.some.inj hf
      exact j_vret hE hq rfl rfl dX12_next_226
    · refine j_aload_n hE dX12_next_172 rfl 0 rfl ?_
      refine j_aload_n hE dX12_next_173 rfl 0 rfl ?_
      refine j_get (v := .int (mo_z 31 0)) hE lg_Mo_116 0 rfl 0 (wg_Mo_0 g a mo_z mo_y) rfl dX12_next_174 ?_
      refine j_sipush (v := 999) hE dX12_next_177 (by decide) ?_
      refine j_icmp_le (tgt := 190) hE hf dX12_next_180 (by decide) (fun c23 hf => ?_) (fun c23 hf => ?_)
      · refine j_bipush (v := 10) hE dX12_next_190 (by decide) ?_
        refine j_aload_n hE dX12_next_192 rfl 0 rfl ?_
        refine j_get (v := .int (mo_z 31 0)) hE lg_Mo_116 0 rfl 0 (wg_Mo_0 g a mo_z mo_y) rfl dX12_next_193 ?_
        refine j_imul hE dX12_next_196 ?_
        refine j_aload_n hE dX12_next_197 rfl 0 rfl ?_
        obtain ⟨q24, hc25, hf⟩ := bind_of hf
        refine j_callV (ws' := ([n_Mo g a mo_z mo_y] : List va_W)) (As := []) (rest := [.int (10 * (mo_z 31 0)), .ref (a 0)]) (st2 := [.int q24, .int (10 * (mo_z 31 0)), .ref (a 0)]) hE (fun l => c_Mo_here l g a mo_z mo_y q24 hc25) cd_X12_here cv_X12_here ml_Mo_99 rfl rfl rfl (wg_Mo_0 _ _ _ _) ⟨⟨Nat.le_of_ble_eq_true rfl, Nat.le_of_ble_eq_true rfl⟩, ⟨Nat.zero_le _, Nat.zero_le _⟩, rfl, rfl⟩ [0] rfl rfl rfl (Nat.le_of_ble_eq_true rfl) rfl dX12_next_198 ?_
        refine j_iadd hE dX12_next_201 ?_
        refine j_bipush (v := 48) hE dX12_next_202 (by decide) ?_
        refine j_isub hE dX12_next_204 ?_
        refine j_put (v := .int (((10 * (mo_z 31 0)) + q24) - 48)) (ws' := ([n_Mo g a (up2 mo_z 31 0 (((10 * (mo_z 31 0)) + q24) - 48)) mo_y] : List va_W)) hE lp_Mo_116 0 rfl 0 (wg_Mo_0 g a mo_z mo_y) rfl rfl (Nat.le_of_ble_eq_true rfl) (wp_Mo_31 g a mo_z mo_y (((10 * (mo_z 31 0)) + q24) - 48)) rfl dX12_next_205 ?_
        refine j_aload_n hE dX12_next_208 rfl 0 rfl ?_
        refine j_dup hE dX12_next_209 rfl ?_
        refine j_get (v := .int (mo_z 28 0)) hE lg_Mo_93 0 rfl 0 (wg_Mo_0 g a (up2 mo_z 31 0 (((10 * (mo_z 31 0)) + q24) - 48)) mo_y) rfl dX12_next_210 ?_
        refine j_iconst (v := 1) hE dX12_next_213 (by decide) ?_
        refine j_iadd hE dX12_next_214 ?_
        refine j_put (v := .int ((mo_z 28 0) + 1)) (ws' := ([n_Mo g a (up2 (up2 mo_z 31 0 (((10 * (mo_z 31 0)) + q24) - 48)) 28 0 ((mo_z 28 0) + 1)) mo_y] : List va_W)) hE lp_Mo_93 0 rfl 0 (wg_Mo_0 g a (up2 mo_z 31 0 (((10 * (mo_z 31 0)) + q24) - 48)) mo_y) rfl rfl (Nat.le_of_ble_eq_true rfl) (wp_Mo_28 g a (up2 mo_z 31 0 (((10 * (mo_z 31 0)) + q24) - 48)) mo_y ((mo_z 28 0) + 1)) rfl dX12_next_215 ?_
        refine j_goto (tgt := 162) hE dX12_next_218 (by decide) ?_
        exact ih (up2 (up2 mo_z 31 0 (((10 * (mo_z 31 0)) + q24) - 48)) 28 0 ((mo_z 28 0) + 1)) hf
      · refine j_aload_n hE dX12_next_183 rfl 0 rfl ?_
        refine j_get (v := .int (mo_z 31 0)) hE lg_Mo_116 0 rfl 0 (wg_Mo_0 g a mo_z mo_y) rfl dX12_next_184 ?_
        refine j_goto (tgt := 205) hE dX12_next_187 (by decide) ?_
        refine j_put (v := .int (mo_z 31 0)) (ws' := ([n_Mo g a (up2 mo_z 31 0 (mo_z 31 0)) mo_y] : List va_W)) hE lp_Mo_116 0 rfl 0 (wg_Mo_0 g a mo_z mo_y) rfl rfl (Nat.le_of_ble_eq_true rfl) (wp_Mo_31 g a mo_z mo_y (mo_z 31 0)) rfl dX12_next_205 ?_
        refine j_aload_n hE dX12_next_208 rfl 0 rfl ?_
        refine j_dup hE dX12_next_209 rfl ?_
        refine j_get (v := .int (mo_z 28 0)) hE lg_Mo_93 0 rfl 0 (wg_Mo_0 g a (up2 mo_z 31 0 (mo_z 31 0)) mo_y) rfl dX12_next_210 ?_
        refine j_iconst (v := 1) hE dX12_next_213 (by decide) ?_
        refine j_iadd hE dX12_next_214 ?_
        refine j_put (v := .int ((mo_z 28 0) + 1)) (ws' := ([n_Mo g a (up2 (up2 mo_z 31 0 (mo_z 31 0)) 28 0 ((mo_z 28 0) + 1)) mo_y] : List va_W)) hE lp_Mo_93 0 rfl 0 (wg_Mo_0 g a (up2 mo_z 31 0 (mo_z 31 0)) mo_y) rfl rfl (Nat.le_of_ble_eq_true rfl) (wp_Mo_28 g a (up2 mo_z 31 0 (mo_z 31 0)) mo_y ((mo_z 28 0) + 1)) rfl dX12_next_215 ?_
        refine j_goto (tgt := 162) hE dX12_next_218 (by decide) ?_
        exact ih (up2 (up2 mo_z 31 0 (mo_z 31 0)) 28 0 ((mo_z 28 0) + 1)) hf
set_option maxRecDepth 100000 in
theorem j_Mo_next_64 (E : jT) (g : jG) (a : Nat → Nat) (mo_y : jY)  (res : jZ) (hE : jOk E g RX12 cX12_next 2 (none : Option Jvm.ClassFile.FieldType) rm_Mo_next) (hq : jEnd E g none (([n_Mo g a res mo_y] : List va_W)) 0 0)  : ∀ (n : Nat) (mo_z : jZ), f_Mo_next_64 n mo_z = some res → J E g 0 0 (([n_Mo g a mo_z mo_y] : List va_W)) [(0, .ref (a 0))] 64 [] := by
  intro n
  induction n with
  | zero =>
    intro mo_z hf
    rw [f_Mo_next_64] at hf
    cases hf
  | succ n ih =>
    intro mo_z hf
    rw [f_Mo_next_64] at hf
    refine j_aload_n hE dX12_next_64 rfl 0 rfl ?_
    obtain ⟨q26, hc27, hf⟩ := bind_of hf
    refine j_callV (ws' := ([n_Mo g a mo_z mo_y] : List va_W)) (As := []) (rest := []) (st2 := [.int q26]) hE (fun l => c_Mo_here l g a mo_z mo_y q26 hc27) cd_X12_here cv_X12_here ml_Mo_99 rfl rfl rfl (wg_Mo_0 _ _ _ _) ⟨⟨Nat.le_of_ble_eq_true rfl, Nat.le_of_ble_eq_true rfl⟩, ⟨Nat.zero_le _, Nat.zero_le _⟩, rfl, rfl⟩ [0] rfl rfl rfl (Nat.le_of_ble_eq_true rfl) rfl dX12_next_65 ?_
    obtain ⟨q28, hc29, hf⟩ := bind_of hf
    refine j_callS (ws' := ([n_Mo g a mo_z mo_y] : List va_W)) (As := [.int q26]) (rest := []) (st2 := [.int q28]) hE (fun l => c_Mo_isSmall l g q26 q28 hc29) cd_X12_isSmall st_X12_isSmall ml_Mo_109 rfl rfl ⟨⟨Nat.le_of_ble_eq_true rfl, Nat.le_of_ble_eq_true rfl⟩, ⟨Nat.zero_le _, Nat.zero_le _⟩, rfl, rfl⟩ [] rfl rfl rfl (Nat.le_of_ble_eq_true rfl) rfl dX12_next_68 ?_
    refine j_if_eq (tgt := 87) hE hf dX12_next_71 (by decide) (fun c30 hf => ?_) (fun c30 hf => ?_)
    · refine j_aload_n hE dX12_next_87 rfl 0 rfl ?_
      refine j_aload_n hE dX12_next_88 rfl 0 rfl ?_
      obtain ⟨q31, hc32, hf⟩ := bind_of hf
      refine j_callV (ws' := ([n_Mo g a mo_z mo_y] : List va_W)) (As := []) (rest := [.ref (a 0)]) (st2 := [.int q31, .ref (a 0)]) hE (fun l => c_Mo_word l g a mo_z mo_y q31 hc32) cd_X12_word cv_X12_word ml_Mo_113 rfl rfl rfl (wg_Mo_0 _ _ _ _) ⟨⟨Nat.le_of_ble_eq_true rfl, Nat.le_of_ble_eq_true rfl⟩, ⟨Nat.zero_le _, Nat.zero_le _⟩, rfl, rfl⟩ [0] rfl rfl rfl (Nat.le_of_ble_eq_true rfl) rfl dX12_next_89 ?_
      refine j_put (v := .int q31) (ws' := ([n_Mo g a (up2 mo_z 31 0 q31) mo_y] : List va_W)) hE lp_Mo_116 0 rfl 0 (wg_Mo_0 g a mo_z mo_y) rfl rfl (Nat.le_of_ble_eq_true rfl) (wp_Mo_31 g a mo_z mo_y q31) rfl dX12_next_92 ?_
      refine j_aload_n hE dX12_next_95 rfl 0 rfl ?_
      refine j_aload_n hE dX12_next_96 rfl 0 rfl ?_
      refine j_get (v := .int q31) hE lg_Mo_116 0 rfl 0 (wg_Mo_0 g a (up2 mo_z 31 0 q31) mo_y) rfl dX12_next_97 ?_
      refine j_iconst (v := (-1)) hE dX12_next_100 (by decide) ?_
      refine j_icmp_eq (tgt := 108) hE hf dX12_next_101 (by decide) (fun c33 hf => ?_) (fun c33 hf => ?_)
      · refine j_aload_n hE dX12_next_108 rfl 0 rfl ?_
        refine j_get (v := .int (mo_z 28 0)) hE lg_Mo_93 0 rfl 0 (wg_Mo_0 g a (up2 mo_z 31 0 q31) mo_y) rfl dX12_next_109 ?_
        refine j_aload_n hE dX12_next_112 rfl 0 rfl ?_
        refine j_get (v := .int (mo_z 29 0)) hE lg_Mo_103 0 rfl 0 (wg_Mo_0 g a (up2 mo_z 31 0 q31) mo_y) rfl dX12_next_113 ?_
        refine j_isub hE dX12_next_116 ?_
        refine j_bipush (v := 6) hE dX12_next_117 (by decide) ?_
        refine j_icmp_le (tgt := 126) hE hf dX12_next_119 (by decide) (fun c34 hf => ?_) (fun c34 hf => ?_)
        · refine j_iconst (v := 1) hE dX12_next_126 (by decide) ?_
          refine j_put (v := .int 1) (ws' := ([n_Mo g a (up2 (up2 mo_z 31 0 q31) 30 0 1) mo_y] : List va_W)) hE lp_Mo_106 0 rfl 0 (wg_Mo_0 g a (up2 mo_z 31 0 q31) mo_y) rfl rfl (Nat.le_of_ble_eq_true rfl) (wp_Mo_30 g a (up2 mo_z 31 0 q31) mo_y 1) rfl dX12_next_127 ?_
          refine j_aload_n hE dX12_next_130 rfl 0 rfl ?_
          refine j_get (v := .int 1) hE lg_Mo_106 0 rfl 0 (wg_Mo_0 g a (up2 (up2 mo_z 31 0 q31) 30 0 1) mo_y) rfl dX12_next_131 ?_
          refine j_iconst (v := 1) hE dX12_next_134 (by decide) ?_
          refine j_icmp_ne_f (tgt := 226) hE (by decide) dX12_next_135 (by decide) ?_
          refine j_aload_n hE dX12_next_138 rfl 0 rfl ?_
          obtain ⟨q35, hc36, hf⟩ := bind_of hf
          refine j_callV (ws' := ([n_Mo g a q35 mo_y] : List va_W)) (As := []) (rest := []) (st2 := []) hE (fun l => c_Mo_name l g a (up2 (up2 mo_z 31 0 q31) 30 0 1) mo_y q35 hc36) cd_X12_name cv_X12_name ml_Mo_119 rfl rfl rfl (wg_Mo_0 _ _ _ _) ⟨⟨Nat.le_of_ble_eq_true rfl, Nat.le_of_ble_eq_true rfl⟩, ⟨Nat.zero_le _, Nat.zero_le _⟩, rfl, rfl⟩ [0] rfl rfl rfl (Nat.le_of_ble_eq_true rfl) rfl dX12_next_139 ?_
          refine j_goto (tgt := 226) hE dX12_next_142 (by decide) ?_
          obtain rfl := Option.some.inj hf
          exact j_vret hE hq rfl rfl dX12_next_226
        · refine j_iconst (v := 5) hE dX12_next_122 (by decide) ?_
          refine j_goto (tgt := 127) hE dX12_next_123 (by decide) ?_
          refine j_put (v := .int 5) (ws' := ([n_Mo g a (up2 (up2 mo_z 31 0 q31) 30 0 5) mo_y] : List va_W)) hE lp_Mo_106 0 rfl 0 (wg_Mo_0 g a (up2 mo_z 31 0 q31) mo_y) rfl rfl (Nat.le_of_ble_eq_true rfl) (wp_Mo_30 g a (up2 mo_z 31 0 q31) mo_y 5) rfl dX12_next_127 ?_
          refine j_aload_n hE dX12_next_130 rfl 0 rfl ?_
          refine j_get (v := .int 5) hE lg_Mo_106 0 rfl 0 (wg_Mo_0 g a (up2 (up2 mo_z 31 0 q31) 30 0 5) mo_y) rfl dX12_next_131 ?_
          refine j_iconst (v := 1) hE dX12_next_134 (by decide) ?_
          refine j_icmp_ne_t (tgt := 226) hE (by decide) dX12_next_135 (by decide) ?_
          obtain rfl := Option.some.inj hf
          exact j_vret hE hq rfl rfl dX12_next_226
      · refine j_iconst (v := 0) hE dX12_next_104 (by decide) ?_
        refine j_goto (tgt := 127) hE dX12_next_105 (by decide) ?_
        refine j_put (v := .int 0) (ws' := ([n_Mo g a (up2 (up2 mo_z 31 0 q31) 30 0 0) mo_y] : List va_W)) hE lp_Mo_106 0 rfl 0 (wg_Mo_0 g a (up2 mo_z 31 0 q31) mo_y) rfl rfl (Nat.le_of_ble_eq_true rfl) (wp_Mo_30 g a (up2 mo_z 31 0 q31) mo_y 0) rfl dX12_next_127 ?_
        refine j_aload_n hE dX12_next_130 rfl 0 rfl ?_
        refine j_get (v := .int 0) hE lg_Mo_106 0 rfl 0 (wg_Mo_0 g a (up2 (up2 mo_z 31 0 q31) 30 0 0) mo_y) rfl dX12_next_131 ?_
        refine j_iconst (v := 1) hE dX12_next_134 (by decide) ?_
        refine j_icmp_ne_t (tgt := 226) hE (by decide) dX12_next_135 (by decide) ?_
        obtain rfl := Option.some.inj hf
        exact j_vret hE hq rfl rfl dX12_next_226
    · refine j_aload_n hE dX12_next_74 rfl 0 rfl ?_
      refine j_dup hE dX12_next_75 rfl ?_
      refine j_get (v := .int (mo_z 28 0)) hE lg_Mo_93 0 rfl 0 (wg_Mo_0 g a mo_z mo_y) rfl dX12_next_76 ?_
      refine j_iconst (v := 1) hE dX12_next_79 (by decide) ?_
      refine j_iadd hE dX12_next_80 ?_
      refine j_put (v := .int ((mo_z 28 0) + 1)) (ws' := ([n_Mo g a (up2 mo_z 28 0 ((mo_z 28 0) + 1)) mo_y] : List va_W)) hE lp_Mo_93 0 rfl 0 (wg_Mo_0 g a mo_z mo_y) rfl rfl (Nat.le_of_ble_eq_true rfl) (wp_Mo_28 g a mo_z mo_y ((mo_z 28 0) + 1)) rfl dX12_next_81 ?_
      refine j_goto (tgt := 64) hE dX12_next_84 (by decide) ?_
      exact ih (up2 mo_z 28 0 ((mo_z 28 0) + 1)) hf
set_option maxRecDepth 100000 in
theorem j_Mo_next_0 (E : jT) (g : jG) (a : Nat → Nat) (mo_y : jY)  (res : jZ) (hE : jOk E g RX12 cX12_next 2 (none : Option Jvm.ClassFile.FieldType) rm_Mo_next) (hq : jEnd E g none (([n_Mo g a res mo_y] : List va_W)) 0 0)  : ∀ (n : Nat) (mo_z : jZ), f_Mo_next_0 n mo_z = some res → J E g 0 0 (([n_Mo g a mo_z mo_y] : List va_W)) [(0, .ref (a 0))] 0 [] := by
  intro n
  induction n with
  | zero =>
    intro mo_z hf
    rw [f_Mo_next_0] at hf
    cases hf
  | succ n ih =>
    intro mo_z hf
    rw [f_Mo_next_0] at hf
    refine j_aload_n hE dX12_next_0 rfl 0 rfl ?_
    obtain ⟨q1, hc2, hf⟩ := bind_of hf
    refine j_callV (ws' := ([n_Mo g a mo_z mo_y] : List va_W)) (As := []) (rest := []) (st2 := [.int q1]) hE (fun l => c_Mo_here l g a mo_z mo_y q1 hc2) cd_X12_here cv_X12_here ml_Mo_99 rfl rfl rfl (wg_Mo_0 _ _ _ _) ⟨⟨Nat.le_of_ble_eq_true rfl, Nat.le_of_ble_eq_true rfl⟩, ⟨Nat.zero_le _, Nat.zero_le _⟩, rfl, rfl⟩ [0] rfl rfl rfl (Nat.le_of_ble_eq_true rfl) rfl dX12_next_1 ?_
    refine j_bipush (v := 10) hE dX12_next_4 (by decide) ?_
    refine j_icmp_eq (tgt := 18) hE hf dX12_next_6 (by decide) (fun c3 hf => ?_) (fun c3 hf => ?_)
    · refine j_aload_n hE dX12_next_18 rfl 0 rfl ?_
      refine j_dup hE dX12_next_19 rfl ?_
      refine j_get (v := .int (mo_z 28 0)) hE lg_Mo_93 0 rfl 0 (wg_Mo_0 g a mo_z mo_y) rfl dX12_next_20 ?_
      refine j_iconst (v := 1) hE dX12_next_23 (by decide) ?_
      refine j_iadd hE dX12_next_24 ?_
      refine j_put (v := .int ((mo_z 28 0) + 1)) (ws' := ([n_Mo g a (up2 mo_z 28 0 ((mo_z 28 0) + 1)) mo_y] : List va_W)) hE lp_Mo_93 0 rfl 0 (wg_Mo_0 g a mo_z mo_y) rfl rfl (Nat.le_of_ble_eq_true rfl) (wp_Mo_28 g a mo_z mo_y ((mo_z 28 0) + 1)) rfl dX12_next_25 ?_
      refine j_goto (tgt := 0) hE dX12_next_28 (by decide) ?_
      exact ih (up2 mo_z 28 0 ((mo_z 28 0) + 1)) hf
    · refine j_aload_n hE dX12_next_9 rfl 0 rfl ?_
      obtain ⟨q4, hc5, hf⟩ := bind_of hf
      refine j_callV (ws' := ([n_Mo g a mo_z mo_y] : List va_W)) (As := []) (rest := []) (st2 := [.int q4]) hE (fun l => c_Mo_here l g a mo_z mo_y q4 hc5) cd_X12_here cv_X12_here ml_Mo_99 rfl rfl rfl (wg_Mo_0 _ _ _ _) ⟨⟨Nat.le_of_ble_eq_true rfl, Nat.le_of_ble_eq_true rfl⟩, ⟨Nat.zero_le _, Nat.zero_le _⟩, rfl, rfl⟩ [0] rfl rfl rfl (Nat.le_of_ble_eq_true rfl) rfl dX12_next_10 ?_
      refine j_bipush (v := 32) hE dX12_next_13 (by decide) ?_
      refine j_icmp_ne (tgt := 31) hE hf dX12_next_15 (by decide) (fun c6 hf => ?_) (fun c6 hf => ?_)
      · refine j_aload_n hE dX12_next_31 rfl 0 rfl ?_
        refine j_aload_n hE dX12_next_32 rfl 0 rfl ?_
        refine j_get (v := .int (mo_z 28 0)) hE lg_Mo_93 0 rfl 0 (wg_Mo_0 g a mo_z mo_y) rfl dX12_next_33 ?_
        refine j_put (v := .int (mo_z 28 0)) (ws' := ([n_Mo g a (up2 mo_z 29 0 (mo_z 28 0)) mo_y] : List va_W)) hE lp_Mo_103 0 rfl 0 (wg_Mo_0 g a mo_z mo_y) rfl rfl (Nat.le_of_ble_eq_true rfl) (wp_Mo_29 g a mo_z mo_y (mo_z 28 0)) rfl dX12_next_36 ?_
        refine j_aload_n hE dX12_next_39 rfl 0 rfl ?_
        obtain ⟨q7, hc8, hf⟩ := bind_of hf
        refine j_callV (ws' := ([n_Mo g a (up2 mo_z 29 0 (mo_z 28 0)) mo_y] : List va_W)) (As := []) (rest := []) (st2 := [.int q7]) hE (fun l => c_Mo_here l g a (up2 mo_z 29 0 (mo_z 28 0)) mo_y q7 hc8) cd_X12_here cv_X12_here ml_Mo_99 rfl rfl rfl (wg_Mo_0 _ _ _ _) ⟨⟨Nat.le_of_ble_eq_true rfl, Nat.le_of_ble_eq_true rfl⟩, ⟨Nat.zero_le _, Nat.zero_le _⟩, rfl, rfl⟩ [0] rfl rfl rfl (Nat.le_of_ble_eq_true rfl) rfl dX12_next_40 ?_
        refine j_istore_n (lv' := [(1, .int q7), (0, .ref (a 0))]) hE dX12_next_43 rfl (by decide) rfl ?_
        refine j_iload_n hE dX12_next_44 rfl 0 rfl ?_
        refine j_iconst (v := (-1)) hE dX12_next_45 (by decide) ?_
        refine j_icmp_ne (tgt := 57) hE hf dX12_next_46 (by decide) (fun c9 hf => ?_) (fun c9 hf => ?_)
        · refine j_iload_n hE dX12_next_57 rfl 0 rfl ?_
          obtain ⟨q10, hc11, hf⟩ := bind_of hf
          refine j_callS (ws' := ([n_Mo g a (up2 mo_z 29 0 (mo_z 28 0)) mo_y] : List va_W)) (As := [.int q7]) (rest := []) (st2 := [.int q10]) hE (fun l => c_Mo_isSmall l g q7 q10 hc11) cd_X12_isSmall st_X12_isSmall ml_Mo_109 rfl rfl ⟨⟨Nat.le_of_ble_eq_true rfl, Nat.le_of_ble_eq_true rfl⟩, ⟨Nat.zero_le _, Nat.zero_le _⟩, rfl, rfl⟩ [] rfl rfl rfl (Nat.le_of_ble_eq_true rfl) rfl dX12_next_58 ?_
          refine j_if_eq (tgt := 145) hE hf dX12_next_61 (by decide) (fun c12 hf => ?_) (fun c12 hf => ?_)
          · refine j_iload_n hE dX12_next_145 rfl 0 rfl ?_
            obtain ⟨q13, hc14, hf⟩ := bind_of hf
            refine j_callS (ws' := ([n_Mo g a (up2 mo_z 29 0 (mo_z 28 0)) mo_y] : List va_W)) (As := [.int q7]) (rest := []) (st2 := [.int q13]) hE (fun l => c_Mo_isDigit l g q7 q13 hc14) cd_X12_isDigit st_X12_isDigit ml_Mo_122 rfl rfl ⟨⟨Nat.le_of_ble_eq_true rfl, Nat.le_of_ble_eq_true rfl⟩, ⟨Nat.zero_le _, Nat.zero_le _⟩, rfl, rfl⟩ [] rfl rfl rfl (Nat.le_of_ble_eq_true rfl) rfl dX12_next_146 ?_
            refine j_if_eq (tgt := 221) hE hf dX12_next_149 (by decide) (fun c15 hf => ?_) (fun c15 hf => ?_)
            · refine j_aload_n hE dX12_next_221 rfl 1 rfl ?_
              refine j_iload_n hE dX12_next_222 rfl 0 rfl ?_
              obtain ⟨q16, hc17, hf⟩ := bind_of hf
              refine j_callV (ws' := ([n_Mo g a q16 mo_y] : List va_W)) (As := [.int q7]) (rest := []) (st2 := []) hE (fun l => c_Mo_sign l g a (up2 mo_z 29 0 (mo_z 28 0)) mo_y q7 q16 hc17) cd_X12_sign cv_X12_sign ml_Mo_125 rfl rfl rfl (wg_Mo_0 _ _ _ _) ⟨⟨Nat.le_of_ble_eq_true rfl, Nat.le_of_ble_eq_true rfl⟩, ⟨Nat.zero_le _, Nat.zero_le _⟩, rfl, rfl⟩ [0] rfl rfl rfl (Nat.le_of_ble_eq_true rfl) rfl dX12_next_223 ?_
              obtain rfl := Option.some.inj hf
              exact j_vret hE hq rfl rfl dX12_next_226
            · refine j_aload_n hE dX12_next_152 rfl 1 rfl ?_
              refine j_iconst (v := 2) hE dX12_next_153 (by decide) ?_
              refine j_put (v := .int 2) (ws' := ([n_Mo g a (up2 (up2 mo_z 29 0 (mo_z 28 0)) 30 0 2) mo_y] : List va_W)) hE lp_Mo_106 0 rfl 0 (wg_Mo_0 g a (up2 mo_z 29 0 (mo_z 28 0)) mo_y) rfl rfl (Nat.le_of_ble_eq_true rfl) (wp_Mo_30 g a (up2 mo_z 29 0 (mo_z 28 0)) mo_y 2) rfl dX12_next_154 ?_
              refine j_aload_n hE dX12_next_157 rfl 1 rfl ?_
              refine j_iconst (v := 0) hE dX12_next_158 (by decide) ?_
              refine j_put (v := .int 0) (ws' := ([n_Mo g a (up2 (up2 (up2 mo_z 29 0 (mo_z 28 0)) 30 0 2) 31 0 0) mo_y] : List va_W)) hE lp_Mo_116 0 rfl 0 (wg_Mo_0 g a (up2 (up2 mo_z 29 0 (mo_z 28 0)) 30 0 2) mo_y) rfl rfl (Nat.le_of_ble_eq_true rfl) (wp_Mo_31 g a (up2 (up2 mo_z 29 0 (mo_z 28 0)) 30 0 2) mo_y 0) rfl dX12_next_159 ?_
              exact j_sub [1] rfl (j_Mo_next_162 E g a mo_y res hE hq FU (up2 (up2 (up2 mo_z 29 0 (mo_z 28 0)) 30 0 2) 31 0 0) hf)
          · exact j_sub [1] rfl (j_Mo_next_64 E g a mo_y res hE hq FU (up2 mo_z 29 0 (mo_z 28 0)) hf)
        · refine j_aload_n hE dX12_next_49 rfl 1 rfl ?_
          refine j_iconst (v := 4) hE dX12_next_50 (by decide) ?_
          refine j_put (v := .int 4) (ws' := ([n_Mo g a (up2 (up2 mo_z 29 0 (mo_z 28 0)) 30 0 4) mo_y] : List va_W)) hE lp_Mo_106 0 rfl 0 (wg_Mo_0 g a (up2 mo_z 29 0 (mo_z 28 0)) mo_y) rfl rfl (Nat.le_of_ble_eq_true rfl) (wp_Mo_30 g a (up2 mo_z 29 0 (mo_z 28 0)) mo_y 4) rfl dX12_next_51 ?_
          refine j_goto (tgt := 226) hE dX12_next_54 (by decide) ?_
          obtain rfl := Option.some.inj hf
          exact j_vret hE hq rfl rfl dX12_next_226
      · refine j_aload_n hE dX12_next_18 rfl 0 rfl ?_
        refine j_dup hE dX12_next_19 rfl ?_
        refine j_get (v := .int (mo_z 28 0)) hE lg_Mo_93 0 rfl 0 (wg_Mo_0 g a mo_z mo_y) rfl dX12_next_20 ?_
        refine j_iconst (v := 1) hE dX12_next_23 (by decide) ?_
        refine j_iadd hE dX12_next_24 ?_
        refine j_put (v := .int ((mo_z 28 0) + 1)) (ws' := ([n_Mo g a (up2 mo_z 28 0 ((mo_z 28 0) + 1)) mo_y] : List va_W)) hE lp_Mo_93 0 rfl 0 (wg_Mo_0 g a mo_z mo_y) rfl rfl (Nat.le_of_ble_eq_true rfl) (wp_Mo_28 g a mo_z mo_y ((mo_z 28 0) + 1)) rfl dX12_next_25 ?_
        refine j_goto (tgt := 0) hE dX12_next_28 (by decide) ?_
        exact ih (up2 mo_z 28 0 ((mo_z 28 0) + 1)) hf
set_option maxRecDepth 100000 in
theorem c_Mo_next (l : Launch) (g : jG) (a : Nat → Nat) (mo_z : jZ) (mo_y : jY)  (res : jZ) (hf : f_Mo_next mo_z = some res) : MC l g yX12_next cX12_next 2 (none : Option Jvm.ClassFile.FieldType) rm_Mo_next [.ref (a 0)] (([n_Mo g a mo_z mo_y] : List va_W)) none (([n_Mo g a res mo_y] : List va_W)) 0 0 := by
  refine MC_of (own := RX12) (lv := [(0, .ref (a 0))]) (by decide) rfl (Nat.le_of_ble_eq_true rfl) rfl rfl (fun E hE hq => ?_)
  unfold f_Mo_next at hf
  exact j_Mo_next_0 E g a mo_y res hE hq FU mo_z hf
def rm_Mo_wrong : Room := { frames := 0, cells := 0, slots := 0, locals := 0 }
def f_Mo_wrong (mo_z : jZ) (x1 : Int32) : Option (jZ) := (if (mo_z 32 0) = 0 then some (up2 (up2 mo_z 32 0 x1) 33 0 (mo_z 29 0))
    else some mo_z)
set_option maxRecDepth 100000 in
theorem c_Mo_wrong (l : Launch) (g : jG) (a : Nat → Nat) (mo_z : jZ) (mo_y : jY) (x1 : Int32) (res : jZ) (hf : f_Mo_wrong mo_z x1 = some res) : MC l g yX12_wrong cX12_wrong 2 (none : Option Jvm.ClassFile.FieldType) rm_Mo_wrong [.ref (a 0), .int x1] (([n_Mo g a mo_z mo_y] : List va_W)) none (([n_Mo g a res mo_y] : List va_W)) 0 0 := by
  refine MC_of (own := RX12) (lv := [(0, .ref (a 0)), (1, .int x1)]) (by decide) rfl (Nat.le_of_ble_eq_true rfl) rfl rfl (fun E hE hq => ?_)
  unfold f_Mo_wrong at hf
  refine j_aload_n hE dX12_wrong_0 rfl 0 rfl ?_
  refine j_get (v := .int (mo_z 32 0)) hE lg_Mo_140 0 rfl 0 (wg_Mo_0 g a mo_z mo_y) rfl dX12_wrong_1 ?_
  refine j_if_eq (tgt := 8) hE hf dX12_wrong_4 (by decide) (fun c1 hf => ?_) (fun c1 hf => ?_)
  · refine j_aload_n hE dX12_wrong_8 rfl 0 rfl ?_
    refine j_iload_n hE dX12_wrong_9 rfl 1 rfl ?_
    refine j_put (v := .int x1) (ws' := ([n_Mo g a (up2 mo_z 32 0 x1) mo_y] : List va_W)) hE lp_Mo_140 0 rfl 0 (wg_Mo_0 g a mo_z mo_y) rfl rfl (Nat.le_of_ble_eq_true rfl) (wp_Mo_32 g a mo_z mo_y x1) rfl dX12_wrong_10 ?_
    refine j_aload_n hE dX12_wrong_13 rfl 0 rfl ?_
    refine j_aload_n hE dX12_wrong_14 rfl 0 rfl ?_
    refine j_get (v := .int (mo_z 29 0)) hE lg_Mo_103 0 rfl 0 (wg_Mo_0 g a (up2 mo_z 32 0 x1) mo_y) rfl dX12_wrong_15 ?_
    refine j_put (v := .int (mo_z 29 0)) (ws' := ([n_Mo g a (up2 (up2 mo_z 32 0 x1) 33 0 (mo_z 29 0)) mo_y] : List va_W)) hE lp_Mo_143 0 rfl 0 (wg_Mo_0 g a (up2 mo_z 32 0 x1) mo_y) rfl rfl (Nat.le_of_ble_eq_true rfl) (wp_Mo_33 g a (up2 mo_z 32 0 x1) mo_y (mo_z 29 0)) rfl dX12_wrong_18 ?_
    obtain rfl := Option.some.inj hf
    exact j_vret hE hq rfl rfl dX12_wrong_21
  · obtain rfl := Option.some.inj hf
    exact j_vret hE hq rfl rfl dX12_wrong_7
def rm_Mo_isWord : Room := { frames := 0, cells := 0, slots := 0, locals := 0 }
def f_Mo_isWord (mo_z : jZ) (x1 : Int32) : Option (Int32) := (if (mo_z 32 0) = 0 then (if (mo_z 30 0) = 0 then (if (mo_z 31 0) = x1 then some 1
    else some 0)
    else some 0)
    else some 0)
set_option maxRecDepth 100000 in
theorem c_Mo_isWord (l : Launch) (g : jG) (a : Nat → Nat) (mo_z : jZ) (mo_y : jY) (x1 : Int32) (res : Int32) (hf : f_Mo_isWord mo_z x1 = some res) : MC l g yX12_isWord cX12_isWord 2 (some .boolean) rm_Mo_isWord [.ref (a 0), .int x1] (([n_Mo g a mo_z mo_y] : List va_W)) (some (.int res)) (([n_Mo g a mo_z mo_y] : List va_W)) 0 0 := by
  refine MC_of (own := RX12) (lv := [(0, .ref (a 0)), (1, .int x1)]) (by decide) rfl (Nat.le_of_ble_eq_true rfl) rfl rfl (fun E hE hq => ?_)
  unfold f_Mo_isWord at hf
  refine j_aload_n hE dX12_isWord_0 rfl 0 rfl ?_
  refine j_get (v := .int (mo_z 32 0)) hE lg_Mo_140 0 rfl 0 (wg_Mo_0 g a mo_z mo_y) rfl dX12_isWord_1 ?_
  refine j_if_ne (tgt := 26) hE hf dX12_isWord_4 (by decide) (fun c1 hf => ?_) (fun c1 hf => ?_)
  · refine j_iconst (v := 0) hE dX12_isWord_26 (by decide) ?_
    obtain rfl := Option.some.inj hf
    exact j_zret_c hE (Or.inl rfl) hq rfl rfl dX12_isWord_27
  · refine j_aload_n hE dX12_isWord_7 rfl 0 rfl ?_
    refine j_get (v := .int (mo_z 30 0)) hE lg_Mo_106 0 rfl 0 (wg_Mo_0 g a mo_z mo_y) rfl dX12_isWord_8 ?_
    refine j_if_ne (tgt := 26) hE hf dX12_isWord_11 (by decide) (fun c2 hf => ?_) (fun c2 hf => ?_)
    · refine j_iconst (v := 0) hE dX12_isWord_26 (by decide) ?_
      obtain rfl := Option.some.inj hf
      exact j_zret_c hE (Or.inl rfl) hq rfl rfl dX12_isWord_27
    · refine j_aload_n hE dX12_isWord_14 rfl 0 rfl ?_
      refine j_get (v := .int (mo_z 31 0)) hE lg_Mo_116 0 rfl 0 (wg_Mo_0 g a mo_z mo_y) rfl dX12_isWord_15 ?_
      refine j_iload_n hE dX12_isWord_18 rfl 1 rfl ?_
      refine j_icmp_ne (tgt := 26) hE hf dX12_isWord_19 (by decide) (fun c3 hf => ?_) (fun c3 hf => ?_)
      · refine j_iconst (v := 0) hE dX12_isWord_26 (by decide) ?_
        obtain rfl := Option.some.inj hf
        exact j_zret_c hE (Or.inl rfl) hq rfl rfl dX12_isWord_27
      · refine j_iconst (v := 1) hE dX12_isWord_22 (by decide) ?_
        refine j_goto (tgt := 27) hE dX12_isWord_23 (by decide) ?_
        obtain rfl := Option.some.inj hf
        exact j_zret_c hE (Or.inr rfl) hq rfl rfl dX12_isWord_27
def rm_Mo_isSign : Room := { frames := 0, cells := 0, slots := 0, locals := 0 }
def f_Mo_isSign (mo_z : jZ) (x1 : Int32) : Option (Int32) := (if (mo_z 32 0) = 0 then (if (mo_z 30 0) = 3 then (if (mo_z 31 0) = x1 then some 1
    else some 0)
    else some 0)
    else some 0)
set_option maxRecDepth 100000 in
theorem c_Mo_isSign (l : Launch) (g : jG) (a : Nat → Nat) (mo_z : jZ) (mo_y : jY) (x1 : Int32) (res : Int32) (hf : f_Mo_isSign mo_z x1 = some res) : MC l g yX12_isSign cX12_isSign 2 (some .boolean) rm_Mo_isSign [.ref (a 0), .int x1] (([n_Mo g a mo_z mo_y] : List va_W)) (some (.int res)) (([n_Mo g a mo_z mo_y] : List va_W)) 0 0 := by
  refine MC_of (own := RX12) (lv := [(0, .ref (a 0)), (1, .int x1)]) (by decide) rfl (Nat.le_of_ble_eq_true rfl) rfl rfl (fun E hE hq => ?_)
  unfold f_Mo_isSign at hf
  refine j_aload_n hE dX12_isSign_0 rfl 0 rfl ?_
  refine j_get (v := .int (mo_z 32 0)) hE lg_Mo_140 0 rfl 0 (wg_Mo_0 g a mo_z mo_y) rfl dX12_isSign_1 ?_
  refine j_if_ne (tgt := 27) hE hf dX12_isSign_4 (by decide) (fun c1 hf => ?_) (fun c1 hf => ?_)
  · refine j_iconst (v := 0) hE dX12_isSign_27 (by decide) ?_
    obtain rfl := Option.some.inj hf
    exact j_zret_c hE (Or.inl rfl) hq rfl rfl dX12_isSign_28
  · refine j_aload_n hE dX12_isSign_7 rfl 0 rfl ?_
    refine j_get (v := .int (mo_z 30 0)) hE lg_Mo_106 0 rfl 0 (wg_Mo_0 g a mo_z mo_y) rfl dX12_isSign_8 ?_
    refine j_iconst (v := 3) hE dX12_isSign_11 (by decide) ?_
    refine j_icmp_ne (tgt := 27) hE hf dX12_isSign_12 (by decide) (fun c2 hf => ?_) (fun c2 hf => ?_)
    · refine j_iconst (v := 0) hE dX12_isSign_27 (by decide) ?_
      obtain rfl := Option.some.inj hf
      exact j_zret_c hE (Or.inl rfl) hq rfl rfl dX12_isSign_28
    · refine j_aload_n hE dX12_isSign_15 rfl 0 rfl ?_
      refine j_get (v := .int (mo_z 31 0)) hE lg_Mo_116 0 rfl 0 (wg_Mo_0 g a mo_z mo_y) rfl dX12_isSign_16 ?_
      refine j_iload_n hE dX12_isSign_19 rfl 1 rfl ?_
      refine j_icmp_ne (tgt := 27) hE hf dX12_isSign_20 (by decide) (fun c3 hf => ?_) (fun c3 hf => ?_)
      · refine j_iconst (v := 0) hE dX12_isSign_27 (by decide) ?_
        obtain rfl := Option.some.inj hf
        exact j_zret_c hE (Or.inl rfl) hq rfl rfl dX12_isSign_28
      · refine j_iconst (v := 1) hE dX12_isSign_23 (by decide) ?_
        refine j_goto (tgt := 28) hE dX12_isSign_24 (by decide) ?_
        obtain rfl := Option.some.inj hf
        exact j_zret_c hE (Or.inr rfl) hq rfl rfl dX12_isSign_28
