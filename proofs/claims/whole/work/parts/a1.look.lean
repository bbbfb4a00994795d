theorem lg_WP_125 : jFl RX11 125 8 9 := ⟨RX8, TX8, 15, rfl, by decide, inX8, tb_t2 23 rfl rfl⟩
theorem lg_WP_128 : jFl RX11 128 8 10 := ⟨RX8, TX8, 15, rfl, by decide, inX8, tb_t2 26 rfl rfl⟩
theorem lg_WP_135 : jFl RX11 135 8 12 := ⟨RX8, TX8, 15, rfl, by decide, inX8, tb_t2 35 rfl rfl⟩
theorem lg_WP_138 : jFl RX11 138 8 13 := ⟨RX8, TX8, 15, rfl, by decide, inX8, tb_t2 39 rfl rfl⟩
def rm_WP_look : Room := { frames := 1, cells := 0, slots := 0, locals := 21 }
def f_WP_look (ro_z : jZ) (x1 : Int32) (x2 : Int32) : Option (Int32) := (f_Road_has ro_z x1).bind fun q1 => (if q1 = 0 then none
    else (if x2 = 0 then (ix x1 12).bind fun _ => some (ro_z 9 (Int32.toNatClampNeg x1))
    else (if x2 = 1 then (ix x1 12).bind fun _ => (if (ro_z 10 (Int32.toNatClampNeg x1)) = 0 then some 0
    else some 1)
    else (if x2 = 2 then (ix x1 12).bind fun _ => some (ro_z 11 (Int32.toNatClampNeg x1))
    else (if x2 = 3 then (ix x1 12).bind fun _ => some (ro_z 12 (Int32.toNatClampNeg x1))
    else (if x2 = 4 then (ix x1 12).bind fun _ => some (ro_z 13 (Int32.toNatClampNeg x1))
    else (if x2 = 5 then (ix x1 12).bind fun _ => some (ro_z 14 (Int32.toNatClampNeg x1))
    else none)))))))
set_option maxRecDepth 100000 in
theorem c_WP_look (l : Launch) (g : jG) (a : Nat → Nat) (re_z : jZ) (ta_z : jZ) (ro_z : jZ) (ki_z : jZ) (ru_z : jZ) (ru_y : jY) (no_z : jZ) (sro_z : jZ) (ski_z : jZ) (sru_z : jZ) (sru_y : jY) (sno_z : jZ) (od_z : jZ) (od_y : jY) (lu_z : jZ) (lu_y : jY) (fa_z : jZ) (fod_z : jZ) (fod_y : jY) (ho_z : jZ) (po_z : jZ) (pod_z : jZ) (pod_y : jY) (x1 : Int32) (x2 : Int32) (res : Int32) (hf : f_WP_look ro_z x1 x2 = some res) : MC l g yX11_look cX11_look 3 (some .int) rm_WP_look [.ref (a 0), .int x1, .int x2] (([n_WP g a , n_Reader g (fun i => a (i + 1)) re_z, n_Tape g (fun i => a (i + 4)) ta_z, n_Road g (fun i => a (i + 6)) ro_z, n_Kinds g (fun i => a (i + 14)) ki_z, n_Rule g (fun i => a (i + 20)) ru_z ru_y, n_Notes g (fun i => a (i + 23)) no_z, n_Road g (fun i => a (i + 30)) sro_z, n_Kinds g (fun i => a (i + 38)) ski_z, n_Rule g (fun i => a (i + 44)) sru_z sru_y, n_Notes g (fun i => a (i + 47)) sno_z, n_Odds g (fun i => a (i + 54)) od_z od_y, n_Luck g (fun i => a (i + 57)) lu_z lu_y, n_Falls g (fun i => a (i + 59)) fa_z, n_Odds g (fun i => a (i + 60)) fod_z fod_y, n_House g (fun i => a (i + 63)) ho_z, n_Poles g (fun i => a (i + 64)) po_z, n_Odds g (fun i => a (i + 69)) pod_z pod_y] : List va_W)) (some (.int res)) (([n_WP g a , n_Reader g (fun i => a (i + 1)) re_z, n_Tape g (fun i => a (i + 4)) ta_z, n_Road g (fun i => a (i + 6)) ro_z, n_Kinds g (fun i => a (i + 14)) ki_z, n_Rule g (fun i => a (i + 20)) ru_z ru_y, n_Notes g (fun i => a (i + 23)) no_z, n_Road g (fun i => a (i + 30)) sro_z, n_Kinds g (fun i => a (i + 38)) ski_z, n_Rule g (fun i => a (i + 44)) sru_z sru_y, n_Notes g (fun i => a (i + 47)) sno_z, n_Odds g (fun i => a (i + 54)) od_z od_y, n_Luck g (fun i => a (i + 57)) lu_z lu_y, n_Falls g (fun i => a (i + 59)) fa_z, n_Odds g (fun i => a (i + 60)) fod_z fod_y, n_House g (fun i => a (i + 63)) ho_z, n_Poles g (fun i => a (i + 64)) po_z, n_Odds g (fun i => a (i + 69)) pod_z pod_y] : List va_W)) 0 0 := by
  refine MC_of (own := RX11) (lv := [(0, .ref (a 0)), (1, .int x1), (2, .int x2)]) (by decide) rfl (Nat.le_of_ble_eq_true rfl) rfl rfl (fun E hE hq => ?_)
  unfold f_WP_look at hf
  refine j_aload_n hE dX11_look_0 rfl 0 rfl ?_
  refine j_get (v := .ref (a 6)) hE lg_WP_21 0 rfl 0 (wg_WP_0 g a ) rfl dX11_look_1 ?_
  refine j_iload_n hE dX11_look_4 rfl 1 rfl ?_
  obtain ⟨q1, hc2, hf⟩ := bind_of hf
  refine j_callV (ws' := ([n_WP g a , n_Reader g (fun i => a (i + 1)) re_z, n_Tape g (fun i => a (i + 4)) ta_z, n_Road g (fun i => a (i + 6)) ro_z, n_Kinds g (fun i => a (i + 14)) ki_z, n_Rule g (fun i => a (i + 20)) ru_z ru_y, n_Notes g (fun i => a (i + 23)) no_z, n_Road g (fun i => a (i + 30)) sro_z, n_Kinds g (fun i => a (i + 38)) ski_z, n_Rule g (fun i => a (i + 44)) sru_z sru_y, n_Notes g (fun i => a (i + 47)) sno_z, n_Odds g (fun i => a (i + 54)) od_z od_y, n_Luck g (fun i => a (i + 57)) lu_z lu_y, n_Falls g (fun i => a (i + 59)) fa_z, n_Odds g (fun i => a (i + 60)) fod_z fod_y, n_House g (fun i => a (i + 63)) ho_z, n_Poles g (fun i => a (i + 64)) po_z, n_Odds g (fun i => a (i + 69)) pod_z pod_y] : List va_W)) (As := [.int x1]) (rest := []) (st2 := [.int q1]) hE (fun l => c_Road_has l g (fun i => a (i + 6)) ro_z ki_z ru_z ru_y no_z x1 q1 hc2) cd_X8_has cv_X8_has ml_WP_114 rfl rfl rfl (wg_Road_0 _ _ _) ⟨⟨Nat.le_of_ble_eq_true rfl, Nat.le_of_ble_eq_true rfl⟩, ⟨Nat.zero_le _, Nat.zero_le _⟩, rfl, rfl⟩ [3, 4, 5, 6] rfl rfl rfl (Nat.le_of_ble_eq_true rfl) rfl dX11_look_5 ?_
  refine j_if_ne (tgt := 21) hE hf dX11_look_8 (by decide) (fun c3 hf => ?_) (fun c3 hf => ?_)
  · refine j_iload_n hE dX11_look_21 rfl 2 rfl ?_
    refine j_case hf (fun c4 hf => ?_) (fun c4 hf => ?_)
    · refine j_tableIn (tgt := 60) hE dX11_look_22 (by rw [c4]; decide) (by rw [c4]; decide) (by rw [c4]; try rfl) (by decide) ?_
      refine j_aload_n hE dX11_look_60 rfl 0 rfl ?_
      refine j_get (v := .ref (a 6)) hE lg_WP_21 0 rfl 0 (wg_WP_0 g a ) rfl dX11_look_61 ?_
      refine j_get (v := .ref (a 8)) hE lg_WP_125 3 rfl 0 (wg_Road_0 g (fun i => a (i + 6)) ro_z) rfl dX11_look_64 ?_
      refine j_iload_n hE dX11_look_67 rfl 1 rfl ?_
      refine j_iald hE hf 3 rfl 2 (wg_Road_2 g (fun i => a (i + 6)) ro_z) dX11_look_68 (fun hf => ?_)
      obtain rfl := Option.some.inj hf
      exact j_iret hE hq rfl rfl dX11_look_69
    refine j_case hf (fun c6 hf => ?_) (fun c6 hf => ?_)
    · refine j_tableIn (tgt := 70) hE dX11_look_22 (by rw [c6]; decide) (by rw [c6]; decide) (by rw [c6]; try rfl) (by decide) ?_
      refine j_aload_n hE dX11_look_70 rfl 0 rfl ?_
      refine j_get (v := .ref (a 6)) hE lg_WP_21 0 rfl 0 (wg_WP_0 g a ) rfl dX11_look_71 ?_
      refine j_get (v := .ref (a 9)) hE lg_WP_128 3 rfl 0 (wg_Road_0 g (fun i => a (i + 6)) ro_z) rfl dX11_look_74 ?_
      refine j_iload_n hE dX11_look_77 rfl 1 rfl ?_
      refine j_zald hE hf 3 rfl 3 (wg_Road_3 g (fun i => a (i + 6)) ro_z) dX11_look_78 (fun hf => ?_)
      refine j_if_eq (tgt := 86) hE hf dX11_look_79 (by decide) (fun c8 hf => ?_) (fun c8 hf => ?_)
      · refine j_iconst (v := 0) hE dX11_look_86 (by decide) ?_
        obtain rfl := Option.some.inj hf
        exact j_iret hE hq rfl rfl dX11_look_87
      · refine j_iconst (v := 1) hE dX11_look_82 (by decide) ?_
        refine j_goto (tgt := 87) hE dX11_look_83 (by decide) ?_
        obtain rfl := Option.some.inj hf
        exact j_iret hE hq rfl rfl dX11_look_87
    refine j_case hf (fun c9 hf => ?_) (fun c9 hf => ?_)
    · refine j_tableIn (tgt := 88) hE dX11_look_22 (by rw [c9]; decide) (by rw [c9]; decide) (by rw [c9]; try rfl) (by decide) ?_
      refine j_aload_n hE dX11_look_88 rfl 0 rfl ?_
      refine j_get (v := .ref (a 6)) hE lg_WP_21 0 rfl 0 (wg_WP_0 g a ) rfl dX11_look_89 ?_
      refine j_get (v := .ref (a 10)) hE lg_WP_132 3 rfl 0 (wg_Road_0 g (fun i => a (i + 6)) ro_z) rfl dX11_look_92 ?_
      refine j_iload_n hE dX11_look_95 rfl 1 rfl ?_
      refine j_iald hE hf 3 rfl 4 (wg_Road_4 g (fun i => a (i + 6)) ro_z) dX11_look_96 (fun hf => ?_)
      obtain rfl := Option.some.inj hf
      exact j_iret hE hq rfl rfl dX11_look_97
    refine j_case hf (fun c11 hf => ?_) (fun c11 hf => ?_)
    · refine j_tableIn (tgt := 98) hE dX11_look_22 (by rw [c11]; decide) (by rw [c11]; decide) (by rw [c11]; try rfl) (by decide) ?_
      refine j_aload_n hE dX11_look_98 rfl 0 rfl ?_
      refine j_get (v := .ref (a 6)) hE lg_WP_21 0 rfl 0 (wg_WP_0 g a ) rfl dX11_look_99 ?_
      refine j_get (v := .ref (a 11)) hE lg_WP_135 3 rfl 0 (wg_Road_0 g (fun i => a (i + 6)) ro_z) rfl dX11_look_102 ?_
      refine j_iload_n hE dX11_look_105 rfl 1 rfl ?_
      refine j_iald hE hf 3 rfl 5 (wg_Road_5 g (fun i => a (i + 6)) ro_z) dX11_look_106 (fun hf => ?_)
      obtain rfl := Option.some.inj hf
      exact j_iret hE hq rfl rfl dX11_look_107
    refine j_case hf (fun c13 hf => ?_) (fun c13 hf => ?_)
    · refine j_tableIn (tgt := 108) hE dX11_look_22 (by rw [c13]; decide) (by rw [c13]; decide) (by rw [c13]; try rfl) (by decide) ?_
      refine j_aload_n hE dX11_look_108 rfl 0 rfl ?_
      refine j_get (v := .ref (a 6)) hE lg_WP_21 0 rfl 0 (wg_WP_0 g a ) rfl dX11_look_109 ?_
      refine j_get (v := .ref (a 12)) hE lg_WP_138 3 rfl 0 (wg_Road_0 g (fun i => a (i + 6)) ro_z) rfl dX11_look_112 ?_
      refine j_iload_n hE dX11_look_115 rfl 1 rfl ?_
      refine j_iald hE hf 3 rfl 6 (wg_Road_6 g (fun i => a (i + 6)) ro_z) dX11_look_116 (fun hf => ?_)
      obtain rfl := Option.some.inj hf
      exact j_iret hE hq rfl rfl dX11_look_117
    refine j_case hf (fun c15 hf => ?_) (fun c15 hf => ?_)
    · refine j_tableIn (tgt := 118) hE dX11_look_22 (by rw [c15]; decide) (by rw [c15]; decide) (by rw [c15]; try rfl) (by decide) ?_
      refine j_aload_n hE dX11_look_118 rfl 0 rfl ?_
      refine j_get (v := .ref (a 6)) hE lg_WP_21 0 rfl 0 (wg_WP_0 g a ) rfl dX11_look_119 ?_
      refine j_get (v := .ref (a 13)) hE lg_WP_141 3 rfl 0 (wg_Road_0 g (fun i => a (i + 6)) ro_z) rfl dX11_look_122 ?_
      refine j_iload_n hE dX11_look_125 rfl 1 rfl ?_
      refine j_iald hE hf 3 rfl 7 (wg_Road_7 g (fun i => a (i + 6)) ro_z) dX11_look_126 (fun hf => ?_)
      obtain rfl := Option.some.inj hf
      exact j_iret hE hq rfl rfl dX11_look_127
    have t_c4 : 0 ≠ Int32.toInt x2 := fun h => c4 (Int32.toInt_inj.mp (h.symm.trans (by decide)))
    have t_c6 : 1 ≠ Int32.toInt x2 := fun h => c6 (Int32.toInt_inj.mp (h.symm.trans (by decide)))
    have t_c9 : 2 ≠ Int32.toInt x2 := fun h => c9 (Int32.toInt_inj.mp (h.symm.trans (by decide)))
    have t_c11 : 3 ≠ Int32.toInt x2 := fun h => c11 (Int32.toInt_inj.mp (h.symm.trans (by decide)))
    have t_c13 : 4 ≠ Int32.toInt x2 := fun h => c13 (Int32.toInt_inj.mp (h.symm.trans (by decide)))
    have t_c15 : 5 ≠ Int32.toInt x2 := fun h => c15 (Int32.toInt_inj.mp (h.symm.trans (by decide)))
    refine j_tableOut (tgt := 128) hE dX11_look_22 (by omega) (by decide) ?_
    exact nomatch hf
  · exact nomatch hf
