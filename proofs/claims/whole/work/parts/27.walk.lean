def rm_Mo_isPlace : Room := { frames := 0, cells := 0, slots := 0, locals := 0 }
def f_Mo_isPlace (mo_z : jZ) (x1 : Int32) : Option (Int32) := (if x1 < 0 then some 0
    else (if (mo_z 4 0) ≤ x1 then some 0
    else some 1))
set_option maxRecDepth 100000 in
theorem c_Mo_isPlace (l : Launch) (g : jG) (a : Nat → Nat) (mo_z : jZ) (mo_y : jY) (x1 : Int32) (res : Int32) (hf : f_Mo_isPlace mo_z x1 = some res) : MC l g yX12_isPlace cX12_isPlace 2 (some .boolean) rm_Mo_isPlace [.ref (a 0), .int x1] (([n_Mo g a mo_z mo_y] : List va_W)) (some (.int res)) (([n_Mo g a mo_z mo_y] : List va_W)) 0 0 := by
  refine MC_of (own := RX12) (lv := [(0, .ref (a 0)), (1, .int x1)]) (by decide) rfl (Nat.le_of_ble_eq_true rfl) rfl rfl (fun E hE hq => ?_)
  unfold f_Mo_isPlace at hf
  refine j_iload_n hE dX12_isPlace_0 rfl 1 rfl ?_
  refine j_if_lt (tgt := 16) hE hf dX12_isPlace_1 (by decide) (fun c1 hf => ?_) (fun c1 hf => ?_)
  · refine j_iconst (v := 0) hE dX12_isPlace_16 (by decide) ?_
    obtain rfl := Option.some.inj hf
    exact j_zret_c hE (Or.inl rfl) hq rfl rfl dX12_isPlace_17
  · refine j_iload_n hE dX12_isPlace_4 rfl 1 rfl ?_
    refine j_aload_n hE dX12_isPlace_5 rfl 0 rfl ?_
    refine j_get (v := .int (mo_z 4 0)) hE lg_Mo_240 0 rfl 0 (wg_Mo_0 g a mo_z mo_y) rfl dX12_isPlace_6 ?_
    refine j_icmp_ge (tgt := 16) hE hf dX12_isPlace_9 (by decide) (fun c2 hf => ?_) (fun c2 hf => ?_)
    · refine j_iconst (v := 0) hE dX12_isPlace_16 (by decide) ?_
      obtain rfl := Option.some.inj hf
      exact j_zret_c hE (Or.inl rfl) hq rfl rfl dX12_isPlace_17
    · refine j_iconst (v := 1) hE dX12_isPlace_12 (by decide) ?_
      refine j_goto (tgt := 17) hE dX12_isPlace_13 (by decide) ?_
      obtain rfl := Option.some.inj hf
      exact j_zret_c hE (Or.inr rfl) hq rfl rfl dX12_isPlace_17
def rm_Mo_look : Room := { frames := 1, cells := 0, slots := 0, locals := 21 }
def f_Mo_look_27  (x1 : Int32) (x2 : Int32)  (mo_z : jZ) (s0 : Int32) : Option (jZ × Int32) := (if s0 = 0 then (if x2 = 0 then (ix x1 24).bind fun _ => some ((up2 mo_z 0 0 s0), (mo_z 9 (Int32.toNatClampNeg x1)))
    else (if x2 = 1 then (ix x1 24).bind fun _ => (if (mo_z 10 (Int32.toNatClampNeg x1)) = 0 then some ((up2 mo_z 0 0 s0), 0)
    else some ((up2 mo_z 0 0 s0), 1))
    else (if x2 = 2 then (ix x1 24).bind fun _ => some ((up2 mo_z 0 0 s0), (mo_z 11 (Int32.toNatClampNeg x1)))
    else (if x2 = 3 then (ix x1 24).bind fun _ => some ((up2 mo_z 0 0 s0), (mo_z 12 (Int32.toNatClampNeg x1)))
    else (if x2 = 4 then (ix x1 24).bind fun _ => some ((up2 mo_z 0 0 s0), (mo_z 13 (Int32.toNatClampNeg x1)))
    else (ix x1 12).bind fun _ => some ((up2 mo_z 0 0 s0), (mo_z 14 (Int32.toNatClampNeg x1))))))))
    else some ((up2 mo_z 0 0 s0), 0))
def f_Mo_look (mo_z : jZ) (x1 : Int32) (x2 : Int32) : Option (jZ × Int32) := (f_Mo_isPlace mo_z x1).bind fun q1 => (if q1 = 0 then f_Mo_look_27 x1 x2 mo_z 1
    else (if x2 < 0 then f_Mo_look_27 x1 x2 mo_z 2
    else (if x2 ≤ 5 then f_Mo_look_27 x1 x2 mo_z 0
    else f_Mo_look_27 x1 x2 mo_z 2)))
set_option maxRecDepth 100000 in
theorem j_Mo_look_27 (E : jT) (g : jG) (a : Nat → Nat) (mo_y : jY) (x1 : Int32) (x2 : Int32) (res : jZ × Int32) (hE : jOk E g RX12 cX12_look 3 (some .int) rm_Mo_look) (hq : jEnd E g (some (.int res.2)) (([n_Mo g a res.1 mo_y] : List va_W)) 0 0)  (mo_z : jZ) (s0 : Int32) (hf : f_Mo_look_27 x1 x2 mo_z s0 = some res) : J E g 0 0 (([n_Mo g a mo_z mo_y] : List va_W)) [(0, .ref (a 0)), (1, .int x1), (2, .int x2)] 27 [.int s0, .ref (a 0)] := by
  unfold f_Mo_look_27 at hf
  refine j_put (v := .int s0) (ws' := ([n_Mo g a (up2 mo_z 0 0 s0) mo_y] : List va_W)) hE lp_Mo_87 0 rfl 0 (wg_Mo_0 g a mo_z mo_y) rfl rfl (Nat.le_of_ble_eq_true rfl) (wp_Mo_0 g a mo_z mo_y s0) rfl dX12_look_27 ?_
  refine j_aload_n hE dX12_look_30 rfl 0 rfl ?_
  refine j_get (v := .int s0) hE lg_Mo_87 0 rfl 0 (wg_Mo_0 g a (up2 mo_z 0 0 s0) mo_y) rfl dX12_look_31 ?_
  refine j_if_eq (tgt := 39) hE hf dX12_look_34 (by decide) (fun c6 hf => ?_) (fun c6 hf => ?_)
  · refine j_iload_n hE dX12_look_39 rfl 2 rfl ?_
    refine j_case hf (fun c7 hf => ?_) (fun c7 hf => ?_)
    · refine j_tableIn (tgt := 76) hE dX12_look_40 (by rw [c7]; decide) (by rw [c7]; decide) (by rw [c7]; try rfl) (by decide) ?_
      refine j_aload_n hE dX12_look_76 rfl 0 rfl ?_
      refine j_get (v := .ref (a 6)) hE lg_Mo_27 0 rfl 0 (wg_Mo_0 g a (up2 mo_z 0 0 s0) mo_y) rfl dX12_look_77 ?_
      refine j_iload_n hE dX12_look_80 rfl 1 rfl ?_
      refine j_iald hE hf 0 rfl 6 (wg_Mo_6 g a (up2 mo_z 0 0 s0) mo_y) dX12_look_81 (fun hf => ?_)
      refine j_st (st' := [.int (mo_z 9 (Int32.toNatClampNeg x1))]) rfl ?_
      obtain rfl := Option.some.inj hf
      exact j_iret hE hq rfl rfl dX12_look_82
    refine j_case hf (fun c9 hf => ?_) (fun c9 hf => ?_)
    · refine j_tableIn (tgt := 83) hE dX12_look_40 (by rw [c9]; decide) (by rw [c9]; decide) (by rw [c9]; try rfl) (by decide) ?_
      refine j_aload_n hE dX12_look_83 rfl 0 rfl ?_
      refine j_get (v := .ref (a 7)) hE lg_Mo_30 0 rfl 0 (wg_Mo_0 g a (up2 mo_z 0 0 s0) mo_y) rfl dX12_look_84 ?_
      refine j_iload_n hE dX12_look_87 rfl 1 rfl ?_
      refine j_zald hE hf 0 rfl 7 (wg_Mo_7 g a (up2 mo_z 0 0 s0) mo_y) dX12_look_88 (fun hf => ?_)
      refine j_st (st' := [.int (mo_z 10 (Int32.toNatClampNeg x1))]) rfl ?_
      refine j_if_eq (tgt := 96) hE hf dX12_look_89 (by decide) (fun c11 hf => ?_) (fun c11 hf => ?_)
      · refine j_iconst (v := 0) hE dX12_look_96 (by decide) ?_
        obtain rfl := Option.some.inj hf
        exact j_iret hE hq rfl rfl dX12_look_97
      · refine j_iconst (v := 1) hE dX12_look_92 (by decide) ?_
        refine j_goto (tgt := 97) hE dX12_look_93 (by decide) ?_
        obtain rfl := Option.some.inj hf
        exact j_iret hE hq rfl rfl dX12_look_97
    refine j_case hf (fun c12 hf => ?_) (fun c12 hf => ?_)
    · refine j_tableIn (tgt := 98) hE dX12_look_40 (by rw [c12]; decide) (by rw [c12]; decide) (by rw [c12]; try rfl) (by decide) ?_
      refine j_aload_n hE dX12_look_98 rfl 0 rfl ?_
      refine j_get (v := .ref (a 8)) hE lg_Mo_34 0 rfl 0 (wg_Mo_0 g a (up2 mo_z 0 0 s0) mo_y) rfl dX12_look_99 ?_
      refine j_iload_n hE dX12_look_102 rfl 1 rfl ?_
      refine j_iald hE hf 0 rfl 8 (wg_Mo_8 g a (up2 mo_z 0 0 s0) mo_y) dX12_look_103 (fun hf => ?_)
      refine j_st (st' := [.int (mo_z 11 (Int32.toNatClampNeg x1))]) rfl ?_
      obtain rfl := Option.some.inj hf
      exact j_iret hE hq rfl rfl dX12_look_104
    refine j_case hf (fun c14 hf => ?_) (fun c14 hf => ?_)
    · refine j_tableIn (tgt := 105) hE dX12_look_40 (by rw [c14]; decide) (by rw [c14]; decide) (by rw [c14]; try rfl) (by decide) ?_
      refine j_aload_n hE dX12_look_105 rfl 0 rfl ?_
      refine j_get (v := .ref (a 9)) hE lg_Mo_37 0 rfl 0 (wg_Mo_0 g a (up2 mo_z 0 0 s0) mo_y) rfl dX12_look_106 ?_
      refine j_iload_n hE dX12_look_109 rfl 1 rfl ?_
      refine j_iald hE hf 0 rfl 9 (wg_Mo_9 g a (up2 mo_z 0 0 s0) mo_y) dX12_look_110 (fun hf => ?_)
      refine j_st (st' := [.int (mo_z 12 (Int32.toNatClampNeg x1))]) rfl ?_
      obtain rfl := Option.some.inj hf
      exact j_iret hE hq rfl rfl dX12_look_111
    refine j_case hf (fun c16 hf => ?_) (fun c16 hf => ?_)
    · refine j_tableIn (tgt := 112) hE dX12_look_40 (by rw [c16]; decide) (by rw [c16]; decide) (by rw [c16]; try rfl) (by decide) ?_
      refine j_aload_n hE dX12_look_112 rfl 0 rfl ?_
      refine j_get (v := .ref (a 10)) hE lg_Mo_40 0 rfl 0 (wg_Mo_0 g a (up2 mo_z 0 0 s0) mo_y) rfl dX12_look_113 ?_
      refine j_iload_n hE dX12_look_116 rfl 1 rfl ?_
      refine j_iald hE hf 0 rfl 10 (wg_Mo_10 g a (up2 mo_z 0 0 s0) mo_y) dX12_look_117 (fun hf => ?_)
      refine j_st (st' := [.int (mo_z 13 (Int32.toNatClampNeg x1))]) rfl ?_
      obtain rfl := Option.some.inj hf
      exact j_iret hE hq rfl rfl dX12_look_118
    have t_c7 : 0 ≠ Int32.toInt x2 := fun h => c7 (Int32.toInt_inj.mp (h.symm.trans (by decide)))
    have t_c9 : 1 ≠ Int32.toInt x2 := fun h => c9 (Int32.toInt_inj.mp (h.symm.trans (by decide)))
    have t_c12 : 2 ≠ Int32.toInt x2 := fun h => c12 (Int32.toInt_inj.mp (h.symm.trans (by decide)))
    have t_c14 : 3 ≠ Int32.toInt x2 := fun h => c14 (Int32.toInt_inj.mp (h.symm.trans (by decide)))
    have t_c16 : 4 ≠ Int32.toInt x2 := fun h => c16 (Int32.toInt_inj.mp (h.symm.trans (by decide)))
    refine j_tableOut (tgt := 119) hE dX12_look_40 (by omega) (by decide) ?_
    refine j_aload_n hE dX12_look_119 rfl 0 rfl ?_
    refine j_get (v := .ref (a 11)) hE lg_Mo_43 0 rfl 0 (wg_Mo_0 g a (up2 mo_z 0 0 s0) mo_y) rfl dX12_look_120 ?_
    refine j_iload_n hE dX12_look_123 rfl 1 rfl ?_
    refine j_iald hE hf 0 rfl 11 (wg_Mo_11 g a (up2 mo_z 0 0 s0) mo_y) dX12_look_124 (fun hf => ?_)
    refine j_st (st' := [.int (mo_z 14 (Int32.toNatClampNeg x1))]) rfl ?_
    obtain rfl := Option.some.inj hf
    exact j_iret hE hq rfl rfl dX12_look_125
  · refine j_iconst (v := 0) hE dX12_look_37 (by decide) ?_
    obtain rfl := Option.some.inj hf
    exact j_iret hE hq rfl rfl dX12_look_38
set_option maxRecDepth 100000 in
theorem c_Mo_look (l : Launch) (g : jG) (a : Nat → Nat) (mo_z : jZ) (mo_y : jY) (x1 : Int32) (x2 : Int32) (res : jZ × Int32) (hf : f_Mo_look mo_z x1 x2 = some res) : MC l g yX12_look cX12_look 3 (some .int) rm_Mo_look [.ref (a 0), .int x1, .int x2] (([n_Mo g a mo_z mo_y] : List va_W)) (some (.int res.2)) (([n_Mo g a res.1 mo_y] : List va_W)) 0 0 := by
  refine MC_of (own := RX12) (lv := [(0, .ref (a 0)), (1, .int x1), (2, .int x2)]) (by decide) rfl (Nat.le_of_ble_eq_true rfl) rfl rfl (fun E hE hq => ?_)
  unfold f_Mo_look at hf
  refine j_aload_n hE dX12_look_0 rfl 0 rfl ?_
  refine j_aload_n hE dX12_look_1 rfl 0 rfl ?_
  refine j_iload_n hE dX12_look_2 rfl 1 rfl ?_
  obtain ⟨q1, hc2, hf⟩ := bind_of hf
  refine j_callV (ws' := ([n_Mo g a mo_z mo_y] : List va_W)) (As := [.int x1]) (rest := [.ref (a 0)]) (st2 := [.int q1, .ref (a 0)]) hE (fun l => c_Mo_isPlace l g a mo_z mo_y x1 q1 hc2) cd_X12_isPlace cv_X12_isPlace ml_Mo_252 rfl rfl rfl (wg_Mo_0 _ _ _ _) ⟨⟨Nat.le_of_ble_eq_true rfl, Nat.le_of_ble_eq_true rfl⟩, ⟨Nat.zero_le _, Nat.zero_le _⟩, rfl, rfl⟩ [0] rfl rfl rfl (Nat.le_of_ble_eq_true rfl) rfl dX12_look_3 ?_
  refine j_if_ne (tgt := 13) hE hf dX12_look_6 (by decide) (fun c3 hf => ?_) (fun c3 hf => ?_)
  · refine j_iload_n hE dX12_look_13 rfl 2 rfl ?_
    refine j_if_lt (tgt := 22) hE hf dX12_look_14 (by decide) (fun c4 hf => ?_) (fun c4 hf => ?_)
    · refine j_iconst (v := 2) hE dX12_look_22 (by decide) ?_
      refine j_goto (tgt := 27) hE dX12_look_23 (by decide) ?_
      exact j_Mo_look_27 E g a mo_y x1 x2 res hE hq mo_z 2 hf
    · refine j_iload_n hE dX12_look_17 rfl 2 rfl ?_
      refine j_iconst (v := 5) hE dX12_look_18 (by decide) ?_
      refine j_icmp_le (tgt := 26) hE hf dX12_look_19 (by decide) (fun c5 hf => ?_) (fun c5 hf => ?_)
      · refine j_iconst (v := 0) hE dX12_look_26 (by decide) ?_
        exact j_Mo_look_27 E g a mo_y x1 x2 res hE hq mo_z 0 hf
      · refine j_iconst (v := 2) hE dX12_look_22 (by decide) ?_
        refine j_goto (tgt := 27) hE dX12_look_23 (by decide) ?_
        exact j_Mo_look_27 E g a mo_y x1 x2 res hE hq mo_z 2 hf
  · refine j_iconst (v := 1) hE dX12_look_9 (by decide) ?_
    refine j_goto (tgt := 27) hE dX12_look_10 (by decide) ?_
    exact j_Mo_look_27 E g a mo_y x1 x2 res hE hq mo_z 1 hf
def rm_Mo_note : Room := { frames := 1, cells := 0, slots := 0, locals := 21 }
def f_Mo_note (mo_z : jZ) (x1 : Int32) (x2 : Int32) (x3 : Int32) : Option (jZ × Int32) := (f_Mo_isPlace (up2 mo_z 0 0 0) x1).bind fun q1 => (if q1 = 0 then some ((up2 mo_z 0 0 0), (-1))
    else (if x2 < 0 then some ((up2 mo_z 0 0 0), (-1))
    else (if 9 ≤ x2 then some ((up2 mo_z 0 0 0), (-1))
    else (if x3 < 0 then some ((up2 mo_z 0 0 0), (-1))
    else (if 9 < x3 then some ((up2 mo_z 0 0 0), (-1))
    else (if (mo_z 38 0) = 150 then some ((up2 mo_z 0 0 0), (-1))
    else (ix (mo_z 38 0) 150).bind fun _ => (ix (mo_z 38 0) 150).bind fun _ => (ix (mo_z 38 0) 150).bind fun _ => some ((up2 (up2 (up2 (up2 (up2 mo_z 0 0 0) 40 (Int32.toNatClampNeg (mo_z 38 0)) x1) 41 (Int32.toNatClampNeg (mo_z 38 0)) x2) 42 (Int32.toNatClampNeg (mo_z 38 0)) x3) 38 0 ((mo_z 38 0) + 1)), (((mo_z 38 0) + 1) - 1))))))))
set_option maxRecDepth 100000 in
theorem c_Mo_note (l : Launch) (g : jG) (a : Nat → Nat) (mo_z : jZ) (mo_y : jY) (x1 : Int32) (x2 : Int32) (x3 : Int32) (res : jZ × Int32) (hf : f_Mo_note mo_z x1 x2 x3 = some res) : MC l g yX12_note cX12_note 4 (some .int) rm_Mo_note [.ref (a 0), .int x1, .int x2, .int x3] (([n_Mo g a mo_z mo_y] : List va_W)) (some (.int res.2)) (([n_Mo g a res.1 mo_y] : List va_W)) 0 0 := by
  refine MC_of (own := RX12) (lv := [(0, .ref (a 0)), (1, .int x1), (2, .int x2), (3, .int x3)]) (by decide) rfl (Nat.le_of_ble_eq_true rfl) rfl rfl (fun E hE hq => ?_)
  unfold f_Mo_note at hf
  refine j_aload_n hE dX12_note_0 rfl 0 rfl ?_
  refine j_iconst (v := 0) hE dX12_note_1 (by decide) ?_
  refine j_put (v := .int 0) (ws' := ([n_Mo g a (up2 mo_z 0 0 0) mo_y] : List va_W)) hE lp_Mo_87 0 rfl 0 (wg_Mo_0 g a mo_z mo_y) rfl rfl (Nat.le_of_ble_eq_true rfl) (wp_Mo_0 g a mo_z mo_y 0) rfl dX12_note_2 ?_
  refine j_aload_n hE dX12_note_5 rfl 0 rfl ?_
  refine j_iload_n hE dX12_note_6 rfl 1 rfl ?_
  obtain ⟨q1, hc2, hf⟩ := bind_of hf
  refine j_callV (ws' := ([n_Mo g a (up2 mo_z 0 0 0) mo_y] : List va_W)) (As := [.int x1]) (rest := []) (st2 := [.int q1]) hE (fun l => c_Mo_isPlace l g a (up2 mo_z 0 0 0) mo_y x1 q1 hc2) cd_X12_isPlace cv_X12_isPlace ml_Mo_252 rfl rfl rfl (wg_Mo_0 _ _ _ _) ⟨⟨Nat.le_of_ble_eq_true rfl, Nat.le_of_ble_eq_true rfl⟩, ⟨Nat.zero_le _, Nat.zero_le _⟩, rfl, rfl⟩ [0] rfl rfl rfl (Nat.le_of_ble_eq_true rfl) rfl dX12_note_7 ?_
  refine j_if_eq (tgt := 43) hE hf dX12_note_10 (by decide) (fun c3 hf => ?_) (fun c3 hf => ?_)
  · refine j_iconst (v := (-1)) hE dX12_note_43 (by decide) ?_
    obtain rfl := Option.some.inj hf
    exact j_iret hE hq rfl rfl dX12_note_44
  · refine j_iload_n hE dX12_note_13 rfl 2 rfl ?_
    refine j_if_lt (tgt := 43) hE hf dX12_note_14 (by decide) (fun c4 hf => ?_) (fun c4 hf => ?_)
    · refine j_iconst (v := (-1)) hE dX12_note_43 (by decide) ?_
      obtain rfl := Option.some.inj hf
      exact j_iret hE hq rfl rfl dX12_note_44
    · refine j_iload_n hE dX12_note_17 rfl 2 rfl ?_
      refine j_bipush (v := 9) hE dX12_note_18 (by decide) ?_
      refine j_icmp_ge (tgt := 43) hE hf dX12_note_20 (by decide) (fun c5 hf => ?_) (fun c5 hf => ?_)
      · refine j_iconst (v := (-1)) hE dX12_note_43 (by decide) ?_
        obtain rfl := Option.some.inj hf
        exact j_iret hE hq rfl rfl dX12_note_44
      · refine j_iload_n hE dX12_note_23 rfl 3 rfl ?_
        refine j_if_lt (tgt := 43) hE hf dX12_note_24 (by decide) (fun c6 hf => ?_) (fun c6 hf => ?_)
        · refine j_iconst (v := (-1)) hE dX12_note_43 (by decide) ?_
          obtain rfl := Option.some.inj hf
          exact j_iret hE hq rfl rfl dX12_note_44
        · refine j_iload_n hE dX12_note_27 rfl 3 rfl ?_
          refine j_bipush (v := 9) hE dX12_note_28 (by decide) ?_
          refine j_icmp_gt (tgt := 43) hE hf dX12_note_30 (by decide) (fun c7 hf => ?_) (fun c7 hf => ?_)
          · refine j_iconst (v := (-1)) hE dX12_note_43 (by decide) ?_
            obtain rfl := Option.some.inj hf
            exact j_iret hE hq rfl rfl dX12_note_44
          · refine j_aload_n hE dX12_note_33 rfl 0 rfl ?_
            refine j_get (v := .int (mo_z 38 0)) hE lg_Mo_249 0 rfl 0 (wg_Mo_0 g a (up2 mo_z 0 0 0) mo_y) rfl dX12_note_34 ?_
            refine j_sipush (v := 150) hE dX12_note_37 (by decide) ?_
            refine j_icmp_ne (tgt := 45) hE hf dX12_note_40 (by decide) (fun c8 hf => ?_) (fun c8 hf => ?_)
            · refine j_aload_n hE dX12_note_45 rfl 0 rfl ?_
              refine j_get (v := .ref (a 14)) hE lg_Mo_62 0 rfl 0 (wg_Mo_0 g a (up2 mo_z 0 0 0) mo_y) rfl dX12_note_46 ?_
              refine j_aload_n hE dX12_note_49 rfl 0 rfl ?_
              refine j_get (v := .int (mo_z 38 0)) hE lg_Mo_249 0 rfl 0 (wg_Mo_0 g a (up2 mo_z 0 0 0) mo_y) rfl dX12_note_50 ?_
              refine j_iload_n hE dX12_note_53 rfl 1 rfl ?_
              refine j_iast (ws' := ([n_Mo g a (up2 (up2 mo_z 0 0 0) 40 (Int32.toNatClampNeg (mo_z 38 0)) x1) mo_y] : List va_W)) hE hf 0 rfl 14 (wg_Mo_14 g a (up2 mo_z 0 0 0) mo_y) (wa_Mo_14 g a (up2 mo_z 0 0 0) mo_y (Int32.toNatClampNeg (mo_z 38 0)) x1) rfl dX12_note_54 (fun hf => ?_)
              refine j_aload_n hE dX12_note_55 rfl 0 rfl ?_
              refine j_get (v := .ref (a 15)) hE lg_Mo_65 0 rfl 0 (wg_Mo_0 g a (up2 (up2 mo_z 0 0 0) 40 (Int32.toNatClampNeg (mo_z 38 0)) x1) mo_y) rfl dX12_note_56 ?_
              refine j_aload_n hE dX12_note_59 rfl 0 rfl ?_
              refine j_get (v := .int (mo_z 38 0)) hE lg_Mo_249 0 rfl 0 (wg_Mo_0 g a (up2 (up2 mo_z 0 0 0) 40 (Int32.toNatClampNeg (mo_z 38 0)) x1) mo_y) rfl dX12_note_60 ?_
              refine j_iload_n hE dX12_note_63 rfl 2 rfl ?_
              refine j_iast (ws' := ([n_Mo g a (up2 (up2 (up2 mo_z 0 0 0) 40 (Int32.toNatClampNeg (mo_z 38 0)) x1) 41 (Int32.toNatClampNeg (mo_z 38 0)) x2) mo_y] : List va_W)) hE hf 0 rfl 15 (wg_Mo_15 g a (up2 (up2 mo_z 0 0 0) 40 (Int32.toNatClampNeg (mo_z 38 0)) x1) mo_y) (wa_Mo_15 g a (up2 (up2 mo_z 0 0 0) 40 (Int32.toNatClampNeg (mo_z 38 0)) x1) mo_y (Int32.toNatClampNeg (mo_z 38 0)) x2) rfl dX12_note_64 (fun hf => ?_)
              refine j_aload_n hE dX12_note_65 rfl 0 rfl ?_
              refine j_get (v := .ref (a 16)) hE lg_Mo_68 0 rfl 0 (wg_Mo_0 g a (up2 (up2 (up2 mo_z 0 0 0) 40 (Int32.toNatClampNeg (mo_z 38 0)) x1) 41 (Int32.toNatClampNeg (mo_z 38 0)) x2) mo_y) rfl dX12_note_66 ?_
              refine j_aload_n hE dX12_note_69 rfl 0 rfl ?_
              refine j_get (v := .int (mo_z 38 0)) hE lg_Mo_249 0 rfl 0 (wg_Mo_0 g a (up2 (up2 (up2 mo_z 0 0 0) 40 (Int32.toNatClampNeg (mo_z 38 0)) x1) 41 (Int32.toNatClampNeg (mo_z 38 0)) x2) mo_y) rfl dX12_note_70 ?_
              refine j_iload_n hE dX12_note_73 rfl 3 rfl ?_
              refine j_iast (ws' := ([n_Mo g a (up2 (up2 (up2 (up2 mo_z 0 0 0) 40 (Int32.toNatClampNeg (mo_z 38 0)) x1) 41 (Int32.toNatClampNeg (mo_z 38 0)) x2) 42 (Int32.toNatClampNeg (mo_z 38 0)) x3) mo_y] : List va_W)) hE hf 0 rfl 16 (wg_Mo_16 g a (up2 (up2 (up2 mo_z 0 0 0) 40 (Int32.toNatClampNeg (mo_z 38 0)) x1) 41 (Int32.toNatClampNeg (mo_z 38 0)) x2) mo_y) (wa_Mo_16 g a (up2 (up2 (up2 mo_z 0 0 0) 40 (Int32.toNatClampNeg (mo_z 38 0)) x1) 41 (Int32.toNatClampNeg (mo_z 38 0)) x2) mo_y (Int32.toNatClampNeg (mo_z 38 0)) x3) rfl dX12_note_74 (fun hf => ?_)
              refine j_aload_n hE dX12_note_75 rfl 0 rfl ?_
              refine j_dup hE dX12_note_76 rfl ?_
              refine j_get (v := .int (mo_z 38 0)) hE lg_Mo_249 0 rfl 0 (wg_Mo_0 g a (up2 (up2 (up2 (up2 mo_z 0 0 0) 40 (Int32.toNatClampNeg (mo_z 38 0)) x1) 41 (Int32.toNatClampNeg (mo_z 38 0)) x2) 42 (Int32.toNatClampNeg (mo_z 38 0)) x3) mo_y) rfl dX12_note_77 ?_
              refine j_iconst (v := 1) hE dX12_note_80 (by decide) ?_
              refine j_iadd hE dX12_note_81 ?_
              refine j_put (v := .int ((mo_z 38 0) + 1)) (ws' := ([n_Mo g a (up2 (up2 (up2 (up2 (up2 mo_z 0 0 0) 40 (Int32.toNatClampNeg (mo_z 38 0)) x1) 41 (Int32.toNatClampNeg (mo_z 38 0)) x2) 42 (Int32.toNatClampNeg (mo_z 38 0)) x3) 38 0 ((mo_z 38 0) + 1)) mo_y] : List va_W)) hE lp_Mo_249 0 rfl 0 (wg_Mo_0 g a (up2 (up2 (up2 (up2 mo_z 0 0 0) 40 (Int32.toNatClampNeg (mo_z 38 0)) x1) 41 (Int32.toNatClampNeg (mo_z 38 0)) x2) 42 (Int32.toNatClampNeg (mo_z 38 0)) x3) mo_y) rfl rfl (Nat.le_of_ble_eq_true rfl) (wp_Mo_38 g a (up2 (up2 (up2 (up2 mo_z 0 0 0) 40 (Int32.toNatClampNeg (mo_z 38 0)) x1) 41 (Int32.toNatClampNeg (mo_z 38 0)) x2) 42 (Int32.toNatClampNeg (mo_z 38 0)) x3) mo_y ((mo_z 38 0) + 1)) rfl dX12_note_82 ?_
              refine j_aload_n hE dX12_note_85 rfl 0 rfl ?_
              refine j_get (v := .int ((mo_z 38 0) + 1)) hE lg_Mo_249 0 rfl 0 (wg_Mo_0 g a (up2 (up2 (up2 (up2 (up2 mo_z 0 0 0) 40 (Int32.toNatClampNeg (mo_z 38 0)) x1) 41 (Int32.toNatClampNeg (mo_z 38 0)) x2) 42 (Int32.toNatClampNeg (mo_z 38 0)) x3) 38 0 ((mo_z 38 0) + 1)) mo_y) rfl dX12_note_86 ?_
              refine j_iconst (v := 1) hE dX12_note_89 (by decide) ?_
              refine j_isub hE dX12_note_90 ?_
              obtain rfl := Option.some.inj hf
              exact j_iret hE hq rfl rfl dX12_note_91
            · refine j_iconst (v := (-1)) hE dX12_note_43 (by decide) ?_
              obtain rfl := Option.some.inj hf
              exact j_iret hE hq rfl rfl dX12_note_44
def rm_Mo_strike : Room := { frames := 0, cells := 0, slots := 0, locals := 0 }
def f_Mo_strike (mo_z : jZ) (x1 : Int32) : Option (jZ × Int32) := (if x1 < 0 then some ((up2 mo_z 0 0 0), (-1))
    else (if (mo_z 38 0) ≤ x1 then some ((up2 mo_z 0 0 0), (-1))
    else (if (mo_z 38 0) = 150 then some ((up2 mo_z 0 0 0), (-1))
    else (ix (mo_z 38 0) 150).bind fun _ => (ix (mo_z 38 0) 150).bind fun _ => some ((up2 (up2 (up2 (up2 mo_z 0 0 0) 40 (Int32.toNatClampNeg (mo_z 38 0)) (-1)) 42 (Int32.toNatClampNeg (mo_z 38 0)) x1) 38 0 ((mo_z 38 0) + 1)), (((mo_z 38 0) + 1) - 1)))))
set_option maxRecDepth 100000 in
theorem c_Mo_strike (l : Launch) (g : jG) (a : Nat → Nat) (mo_z : jZ) (mo_y : jY) (x1 : Int32) (res : jZ × Int32) (hf : f_Mo_strike mo_z x1 = some res) : MC l g yX12_strike cX12_strike 2 (some .int) rm_Mo_strike [.ref (a 0), .int x1] (([n_Mo g a mo_z mo_y] : List va_W)) (some (.int res.2)) (([n_Mo g a res.1 mo_y] : List va_W)) 0 0 := by
  refine MC_of (own := RX12) (lv := [(0, .ref (a 0)), (1, .int x1)]) (by decide) rfl (Nat.le_of_ble_eq_true rfl) rfl rfl (fun E hE hq => ?_)
  unfold f_Mo_strike at hf
  refine j_aload_n hE dX12_strike_0 rfl 0 rfl ?_
  refine j_iconst (v := 0) hE dX12_strike_1 (by decide) ?_
  refine j_put (v := .int 0) (ws' := ([n_Mo g a (up2 mo_z 0 0 0) mo_y] : List va_W)) hE lp_Mo_87 0 rfl 0 (wg_Mo_0 g a mo_z mo_y) rfl rfl (Nat.le_of_ble_eq_true rfl) (wp_Mo_0 g a mo_z mo_y 0) rfl dX12_strike_2 ?_
  refine j_iload_n hE dX12_strike_5 rfl 1 rfl ?_
  refine j_if_lt (tgt := 27) hE hf dX12_strike_6 (by decide) (fun c1 hf => ?_) (fun c1 hf => ?_)
  · refine j_iconst (v := (-1)) hE dX12_strike_27 (by decide) ?_
    obtain rfl := Option.some.inj hf
    exact j_iret hE hq rfl rfl dX12_strike_28
  · refine j_iload_n hE dX12_strike_9 rfl 1 rfl ?_
    refine j_aload_n hE dX12_strike_10 rfl 0 rfl ?_
    refine j_get (v := .int (mo_z 38 0)) hE lg_Mo_249 0 rfl 0 (wg_Mo_0 g a (up2 mo_z 0 0 0) mo_y) rfl dX12_strike_11 ?_
    refine j_icmp_ge (tgt := 27) hE hf dX12_strike_14 (by decide) (fun c2 hf => ?_) (fun c2 hf => ?_)
    · refine j_iconst (v := (-1)) hE dX12_strike_27 (by decide) ?_
      obtain rfl := Option.some.inj hf
      exact j_iret hE hq rfl rfl dX12_strike_28
    · refine j_aload_n hE dX12_strike_17 rfl 0 rfl ?_
      refine j_get (v := .int (mo_z 38 0)) hE lg_Mo_249 0 rfl 0 (wg_Mo_0 g a (up2 mo_z 0 0 0) mo_y) rfl dX12_strike_18 ?_
      refine j_sipush (v := 150) hE dX12_strike_21 (by decide) ?_
      refine j_icmp_ne (tgt := 29) hE hf dX12_strike_24 (by decide) (fun c3 hf => ?_) (fun c3 hf => ?_)
      · refine j_aload_n hE dX12_strike_29 rfl 0 rfl ?_
        refine j_get (v := .ref (a 14)) hE lg_Mo_62 0 rfl 0 (wg_Mo_0 g a (up2 mo_z 0 0 0) mo_y) rfl dX12_strike_30 ?_
        refine j_aload_n hE dX12_strike_33 rfl 0 rfl ?_
        refine j_get (v := .int (mo_z 38 0)) hE lg_Mo_249 0 rfl 0 (wg_Mo_0 g a (up2 mo_z 0 0 0) mo_y) rfl dX12_strike_34 ?_
        refine j_iconst (v := (-1)) hE dX12_strike_37 (by decide) ?_
        refine j_iast (ws' := ([n_Mo g a (up2 (up2 mo_z 0 0 0) 40 (Int32.toNatClampNeg (mo_z 38 0)) (-1)) mo_y] : List va_W)) hE hf 0 rfl 14 (wg_Mo_14 g a (up2 mo_z 0 0 0) mo_y) (wa_Mo_14 g a (up2 mo_z 0 0 0) mo_y (Int32.toNatClampNeg (mo_z 38 0)) (-1)) rfl dX12_strike_38 (fun hf => ?_)
        refine j_aload_n hE dX12_strike_39 rfl 0 rfl ?_
        refine j_get (v := .ref (a 16)) hE lg_Mo_68 0 rfl 0 (wg_Mo_0 g a (up2 (up2 mo_z 0 0 0) 40 (Int32.toNatClampNeg (mo_z 38 0)) (-1)) mo_y) rfl dX12_strike_40 ?_
        refine j_aload_n hE dX12_strike_43 rfl 0 rfl ?_
        refine j_get (v := .int (mo_z 38 0)) hE lg_Mo_249 0 rfl 0 (wg_Mo_0 g a (up2 (up2 mo_z 0 0 0) 40 (Int32.toNatClampNeg (mo_z 38 0)) (-1)) mo_y) rfl dX12_strike_44 ?_
        refine j_iload_n hE dX12_strike_47 rfl 1 rfl ?_
        refine j_iast (ws' := ([n_Mo g a (up2 (up2 (up2 mo_z 0 0 0) 40 (Int32.toNatClampNeg (mo_z 38 0)) (-1)) 42 (Int32.toNatClampNeg (mo_z 38 0)) x1) mo_y] : List va_W)) hE hf 0 rfl 16 (wg_Mo_16 g a (up2 (up2 mo_z 0 0 0) 40 (Int32.toNatClampNeg (mo_z 38 0)) (-1)) mo_y) (wa_Mo_16 g a (up2 (up2 mo_z 0 0 0) 40 (Int32.toNatClampNeg (mo_z 38 0)) (-1)) mo_y (Int32.toNatClampNeg (mo_z 38 0)) x1) rfl dX12_strike_48 (fun hf => ?_)
        refine j_aload_n hE dX12_strike_49 rfl 0 rfl ?_
        refine j_dup hE dX12_strike_50 rfl ?_
        refine j_get (v := .int (mo_z 38 0)) hE lg_Mo_249 0 rfl 0 (wg_Mo_0 g a (up2 (up2 (up2 mo_z 0 0 0) 40 (Int32.toNatClampNeg (mo_z 38 0)) (-1)) 42 (Int32.toNatClampNeg (mo_z 38 0)) x1) mo_y) rfl dX12_strike_51 ?_
        refine j_iconst (v := 1) hE dX12_strike_54 (by decide) ?_
        refine j_iadd hE dX12_strike_55 ?_
        refine j_put (v := .int ((mo_z 38 0) + 1)) (ws' := ([n_Mo g a (up2 (up2 (up2 (up2 mo_z 0 0 0) 40 (Int32.toNatClampNeg (mo_z 38 0)) (-1)) 42 (Int32.toNatClampNeg (mo_z 38 0)) x1) 38 0 ((mo_z 38 0) + 1)) mo_y] : List va_W)) hE lp_Mo_249 0 rfl 0 (wg_Mo_0 g a (up2 (up2 (up2 mo_z 0 0 0) 40 (Int32.toNatClampNeg (mo_z 38 0)) (-1)) 42 (Int32.toNatClampNeg (mo_z 38 0)) x1) mo_y) rfl rfl (Nat.le_of_ble_eq_true rfl) (wp_Mo_38 g a (up2 (up2 (up2 mo_z 0 0 0) 40 (Int32.toNatClampNeg (mo_z 38 0)) (-1)) 42 (Int32.toNatClampNeg (mo_z 38 0)) x1) mo_y ((mo_z 38 0) + 1)) rfl dX12_strike_56 ?_
        refine j_aload_n hE dX12_strike_59 rfl 0 rfl ?_
        refine j_get (v := .int ((mo_z 38 0) + 1)) hE lg_Mo_249 0 rfl 0 (wg_Mo_0 g a (up2 (up2 (up2 (up2 mo_z 0 0 0) 40 (Int32.toNatClampNeg (mo_z 38 0)) (-1)) 42 (Int32.toNatClampNeg (mo_z 38 0)) x1) 38 0 ((mo_z 38 0) + 1)) mo_y) rfl dX12_strike_60 ?_
        refine j_iconst (v := 1) hE dX12_strike_63 (by decide) ?_
        refine j_isub hE dX12_strike_64 ?_
        obtain rfl := Option.some.inj hf
        exact j_iret hE hq rfl rfl dX12_strike_65
      · refine j_iconst (v := (-1)) hE dX12_strike_27 (by decide) ?_
        obtain rfl := Option.some.inj hf
        exact j_iret hE hq rfl rfl dX12_strike_28
def rm_Mo_known : Room := { frames := 0, cells := 0, slots := 0, locals := 0 }
def f_Mo_known (mo_z : jZ) (x1 : Int32) : Option (jZ × Int32) := (if x1 < (-1) then some ((up2 mo_z 0 0 0), 0)
    else (if x1 ≤ (mo_z 38 0) then some ((up2 (up2 mo_z 0 0 0) 39 0 x1), 1)
    else some ((up2 mo_z 0 0 0), 0)))
set_option maxRecDepth 100000 in
theorem c_Mo_known (l : Launch) (g : jG) (a : Nat → Nat) (mo_z : jZ) (mo_y : jY) (x1 : Int32) (res : jZ × Int32) (hf : f_Mo_known mo_z x1 = some res) : MC l g yX12_known cX12_known 2 (some .boolean) rm_Mo_known [.ref (a 0), .int x1] (([n_Mo g a mo_z mo_y] : List va_W)) (some (.int res.2)) (([n_Mo g a res.1 mo_y] : List va_W)) 0 0 := by
  refine MC_of (own := RX12) (lv := [(0, .ref (a 0)), (1, .int x1)]) (by decide) rfl (Nat.le_of_ble_eq_true rfl) rfl rfl (fun E hE hq => ?_)
  unfold f_Mo_known at hf
  refine j_aload_n hE dX12_known_0 rfl 0 rfl ?_
  refine j_iconst (v := 0) hE dX12_known_1 (by decide) ?_
  refine j_put (v := .int 0) (ws' := ([n_Mo g a (up2 mo_z 0 0 0) mo_y] : List va_W)) hE lp_Mo_87 0 rfl 0 (wg_Mo_0 g a mo_z mo_y) rfl rfl (Nat.le_of_ble_eq_true rfl) (wp_Mo_0 g a mo_z mo_y 0) rfl dX12_known_2 ?_
  refine j_iload_n hE dX12_known_5 rfl 1 rfl ?_
  refine j_iconst (v := (-1)) hE dX12_known_6 (by decide) ?_
  refine j_icmp_lt (tgt := 18) hE hf dX12_known_7 (by decide) (fun c1 hf => ?_) (fun c1 hf => ?_)
  · refine j_iconst (v := 0) hE dX12_known_18 (by decide) ?_
    obtain rfl := Option.some.inj hf
    exact j_zret_c hE (Or.inl rfl) hq rfl rfl dX12_known_19
  · refine j_iload_n hE dX12_known_10 rfl 1 rfl ?_
    refine j_aload_n hE dX12_known_11 rfl 0 rfl ?_
    refine j_get (v := .int (mo_z 38 0)) hE lg_Mo_249 0 rfl 0 (wg_Mo_0 g a (up2 mo_z 0 0 0) mo_y) rfl dX12_known_12 ?_
    refine j_icmp_le (tgt := 20) hE hf dX12_known_15 (by decide) (fun c2 hf => ?_) (fun c2 hf => ?_)
    · refine j_aload_n hE dX12_known_20 rfl 0 rfl ?_
      refine j_iload_n hE dX12_known_21 rfl 1 rfl ?_
      refine j_put (v := .int x1) (ws' := ([n_Mo g a (up2 (up2 mo_z 0 0 0) 39 0 x1) mo_y] : List va_W)) hE lp_Mo_59 0 rfl 0 (wg_Mo_0 g a (up2 mo_z 0 0 0) mo_y) rfl rfl (Nat.le_of_ble_eq_true rfl) (wp_Mo_39 g a (up2 mo_z 0 0 0) mo_y x1) rfl dX12_known_22 ?_
      refine j_iconst (v := 1) hE dX12_known_25 (by decide) ?_
      obtain rfl := Option.some.inj hf
      exact j_zret_c hE (Or.inr rfl) hq rfl rfl dX12_known_26
    · refine j_iconst (v := 0) hE dX12_known_18 (by decide) ?_
      obtain rfl := Option.some.inj hf
      exact j_zret_c hE (Or.inl rfl) hq rfl rfl dX12_known_19
def rm_Mo_knows : Room := { frames := 0, cells := 0, slots := 0, locals := 0 }
def f_Mo_knows_111    : Nat → jZ → Int32 → Int32 → Option (jZ)
  | 0, _, _, _ => none
  | n + 1, mo_z, v1, v2 => (if v1 ≤ v2 then some mo_z
    else (ix v2 150).bind fun _ => (if (mo_z 43 (Int32.toNatClampNeg v2)) = 0 then (ix v2 150).bind fun _ => (if (mo_z 40 (Int32.toNatClampNeg v2)) = (-1) then f_Mo_knows_111  n mo_z v1 (v2 + 1)
    else (ix v2 150).bind fun _ => (ix v2 150).bind fun _ => (ix v2 150).bind fun _ => (ix ((9 * (mo_z 40 (Int32.toNatClampNeg v2))) + (mo_z 41 (Int32.toNatClampNeg v2))) 108).bind fun _ => f_Mo_knows_111  n (up2 mo_z 44 (Int32.toNatClampNeg ((9 * (mo_z 40 (Int32.toNatClampNeg v2))) + (mo_z 41 (Int32.toNatClampNeg v2)))) (mo_z 42 (Int32.toNatClampNeg v2))) v1 (v2 + 1))
    else f_Mo_knows_111  n mo_z v1 (v2 + 1)))
def f_Mo_knows_68    : Nat → jZ → Int32 → Int32 → Option (jZ)
  | 0, _, _, _ => none
  | n + 1, mo_z, v1, v2 => (if v2 < 0 then f_Mo_knows_111 FU mo_z v1 0
    else (ix v2 150).bind fun _ => (if (mo_z 43 (Int32.toNatClampNeg v2)) = 0 then (ix v2 150).bind fun _ => (if (mo_z 40 (Int32.toNatClampNeg v2)) = (-1) then (ix v2 150).bind fun _ => (ix (mo_z 42 (Int32.toNatClampNeg v2)) 150).bind fun _ => f_Mo_knows_68  n (up2 mo_z 43 (Int32.toNatClampNeg (mo_z 42 (Int32.toNatClampNeg v2))) 1) v1 (v2 + (-1))
    else f_Mo_knows_68  n mo_z v1 (v2 + (-1)))
    else f_Mo_knows_68  n mo_z v1 (v2 + (-1))))
def f_Mo_knows_46    : Nat → jZ → Int32 → Int32 → Option (jZ)
  | 0, _, _, _ => none
  | n + 1, mo_z, v1, v2 => (if v1 ≤ v2 then f_Mo_knows_68 FU mo_z v1 (v1 - 1)
    else (ix v2 150).bind fun _ => f_Mo_knows_46  n (up2 mo_z 43 (Int32.toNatClampNeg v2) 0) v1 (v2 + 1))
def f_Mo_knows_22    : Nat → jZ → Int32 → Int32 → Option (jZ)
  | 0, _, _, _ => none
  | n + 1, mo_z, v1, v2 => (if 108 ≤ v2 then f_Mo_knows_46 FU mo_z v1 0
    else (ix v2 108).bind fun _ => f_Mo_knows_22  n (up2 mo_z 44 (Int32.toNatClampNeg v2) (-1)) v1 (v2 + 1))
def f_Mo_knows (mo_z : jZ)  : Option (jZ) := (if (mo_z 39 0) = (-1) then f_Mo_knows_22 FU mo_z (mo_z 38 0) 0
    else f_Mo_knows_22 FU mo_z (mo_z 39 0) 0)
set_option maxRecDepth 100000 in
theorem j_Mo_knows_111 (E : jT) (g : jG) (a : Nat → Nat) (mo_y : jY)  (res : jZ) (hE : jOk E g RX12 cX12_knows 3 (none : Option Jvm.ClassFile.FieldType) rm_Mo_knows) (hq : jEnd E g none (([n_Mo g a res mo_y] : List va_W)) 0 0)  : ∀ (n : Nat) (mo_z : jZ) (v1 : Int32) (v2 : Int32), f_Mo_knows_111 n mo_z v1 v2 = some res → J E g 0 0 (([n_Mo g a mo_z mo_y] : List va_W)) [(0, .ref (a 0)), (1, .int v1), (2, .int v2)] 111 [] := by
  intro n
  induction n with
  | zero =>
    intro mo_z v1 v2 hf
    rw [f_Mo_knows_111] at hf
    cases hf
  | succ n ih =>
    intro mo_z v1 v2 hf
    rw [f_Mo_knows_111] at hf
    refine j_iload_n hE dX12_knows_111 rfl 2 rfl ?_
    refine j_iload_n hE dX12_knows_112 rfl 1 rfl ?_
    refine j_icmp_ge (tgt := 168) hE hf dX12_knows_113 (by decide) (fun c10 hf => ?_) (fun c10 hf => ?_)
    · obtain rfl := Option.some.inj hf
      exact j_vret hE hq rfl rfl dX12_knows_168
    · refine j_aload_n hE dX12_knows_116 rfl 0 rfl ?_
      refine j_get (v := .ref (a 17)) hE lg_Mo_71 0 rfl 0 (wg_Mo_0 g a mo_z mo_y) rfl dX12_knows_117 ?_
      refine j_iload_n hE dX12_knows_120 rfl 2 rfl ?_
      refine j_zald hE hf 0 rfl 17 (wg_Mo_17 g a mo_z mo_y) dX12_knows_121 (fun hf => ?_)
      refine j_if_ne (tgt := 162) hE hf dX12_knows_122 (by decide) (fun c12 hf => ?_) (fun c12 hf => ?_)
      · refine j_iinc (v := (v2 + 1)) (lv' := [(2, .int (v2 + 1)), (0, .ref (a 0)), (1, .int v1)]) hE dX12_knows_162 2 rfl rfl (by decide) rfl ?_
        refine j_goto (tgt := 111) hE dX12_knows_165 (by decide) ?_
        exact j_sub [1, 2, 0] rfl (ih mo_z v1 (v2 + 1) hf)
      · refine j_aload_n hE dX12_knows_125 rfl 0 rfl ?_
        refine j_get (v := .ref (a 14)) hE lg_Mo_62 0 rfl 0 (wg_Mo_0 g a mo_z mo_y) rfl dX12_knows_126 ?_
        refine j_iload_n hE dX12_knows_129 rfl 2 rfl ?_
        refine j_iald hE hf 0 rfl 14 (wg_Mo_14 g a mo_z mo_y) dX12_knows_130 (fun hf => ?_)
        refine j_iconst (v := (-1)) hE dX12_knows_131 (by decide) ?_
        refine j_icmp_eq (tgt := 162) hE hf dX12_knows_132 (by decide) (fun c14 hf => ?_) (fun c14 hf => ?_)
        · refine j_iinc (v := (v2 + 1)) (lv' := [(2, .int (v2 + 1)), (0, .ref (a 0)), (1, .int v1)]) hE dX12_knows_162 2 rfl rfl (by decide) rfl ?_
          refine j_goto (tgt := 111) hE dX12_knows_165 (by decide) ?_
          exact j_sub [1, 2, 0] rfl (ih mo_z v1 (v2 + 1) hf)
        · refine j_aload_n hE dX12_knows_135 rfl 0 rfl ?_
          refine j_get (v := .ref (a 18)) hE lg_Mo_74 0 rfl 0 (wg_Mo_0 g a mo_z mo_y) rfl dX12_knows_136 ?_
          refine j_bipush (v := 9) hE dX12_knows_139 (by decide) ?_
          refine j_aload_n hE dX12_knows_141 rfl 0 rfl ?_
          refine j_get (v := .ref (a 14)) hE lg_Mo_62 0 rfl 0 (wg_Mo_0 g a mo_z mo_y) rfl dX12_knows_142 ?_
          refine j_iload_n hE dX12_knows_145 rfl 2 rfl ?_
          refine j_iald hE hf 0 rfl 14 (wg_Mo_14 g a mo_z mo_y) dX12_knows_146 (fun hf => ?_)
          refine j_imul hE dX12_knows_147 ?_
          refine j_aload_n hE dX12_knows_148 rfl 0 rfl ?_
          refine j_get (v := .ref (a 15)) hE lg_Mo_65 0 rfl 0 (wg_Mo_0 g a mo_z mo_y) rfl dX12_knows_149 ?_
          refine j_iload_n hE dX12_knows_152 rfl 2 rfl ?_
          refine j_iald hE hf 0 rfl 15 (wg_Mo_15 g a mo_z mo_y) dX12_knows_153 (fun hf => ?_)
          refine j_iadd hE dX12_knows_154 ?_
          refine j_aload_n hE dX12_knows_155 rfl 0 rfl ?_
          refine j_get (v := .ref (a 16)) hE lg_Mo_68 0 rfl 0 (wg_Mo_0 g a mo_z mo_y) rfl dX12_knows_156 ?_
          refine j_iload_n hE dX12_knows_159 rfl 2 rfl ?_
          refine j_iald hE hf 0 rfl 16 (wg_Mo_16 g a mo_z mo_y) dX12_knows_160 (fun hf => ?_)
          refine j_iast (ws' := ([n_Mo g a (up2 mo_z 44 (Int32.toNatClampNeg ((9 * (mo_z 40 (Int32.toNatClampNeg v2))) + (mo_z 41 (Int32.toNatClampNeg v2)))) (mo_z 42 (Int32.toNatClampNeg v2))) mo_y] : List va_W)) hE hf 0 rfl 18 (wg_Mo_18 g a mo_z mo_y) (wa_Mo_18 g a mo_z mo_y (Int32.toNatClampNeg ((9 * (mo_z 40 (Int32.toNatClampNeg v2))) + (mo_z 41 (Int32.toNatClampNeg v2)))) (mo_z 42 (Int32.toNatClampNeg v2))) rfl dX12_knows_161 (fun hf => ?_)
          refine j_iinc (v := (v2 + 1)) (lv' := [(2, .int (v2 + 1)), (0, .ref (a 0)), (1, .int v1)]) hE dX12_knows_162 2 rfl rfl (by decide) rfl ?_
          refine j_goto (tgt := 111) hE dX12_knows_165 (by decide) ?_
          exact j_sub [1, 2, 0] rfl (ih (up2 mo_z 44 (Int32.toNatClampNeg ((9 * (mo_z 40 (Int32.toNatClampNeg v2))) + (mo_z 41 (Int32.toNatClampNeg v2)))) (mo_z 42 (Int32.toNatClampNeg v2))) v1 (v2 + 1) hf)
set_option maxRecDepth 100000 in
theorem j_Mo_knows_68 (E : jT) (g : jG) (a : Nat → Nat) (mo_y : jY)  (res : jZ) (hE : jOk E g RX12 cX12_knows 3 (none : Option Jvm.ClassFile.FieldType) rm_Mo_knows) (hq : jEnd E g none (([n_Mo g a res mo_y] : List va_W)) 0 0)  : ∀ (n : Nat) (mo_z : jZ) (v1 : Int32) (v2 : Int32), f_Mo_knows_68 n mo_z v1 v2 = some res → J E g 0 0 (([n_Mo g a mo_z mo_y] : List va_W)) [(0, .ref (a 0)), (1, .int v1), (2, .int v2)] 68 [] := by
  intro n
  induction n with
  | zero =>
    intro mo_z v1 v2 hf
    rw [f_Mo_knows_68] at hf
    cases hf
  | succ n ih =>
    intro mo_z v1 v2 hf
    rw [f_Mo_knows_68] at hf
    refine j_iload_n hE dX12_knows_68 rfl 2 rfl ?_
    refine j_if_lt (tgt := 109) hE hf dX12_knows_69 (by decide) (fun c4 hf => ?_) (fun c4 hf => ?_)
    · refine j_iconst (v := 0) hE dX12_knows_109 (by decide) ?_
      refine j_istore_n (lv' := [(2, .int 0), (0, .ref (a 0)), (1, .int v1)]) hE dX12_knows_110 rfl (by decide) rfl ?_
      exact j_sub [1, 2, 0] rfl (j_Mo_knows_111 E g a mo_y res hE hq FU mo_z v1 0 hf)
    · refine j_aload_n hE dX12_knows_72 rfl 0 rfl ?_
      refine j_get (v := .ref (a 17)) hE lg_Mo_71 0 rfl 0 (wg_Mo_0 g a mo_z mo_y) rfl dX12_knows_73 ?_
      refine j_iload_n hE dX12_knows_76 rfl 2 rfl ?_
      refine j_zald hE hf 0 rfl 17 (wg_Mo_17 g a mo_z mo_y) dX12_knows_77 (fun hf => ?_)
      refine j_if_ne (tgt := 103) hE hf dX12_knows_78 (by decide) (fun c6 hf => ?_) (fun c6 hf => ?_)
      · refine j_iinc (v := (v2 + (-1))) (lv' := [(2, .int (v2 + (-1))), (0, .ref (a 0)), (1, .int v1)]) hE dX12_knows_103 2 rfl rfl (by decide) rfl ?_
        refine j_goto (tgt := 68) hE dX12_knows_106 (by decide) ?_
        exact j_sub [1, 2, 0] rfl (ih mo_z v1 (v2 + (-1)) hf)
      · refine j_aload_n hE dX12_knows_81 rfl 0 rfl ?_
        refine j_get (v := .ref (a 14)) hE lg_Mo_62 0 rfl 0 (wg_Mo_0 g a mo_z mo_y) rfl dX12_knows_82 ?_
        refine j_iload_n hE dX12_knows_85 rfl 2 rfl ?_
        refine j_iald hE hf 0 rfl 14 (wg_Mo_14 g a mo_z mo_y) dX12_knows_86 (fun hf => ?_)
        refine j_iconst (v := (-1)) hE dX12_knows_87 (by decide) ?_
        refine j_icmp_ne (tgt := 103) hE hf dX12_knows_88 (by decide) (fun c8 hf => ?_) (fun c8 hf => ?_)
        · refine j_iinc (v := (v2 + (-1))) (lv' := [(2, .int (v2 + (-1))), (0, .ref (a 0)), (1, .int v1)]) hE dX12_knows_103 2 rfl rfl (by decide) rfl ?_
          refine j_goto (tgt := 68) hE dX12_knows_106 (by decide) ?_
          exact j_sub [1, 2, 0] rfl (ih mo_z v1 (v2 + (-1)) hf)
        · refine j_aload_n hE dX12_knows_91 rfl 0 rfl ?_
          refine j_get (v := .ref (a 17)) hE lg_Mo_71 0 rfl 0 (wg_Mo_0 g a mo_z mo_y) rfl dX12_knows_92 ?_
          refine j_aload_n hE dX12_knows_95 rfl 0 rfl ?_
          refine j_get (v := .ref (a 16)) hE lg_Mo_68 0 rfl 0 (wg_Mo_0 g a mo_z mo_y) rfl dX12_knows_96 ?_
          refine j_iload_n hE dX12_knows_99 rfl 2 rfl ?_
          refine j_iald hE hf 0 rfl 16 (wg_Mo_16 g a mo_z mo_y) dX12_knows_100 (fun hf => ?_)
          refine j_iconst (v := 1) hE dX12_knows_101 (by decide) ?_
          refine j_zast (ws' := ([n_Mo g a (up2 mo_z 43 (Int32.toNatClampNeg (mo_z 42 (Int32.toNatClampNeg v2))) 1) mo_y] : List va_W)) hE hf 0 rfl 17 (wg_Mo_17 g a mo_z mo_y) (wa_Mo_17 g a mo_z mo_y (Int32.toNatClampNeg (mo_z 42 (Int32.toNatClampNeg v2))) 1) rfl dX12_knows_102 (fun hf => ?_)
          refine j_iinc (v := (v2 + (-1))) (lv' := [(2, .int (v2 + (-1))), (0, .ref (a 0)), (1, .int v1)]) hE dX12_knows_103 2 rfl rfl (by decide) rfl ?_
          refine j_goto (tgt := 68) hE dX12_knows_106 (by decide) ?_
          exact j_sub [1, 2, 0] rfl (ih (up2 mo_z 43 (Int32.toNatClampNeg (mo_z 42 (Int32.toNatClampNeg v2))) 1) v1 (v2 + (-1)) hf)
set_option maxRecDepth 100000 in
theorem j_Mo_knows_46 (E : jT) (g : jG) (a : Nat → Nat) (mo_y : jY)  (res : jZ) (hE : jOk E g RX12 cX12_knows 3 (none : Option Jvm.ClassFile.FieldType) rm_Mo_knows) (hq : jEnd E g none (([n_Mo g a res mo_y] : List va_W)) 0 0)  : ∀ (n : Nat) (mo_z : jZ) (v1 : Int32) (v2 : Int32), f_Mo_knows_46 n mo_z v1 v2 = some res → J E g 0 0 (([n_Mo g a mo_z mo_y] : List va_W)) [(0, .ref (a 0)), (1, .int v1), (2, .int v2)] 46 [] := by
  intro n
  induction n with
  | zero =>
    intro mo_z v1 v2 hf
    rw [f_Mo_knows_46] at hf
    cases hf
  | succ n ih =>
    intro mo_z v1 v2 hf
    rw [f_Mo_knows_46] at hf
    refine j_iload_n hE dX12_knows_46 rfl 2 rfl ?_
    refine j_iload_n hE dX12_knows_47 rfl 1 rfl ?_
    refine j_icmp_ge (tgt := 64) hE hf dX12_knows_48 (by decide) (fun c3 hf => ?_) (fun c3 hf => ?_)
    · refine j_iload_n hE dX12_knows_64 rfl 1 rfl ?_
      refine j_iconst (v := 1) hE dX12_knows_65 (by decide) ?_
      refine j_isub hE dX12_knows_66 ?_
      refine j_istore_n (lv' := [(2, .int (v1 - 1)), (0, .ref (a 0)), (1, .int v1)]) hE dX12_knows_67 rfl (by decide) rfl ?_
      exact j_sub [1, 2, 0] rfl (j_Mo_knows_68 E g a mo_y res hE hq FU mo_z v1 (v1 - 1) hf)
    · refine j_aload_n hE dX12_knows_51 rfl 0 rfl ?_
      refine j_get (v := .ref (a 17)) hE lg_Mo_71 0 rfl 0 (wg_Mo_0 g a mo_z mo_y) rfl dX12_knows_52 ?_
      refine j_iload_n hE dX12_knows_55 rfl 2 rfl ?_
      refine j_iconst (v := 0) hE dX12_knows_56 (by decide) ?_
      refine j_zast (ws' := ([n_Mo g a (up2 mo_z 43 (Int32.toNatClampNeg v2) 0) mo_y] : List va_W)) hE hf 0 rfl 17 (wg_Mo_17 g a mo_z mo_y) (wa_Mo_17 g a mo_z mo_y (Int32.toNatClampNeg v2) 0) rfl dX12_knows_57 (fun hf => ?_)
      refine j_iinc (v := (v2 + 1)) (lv' := [(2, .int (v2 + 1)), (0, .ref (a 0)), (1, .int v1)]) hE dX12_knows_58 2 rfl rfl (by decide) rfl ?_
      refine j_goto (tgt := 46) hE dX12_knows_61 (by decide) ?_
      exact j_sub [1, 2, 0] rfl (ih (up2 mo_z 43 (Int32.toNatClampNeg v2) 0) v1 (v2 + 1) hf)
set_option maxRecDepth 100000 in
theorem j_Mo_knows_22 (E : jT) (g : jG) (a : Nat → Nat) (mo_y : jY)  (res : jZ) (hE : jOk E g RX12 cX12_knows 3 (none : Option Jvm.ClassFile.FieldType) rm_Mo_knows) (hq : jEnd E g none (([n_Mo g a res mo_y] : List va_W)) 0 0)  : ∀ (n : Nat) (mo_z : jZ) (v1 : Int32) (v2 : Int32), f_Mo_knows_22 n mo_z v1 v2 = some res → J E g 0 0 (([n_Mo g a mo_z mo_y] : List va_W)) [(0, .ref (a 0)), (1, .int v1), (2, .int v2)] 22 [] := by
  intro n
  induction n with
  | zero =>
    intro mo_z v1 v2 hf
    rw [f_Mo_knows_22] at hf
    cases hf
  | succ n ih =>
    intro mo_z v1 v2 hf
    rw [f_Mo_knows_22] at hf
    refine j_iload_n hE dX12_knows_22 rfl 2 rfl ?_
    refine j_aload_n hE dX12_knows_23 rfl 0 rfl ?_
    refine j_get (v := .ref (a 18)) hE lg_Mo_74 0 rfl 0 (wg_Mo_0 g a mo_z mo_y) rfl dX12_knows_24 ?_
    refine j_alen (v := 108) (t0 := 1) hE 0 rfl 18 (wg_Mo_18 g a mo_z mo_y) rfl rfl dX12_knows_27 ?_
    refine j_icmp_ge (tgt := 44) hE hf dX12_knows_28 (by decide) (fun c2 hf => ?_) (fun c2 hf => ?_)
    · refine j_iconst (v := 0) hE dX12_knows_44 (by decide) ?_
      refine j_istore_n (lv' := [(2, .int 0), (0, .ref (a 0)), (1, .int v1)]) hE dX12_knows_45 rfl (by decide) rfl ?_
      exact j_sub [1, 2, 0] rfl (j_Mo_knows_46 E g a mo_y res hE hq FU mo_z v1 0 hf)
    · refine j_aload_n hE dX12_knows_31 rfl 0 rfl ?_
      refine j_get (v := .ref (a 18)) hE lg_Mo_74 0 rfl 0 (wg_Mo_0 g a mo_z mo_y) rfl dX12_knows_32 ?_
      refine j_iload_n hE dX12_knows_35 rfl 2 rfl ?_
      refine j_iconst (v := (-1)) hE dX12_knows_36 (by decide) ?_
      refine j_iast (ws' := ([n_Mo g a (up2 mo_z 44 (Int32.toNatClampNeg v2) (-1)) mo_y] : List va_W)) hE hf 0 rfl 18 (wg_Mo_18 g a mo_z mo_y) (wa_Mo_18 g a mo_z mo_y (Int32.toNatClampNeg v2) (-1)) rfl dX12_knows_37 (fun hf => ?_)
      refine j_iinc (v := (v2 + 1)) (lv' := [(2, .int (v2 + 1)), (0, .ref (a 0)), (1, .int v1)]) hE dX12_knows_38 2 rfl rfl (by decide) rfl ?_
      refine j_goto (tgt := 22) hE dX12_knows_41 (by decide) ?_
      exact j_sub [1, 2, 0] rfl (ih (up2 mo_z 44 (Int32.toNatClampNeg v2) (-1)) v1 (v2 + 1) hf)
set_option maxRecDepth 100000 in
theorem c_Mo_knows (l : Launch) (g : jG) (a : Nat → Nat) (mo_z : jZ) (mo_y : jY)  (res : jZ) (hf : f_Mo_knows mo_z = some res) : MC l g yX12_knows cX12_knows 3 (none : Option Jvm.ClassFile.FieldType) rm_Mo_knows [.ref (a 0)] (([n_Mo g a mo_z mo_y] : List va_W)) none (([n_Mo g a res mo_y] : List va_W)) 0 0 := by
  refine MC_of (own := RX12) (lv := [(0, .ref (a 0))]) (by decide) rfl (Nat.le_of_ble_eq_true rfl) rfl rfl (fun E hE hq => ?_)
  unfold f_Mo_knows at hf
  refine j_aload_n hE dX12_knows_0 rfl 0 rfl ?_
  refine j_get (v := .int (mo_z 39 0)) hE lg_Mo_59 0 rfl 0 (wg_Mo_0 g a mo_z mo_y) rfl dX12_knows_1 ?_
  refine j_iconst (v := (-1)) hE dX12_knows_4 (by decide) ?_
  refine j_icmp_ne (tgt := 15) hE hf dX12_knows_5 (by decide) (fun c1 hf => ?_) (fun c1 hf => ?_)
  · refine j_aload_n hE dX12_knows_15 rfl 0 rfl ?_
    refine j_get (v := .int (mo_z 39 0)) hE lg_Mo_59 0 rfl 0 (wg_Mo_0 g a mo_z mo_y) rfl dX12_knows_16 ?_
    refine j_istore_n (lv' := [(1, .int (mo_z 39 0)), (0, .ref (a 0))]) hE dX12_knows_19 rfl (by decide) rfl ?_
    refine j_iconst (v := 0) hE dX12_knows_20 (by decide) ?_
    refine j_istore_n (lv' := [(2, .int 0), (1, .int (mo_z 39 0)), (0, .ref (a 0))]) hE dX12_knows_21 rfl (by decide) rfl ?_
    exact j_sub [2, 1, 0] rfl (j_Mo_knows_22 E g a mo_y res hE hq FU mo_z (mo_z 39 0) 0 hf)
  · refine j_aload_n hE dX12_knows_8 rfl 0 rfl ?_
    refine j_get (v := .int (mo_z 38 0)) hE lg_Mo_249 0 rfl 0 (wg_Mo_0 g a mo_z mo_y) rfl dX12_knows_9 ?_
    refine j_goto (tgt := 19) hE dX12_knows_12 (by decide) ?_
    refine j_istore_n (lv' := [(1, .int (mo_z 38 0)), (0, .ref (a 0))]) hE dX12_knows_19 rfl (by decide) rfl ?_
    refine j_iconst (v := 0) hE dX12_knows_20 (by decide) ?_
    refine j_istore_n (lv' := [(2, .int 0), (1, .int (mo_z 38 0)), (0, .ref (a 0))]) hE dX12_knows_21 rfl (by decide) rfl ?_
    exact j_sub [2, 1, 0] rfl (j_Mo_knows_22 E g a mo_y res hE hq FU mo_z (mo_z 38 0) 0 hf)
def rm_Mo_countOf : Room := { frames := 0, cells := 0, slots := 0, locals := 0 }
def f_Mo_countOf (mo_z : jZ) (x1 : Int32) (x2 : Int32) : Option (Int32) := (if x2 < 0 then some (-1)
    else (if x2 < 9 then (ix ((9 * x1) + x2) 108).bind fun _ => some (mo_z 44 (Int32.toNatClampNeg ((9 * x1) + x2)))
    else some (-1)))
set_option maxRecDepth 100000 in
theorem c_Mo_countOf (l : Launch) (g : jG) (a : Nat → Nat) (mo_z : jZ) (mo_y : jY) (x1 : Int32) (x2 : Int32) (res : Int32) (hf : f_Mo_countOf mo_z x1 x2 = some res) : MC l g yX12_countOf cX12_countOf 3 (some .int) rm_Mo_countOf [.ref (a 0), .int x1, .int x2] (([n_Mo g a mo_z mo_y] : List va_W)) (some (.int res)) (([n_Mo g a mo_z mo_y] : List va_W)) 0 0 := by
  refine MC_of (own := RX12) (lv := [(0, .ref (a 0)), (1, .int x1), (2, .int x2)]) (by decide) rfl (Nat.le_of_ble_eq_true rfl) rfl rfl (fun E hE hq => ?_)
  unfold f_Mo_countOf at hf
  refine j_iload_n hE dX12_countOf_0 rfl 2 rfl ?_
  refine j_if_lt (tgt := 10) hE hf dX12_countOf_1 (by decide) (fun c1 hf => ?_) (fun c1 hf => ?_)
  · refine j_iconst (v := (-1)) hE dX12_countOf_10 (by decide) ?_
    refine j_goto (tgt := 25) hE dX12_countOf_11 (by decide) ?_
    obtain rfl := Option.some.inj hf
    exact j_iret hE hq rfl rfl dX12_countOf_25
  · refine j_iload_n hE dX12_countOf_4 rfl 2 rfl ?_
    refine j_bipush (v := 9) hE dX12_countOf_5 (by decide) ?_
    refine j_icmp_lt (tgt := 14) hE hf dX12_countOf_7 (by decide) (fun c2 hf => ?_) (fun c2 hf => ?_)
    · refine j_aload_n hE dX12_countOf_14 rfl 0 rfl ?_
      refine j_get (v := .ref (a 18)) hE lg_Mo_74 0 rfl 0 (wg_Mo_0 g a mo_z mo_y) rfl dX12_countOf_15 ?_
      refine j_bipush (v := 9) hE dX12_countOf_18 (by decide) ?_
      refine j_iload_n hE dX12_countOf_20 rfl 1 rfl ?_
      refine j_imul hE dX12_countOf_21 ?_
      refine j_iload_n hE dX12_countOf_22 rfl 2 rfl ?_
      refine j_iadd hE dX12_countOf_23 ?_
      refine j_iald hE hf 0 rfl 18 (wg_Mo_18 g a mo_z mo_y) dX12_countOf_24 (fun hf => ?_)
      obtain rfl := Option.some.inj hf
      exact j_iret hE hq rfl rfl dX12_countOf_25
    · refine j_iconst (v := (-1)) hE dX12_countOf_10 (by decide) ?_
      refine j_goto (tgt := 25) hE dX12_countOf_11 (by decide) ?_
      obtain rfl := Option.some.inj hf
      exact j_iret hE hq rfl rfl dX12_countOf_25
def rm_Mo_count : Room := { frames := 1, cells := 0, slots := 0, locals := 22 }
def f_Mo_count (mo_z : jZ) (x1 : Int32) (x2 : Int32) : Option (jZ × Int32) := (f_Mo_knows (up2 mo_z 0 0 0)).bind fun q1 => (f_Mo_isPlace q1 x1).bind fun q3 => (if q3 = 0 then some (q1, (-1))
    else (f_Mo_countOf q1 x1 x2).bind fun q6 => some (q1, q6))
set_option maxRecDepth 100000 in
theorem c_Mo_count (l : Launch) (g : jG) (a : Nat → Nat) (mo_z : jZ) (mo_y : jY) (x1 : Int32) (x2 : Int32) (res : jZ × Int32) (hf : f_Mo_count mo_z x1 x2 = some res) : MC l g yX12_count cX12_count 3 (some .int) rm_Mo_count [.ref (a 0), .int x1, .int x2] (([n_Mo g a mo_z mo_y] : List va_W)) (some (.int res.2)) (([n_Mo g a res.1 mo_y] : List va_W)) 0 0 := by
  refine MC_of (own := RX12) (lv := [(0, .ref (a 0)), (1, .int x1), (2, .int x2)]) (by decide) rfl (Nat.le_of_ble_eq_true rfl) rfl rfl (fun E hE hq => ?_)
  unfold f_Mo_count at hf
  refine j_aload_n hE dX12_count_0 rfl 0 rfl ?_
  refine j_iconst (v := 0) hE dX12_count_1 (by decide) ?_
  refine j_put (v := .int 0) (ws' := ([n_Mo g a (up2 mo_z 0 0 0) mo_y] : List va_W)) hE lp_Mo_87 0 rfl 0 (wg_Mo_0 g a mo_z mo_y) rfl rfl (Nat.le_of_ble_eq_true rfl) (wp_Mo_0 g a mo_z mo_y 0) rfl dX12_count_2 ?_
  refine j_aload_n hE dX12_count_5 rfl 0 rfl ?_
  obtain ⟨q1, hc2, hf⟩ := bind_of hf
  refine j_callV (ws' := ([n_Mo g a q1 mo_y] : List va_W)) (As := []) (rest := []) (st2 := []) hE (fun l => c_Mo_knows l g a (up2 mo_z 0 0 0) mo_y q1 hc2) cd_X12_knows cv_X12_knows ml_Mo_255 rfl rfl rfl (wg_Mo_0 _ _ _ _) ⟨⟨Nat.le_of_ble_eq_true rfl, Nat.le_of_ble_eq_true rfl⟩, ⟨Nat.zero_le _, Nat.zero_le _⟩, rfl, rfl⟩ [0] rfl rfl rfl (Nat.le_of_ble_eq_true rfl) rfl dX12_count_6 ?_
  refine j_aload_n hE dX12_count_9 rfl 0 rfl ?_
  refine j_iload_n hE dX12_count_10 rfl 1 rfl ?_
  obtain ⟨q3, hc4, hf⟩ := bind_of hf
  refine j_callV (ws' := ([n_Mo g a q1 mo_y] : List va_W)) (As := [.int x1]) (rest := []) (st2 := [.int q3]) hE (fun l => c_Mo_isPlace l g a q1 mo_y x1 q3 hc4) cd_X12_isPlace cv_X12_isPlace ml_Mo_252 rfl rfl rfl (wg_Mo_0 _ _ _ _) ⟨⟨Nat.le_of_ble_eq_true rfl, Nat.le_of_ble_eq_true rfl⟩, ⟨Nat.zero_le _, Nat.zero_le _⟩, rfl, rfl⟩ [0] rfl rfl rfl (Nat.le_of_ble_eq_true rfl) rfl dX12_count_11 ?_
  refine j_if_eq (tgt := 26) hE hf dX12_count_14 (by decide) (fun c5 hf => ?_) (fun c5 hf => ?_)
  · refine j_iconst (v := (-1)) hE dX12_count_26 (by decide) ?_
    obtain rfl := Option.some.inj hf
    exact j_iret hE hq rfl rfl dX12_count_27
  · refine j_aload_n hE dX12_count_17 rfl 0 rfl ?_
    refine j_iload_n hE dX12_count_18 rfl 1 rfl ?_
    refine j_iload_n hE dX12_count_19 rfl 2 rfl ?_
    obtain ⟨q6, hc7, hf⟩ := bind_of hf
    refine j_callV (ws' := ([n_Mo g a q1 mo_y] : List va_W)) (As := [.int x1, .int x2]) (rest := []) (st2 := [.int q6]) hE (fun l => c_Mo_countOf l g a q1 mo_y x1 x2 q6 hc7) cd_X12_countOf cv_X12_countOf ml_Mo_258 rfl rfl rfl (wg_Mo_0 _ _ _ _) ⟨⟨Nat.le_of_ble_eq_true rfl, Nat.le_of_ble_eq_true rfl⟩, ⟨Nat.zero_le _, Nat.zero_le _⟩, rfl, rfl⟩ [0] rfl rfl rfl (Nat.le_of_ble_eq_true rfl) rfl dX12_count_20 ?_
    refine j_goto (tgt := 27) hE dX12_count_23 (by decide) ?_
    obtain rfl := Option.some.inj hf
    exact j_iret hE hq rfl rfl dX12_count_27
def rm_Mo_areYears : Room := { frames := 0, cells := 0, slots := 0, locals := 0 }
def f_Mo_areYears  (x0 : Int32) (x1 : Int32) : Option (Int32) := (if x0 < 0 then some 0
    else (if x1 < x0 then some 0
    else (if 9 ≤ x1 then some 0
    else (if 6 ≤ (x1 - x0) then some 0
    else some 1))))
set_option maxRecDepth 100000 in
theorem c_Mo_areYears (l : Launch) (g : jG)   (x0 : Int32) (x1 : Int32) (res : Int32) (hf : f_Mo_areYears x0 x1 = some res) : MC l g yX12_areYears cX12_areYears 2 (some .boolean) rm_Mo_areYears [.int x0, .int x1] (([] : List va_W)) (some (.int res)) (([] : List va_W)) 0 0 := by
  refine MC_of (own := RX12) (lv := [(0, .int x0), (1, .int x1)]) (by decide) rfl (Nat.le_of_ble_eq_true rfl) rfl rfl (fun E hE hq => ?_)
  unfold f_Mo_areYears at hf
  refine j_iload_n hE dX12_areYears_0 rfl 0 rfl ?_
  refine j_if_lt (tgt := 27) hE hf dX12_areYears_1 (by decide) (fun c1 hf => ?_) (fun c1 hf => ?_)
  · refine j_iconst (v := 0) hE dX12_areYears_27 (by decide) ?_
    obtain rfl := Option.some.inj hf
    exact j_zret_c hE (Or.inl rfl) hq rfl rfl dX12_areYears_28
  · refine j_iload_n hE dX12_areYears_4 rfl 1 rfl ?_
    refine j_iload_n hE dX12_areYears_5 rfl 0 rfl ?_
    refine j_icmp_lt (tgt := 27) hE hf dX12_areYears_6 (by decide) (fun c2 hf => ?_) (fun c2 hf => ?_)
    · refine j_iconst (v := 0) hE dX12_areYears_27 (by decide) ?_
      obtain rfl := Option.some.inj hf
      exact j_zret_c hE (Or.inl rfl) hq rfl rfl dX12_areYears_28
    · refine j_iload_n hE dX12_areYears_9 rfl 1 rfl ?_
      refine j_bipush (v := 9) hE dX12_areYears_10 (by decide) ?_
      refine j_icmp_ge (tgt := 27) hE hf dX12_areYears_12 (by decide) (fun c3 hf => ?_) (fun c3 hf => ?_)
      · refine j_iconst (v := 0) hE dX12_areYears_27 (by decide) ?_
        obtain rfl := Option.some.inj hf
        exact j_zret_c hE (Or.inl rfl) hq rfl rfl dX12_areYears_28
      · refine j_iload_n hE dX12_areYears_15 rfl 1 rfl ?_
        refine j_iload_n hE dX12_areYears_16 rfl 0 rfl ?_
        refine j_isub hE dX12_areYears_17 ?_
        refine j_bipush (v := 6) hE dX12_areYears_18 (by decide) ?_
        refine j_icmp_ge (tgt := 27) hE hf dX12_areYears_20 (by decide) (fun c4 hf => ?_) (fun c4 hf => ?_)
        · refine j_iconst (v := 0) hE dX12_areYears_27 (by decide) ?_
          obtain rfl := Option.some.inj hf
          exact j_zret_c hE (Or.inl rfl) hq rfl rfl dX12_areYears_28
        · refine j_iconst (v := 1) hE dX12_areYears_23 (by decide) ?_
          refine j_goto (tgt := 28) hE dX12_areYears_24 (by decide) ?_
          obtain rfl := Option.some.inj hf
          exact j_zret_c hE (Or.inr rfl) hq rfl rfl dX12_areYears_28
def rm_Mo_meanOf : Room := { frames := 0, cells := 0, slots := 0, locals := 0 }
def f_Mo_meanOf_4 (mo_z : jZ) (x1 : Int32)  : Nat → Int32 → Int32 → Option (Int32)
  | 0, _, _ => none
  | n + 1, v2, v3 => (if 10 ≤ v3 then some v2
    else (ix ((10 * x1) + v3) 100).bind fun _ => f_Mo_meanOf_4 mo_z x1 n (v2 + (mo_z 7 (Int32.toNatClampNeg ((10 * x1) + v3)))) (v3 + 1))
def f_Mo_meanOf (mo_z : jZ) (x1 : Int32) : Option (Int32) := f_Mo_meanOf_4 mo_z x1 FU 0 0
set_option maxRecDepth 100000 in
theorem j_Mo_meanOf_4 (E : jT) (g : jG) (a : Nat → Nat) (mo_z : jZ) (mo_y : jY) (x1 : Int32) (res : Int32) (hE : jOk E g RX12 cX12_meanOf 4 (some .int) rm_Mo_meanOf) (hq : jEnd E g (some (.int res)) (([n_Mo g a mo_z mo_y] : List va_W)) 0 0)  : ∀ (n : Nat) (v2 : Int32) (v3 : Int32), f_Mo_meanOf_4 mo_z x1 n v2 v3 = some res → J E g 0 0 (([n_Mo g a mo_z mo_y] : List va_W)) [(0, .ref (a 0)), (1, .int x1), (2, .int v2), (3, .int v3)] 4 [] := by
  intro n
  induction n with
  | zero =>
    intro v2 v3 hf
    rw [f_Mo_meanOf_4] at hf
    cases hf
  | succ n ih =>
    intro v2 v3 hf
    rw [f_Mo_meanOf_4] at hf
    refine j_iload_n hE dX12_meanOf_4 rfl 3 rfl ?_
    refine j_bipush (v := 10) hE dX12_meanOf_5 (by decide) ?_
    refine j_icmp_ge (tgt := 30) hE hf dX12_meanOf_7 (by decide) (fun c1 hf => ?_) (fun c1 hf => ?_)
    · refine j_iload_n hE dX12_meanOf_30 rfl 2 rfl ?_
      obtain rfl := Option.some.inj hf
      exact j_iret hE hq rfl rfl dX12_meanOf_31
    · refine j_iload_n hE dX12_meanOf_10 rfl 2 rfl ?_
      refine j_aload_n hE dX12_meanOf_11 rfl 0 rfl ?_
      refine j_get (v := .ref (a 4)) hE lg_Mo_21 0 rfl 0 (wg_Mo_0 g a mo_z mo_y) rfl dX12_meanOf_12 ?_
      refine j_bipush (v := 10) hE dX12_meanOf_15 (by decide) ?_
      refine j_iload_n hE dX12_meanOf_17 rfl 1 rfl ?_
      refine j_imul hE dX12_meanOf_18 ?_
      refine j_iload_n hE dX12_meanOf_19 rfl 3 rfl ?_
      refine j_iadd hE dX12_meanOf_20 ?_
      refine j_iald hE hf 0 rfl 4 (wg_Mo_4 g a mo_z mo_y) dX12_meanOf_21 (fun hf => ?_)
      refine j_iadd hE dX12_meanOf_22 ?_
      refine j_istore_n (lv' := [(2, .int (v2 + (mo_z 7 (Int32.toNatClampNeg ((10 * x1) + v3))))), (0, .ref (a 0)), (1, .int x1), (3, .int v3)]) hE dX12_meanOf_23 rfl (by decide) rfl ?_
      refine j_iinc (v := (v3 + 1)) (lv' := [(3, .int (v3 + 1)), (2, .int (v2 + (mo_z 7 (Int32.toNatClampNeg ((10 * x1) + v3))))), (0, .ref (a 0)), (1, .int x1)]) hE dX12_meanOf_24 3 rfl rfl (by decide) rfl ?_
      refine j_goto (tgt := 4) hE dX12_meanOf_27 (by decide) ?_
      exact j_sub [2, 3, 1, 0] rfl (ih (v2 + (mo_z 7 (Int32.toNatClampNeg ((10 * x1) + v3)))) (v3 + 1) hf)
set_option maxRecDepth 100000 in
theorem c_Mo_meanOf (l : Launch) (g : jG) (a : Nat → Nat) (mo_z : jZ) (mo_y : jY) (x1 : Int32) (res : Int32) (hf : f_Mo_meanOf mo_z x1 = some res) : MC l g yX12_meanOf cX12_meanOf 4 (some .int) rm_Mo_meanOf [.ref (a 0), .int x1] (([n_Mo g a mo_z mo_y] : List va_W)) (some (.int res)) (([n_Mo g a mo_z mo_y] : List va_W)) 0 0 := by
  refine MC_of (own := RX12) (lv := [(0, .ref (a 0)), (1, .int x1)]) (by decide) rfl (Nat.le_of_ble_eq_true rfl) rfl rfl (fun E hE hq => ?_)
  unfold f_Mo_meanOf at hf
  refine j_iconst (v := 0) hE dX12_meanOf_0 (by decide) ?_
  refine j_istore_n (lv' := [(2, .int 0), (0, .ref (a 0)), (1, .int x1)]) hE dX12_meanOf_1 rfl (by decide) rfl ?_
  refine j_iconst (v := 0) hE dX12_meanOf_2 (by decide) ?_
  refine j_istore_n (lv' := [(3, .int 0), (2, .int 0), (0, .ref (a 0)), (1, .int x1)]) hE dX12_meanOf_3 rfl (by decide) rfl ?_
  exact j_sub [2, 3, 1, 0] rfl (j_Mo_meanOf_4 E g a mo_z mo_y x1 res hE hq FU 0 0 hf)
def rm_Mo_likelyOf : Room := { frames := 1, cells := 0, slots := 0, locals := 22 }
def f_Mo_likelyOf_43 (mo_z : jZ) (x1 : Int32) (x2 : Int32) (x3 : Int32) (x4 : Int32) (k12 : Int64 → Int32 → Option (Int64)) : Nat → Int64 → Int32 → Int32 → Int32 → Int32 → Option (Int64)
  | 0, _, _, _, _, _ => none
  | n + 1, v5, v7, v8, v9, v10 => (if 10 ≤ v10 then k12 (v5 * (Int32.toInt64 v9)) (v7 + 1)
    else (ix ((10 * x1) + v10) 100).bind fun _ => (if (mo_z 7 (Int32.toNatClampNeg ((10 * x1) + v10))) = v8 then f_Mo_likelyOf_43 mo_z x1 x2 x3 x4 k12 n v5 v7 v8 (v9 + 1) (v10 + 1)
    else f_Mo_likelyOf_43 mo_z x1 x2 x3 x4 k12 n v5 v7 v8 (v9 + 0) (v10 + 1)))
def f_Mo_likelyOf_12 (mo_z : jZ) (x1 : Int32) (x2 : Int32) (x3 : Int32) (x4 : Int32)  : Nat → Int64 → Int32 → Option (Int64)
  | 0, _, _ => none
  | n + 1, v5, v7 => (if x4 < v7 then some v5
    else (f_Mo_countOf mo_z x2 v7).bind fun q3 => (if q3 = (-1) then f_Mo_likelyOf_12 mo_z x1 x2 x3 x4 n v5 (v7 + 1)
    else f_Mo_likelyOf_43 mo_z x1 x2 x3 x4 (fun v5 v7 => f_Mo_likelyOf_12 mo_z x1 x2 x3 x4 n v5 v7) FU v5 v7 q3 0 0))
def f_Mo_likelyOf (mo_z : jZ) (x1 : Int32) (x2 : Int32) (x3 : Int32) (x4 : Int32) : Option (Int64) := (ix x1 10).bind fun _ => f_Mo_likelyOf_12 mo_z x1 x2 x3 x4 FU (Int32.toInt64 (mo_z 6 (Int32.toNatClampNeg x1))) x3
set_option maxRecDepth 100000 in
theorem j_Mo_likelyOf_43 (E : jT) (g : jG) (a : Nat → Nat) (mo_z : jZ) (mo_y : jY) (x1 : Int32) (x2 : Int32) (x3 : Int32) (x4 : Int32) (res : Int64) (hE : jOk E g RX12 cX12_likelyOf 11 (some .long) rm_Mo_likelyOf) (hq : jEnd E g (some (.long res)) (([n_Mo g a mo_z mo_y] : List va_W)) 0 0) (k12 : Int64 → Int32 → Option (Int64)) (hk12 : ∀ (v5 : Int64) (v7 : Int32), k12 v5 v7 = some res → J E g 0 0 (([n_Mo g a mo_z mo_y] : List va_W)) [(0, .ref (a 0)), (1, .int x1), (2, .int x2), (4, .int x4), (5, .long v5), (7, .int v7)] 12 []) : ∀ (n : Nat) (v5 : Int64) (v7 : Int32) (v8 : Int32) (v9 : Int32) (v10 : Int32), f_Mo_likelyOf_43 mo_z x1 x2 x3 x4 k12 n v5 v7 v8 v9 v10 = some res → J E g 0 0 (([n_Mo g a mo_z mo_y] : List va_W)) [(0, .ref (a 0)), (1, .int x1), (2, .int x2), (4, .int x4), (5, .long v5), (7, .int v7), (8, .int v8), (9, .int v9), (10, .int v10)] 43 [] := by
  intro n
  induction n with
  | zero =>
    intro v5 v7 v8 v9 v10 hf
    rw [f_Mo_likelyOf_43] at hf
    cases hf
  | succ n ih =>
    intro v5 v7 v8 v9 v10 hf
    rw [f_Mo_likelyOf_43] at hf
    refine j_iload hE dX12_likelyOf_43 8 rfl ?_
    refine j_bipush (v := 10) hE dX12_likelyOf_45 (by decide) ?_
    refine j_icmp_ge (tgt := 83) hE hf dX12_likelyOf_47 (by decide) (fun c6 hf => ?_) (fun c6 hf => ?_)
    · refine j_lload hE dX12_likelyOf_83 4 rfl ?_
      refine j_iload hE dX12_likelyOf_85 7 rfl ?_
      refine j_i2l hE dX12_likelyOf_87 ?_
      refine j_lmul hE dX12_likelyOf_88 ?_
      refine j_lstore (lv' := [(5, .long (v5 * (Int32.toInt64 v9))), (0, .ref (a 0)), (1, .int x1), (2, .int x2), (4, .int x4), (7, .int v7), (8, .int v8), (9, .int v9), (10, .int v10)]) hE dX12_likelyOf_89 (by decide) rfl ?_
      refine j_iinc (v := (v7 + 1)) (lv' := [(7, .int (v7 + 1)), (5, .long (v5 * (Int32.toInt64 v9))), (0, .ref (a 0)), (1, .int x1), (2, .int x2), (4, .int x4), (8, .int v8), (9, .int v9), (10, .int v10)]) hE dX12_likelyOf_91 5 rfl rfl (by decide) rfl ?_
      refine j_goto (tgt := 12) hE dX12_likelyOf_94 (by decide) ?_
      exact j_sub [2, 3, 4, 5, 1, 0] rfl (hk12 (v5 * (Int32.toInt64 v9)) (v7 + 1) hf)
    · refine j_iload hE dX12_likelyOf_50 7 rfl ?_
      refine j_aload_n hE dX12_likelyOf_52 rfl 0 rfl ?_
      refine j_get (v := .ref (a 4)) hE lg_Mo_21 0 rfl 0 (wg_Mo_0 g a mo_z mo_y) rfl dX12_likelyOf_53 ?_
      refine j_bipush (v := 10) hE dX12_likelyOf_56 (by decide) ?_
      refine j_iload_n hE dX12_likelyOf_58 rfl 1 rfl ?_
      refine j_imul hE dX12_likelyOf_59 ?_
      refine j_iload hE dX12_likelyOf_60 8 rfl ?_
      refine j_iadd hE dX12_likelyOf_62 ?_
      refine j_iald hE hf 0 rfl 4 (wg_Mo_4 g a mo_z mo_y) dX12_likelyOf_63 (fun hf => ?_)
      refine j_iload hE dX12_likelyOf_64 6 rfl ?_
      refine j_icmp_ne (tgt := 73) hE hf dX12_likelyOf_66 (by decide) (fun c8 hf => ?_) (fun c8 hf => ?_)
      · refine j_iconst (v := 0) hE dX12_likelyOf_73 (by decide) ?_
        refine j_iadd hE dX12_likelyOf_74 ?_
        refine j_istore (lv' := [(9, .int (v9 + 0)), (0, .ref (a 0)), (1, .int x1), (2, .int x2), (4, .int x4), (5, .long v5), (7, .int v7), (8, .int v8), (10, .int v10)]) hE dX12_likelyOf_75 (by decide) rfl ?_
        refine j_iinc (v := (v10 + 1)) (lv' := [(10, .int (v10 + 1)), (9, .int (v9 + 0)), (0, .ref (a 0)), (1, .int x1), (2, .int x2), (4, .int x4), (5, .long v5), (7, .int v7), (8, .int v8)]) hE dX12_likelyOf_77 8 rfl rfl (by decide) rfl ?_
        refine j_goto (tgt := 43) hE dX12_likelyOf_80 (by decide) ?_
        exact j_sub [2, 3, 4, 5, 6, 7, 8, 1, 0] rfl (ih v5 v7 v8 (v9 + 0) (v10 + 1) hf)
      · refine j_iconst (v := 1) hE dX12_likelyOf_69 (by decide) ?_
        refine j_goto (tgt := 74) hE dX12_likelyOf_70 (by decide) ?_
        refine j_iadd hE dX12_likelyOf_74 ?_
        refine j_istore (lv' := [(9, .int (v9 + 1)), (0, .ref (a 0)), (1, .int x1), (2, .int x2), (4, .int x4), (5, .long v5), (7, .int v7), (8, .int v8), (10, .int v10)]) hE dX12_likelyOf_75 (by decide) rfl ?_
        refine j_iinc (v := (v10 + 1)) (lv' := [(10, .int (v10 + 1)), (9, .int (v9 + 1)), (0, .ref (a 0)), (1, .int x1), (2, .int x2), (4, .int x4), (5, .long v5), (7, .int v7), (8, .int v8)]) hE dX12_likelyOf_77 8 rfl rfl (by decide) rfl ?_
        refine j_goto (tgt := 43) hE dX12_likelyOf_80 (by decide) ?_
        exact j_sub [2, 3, 4, 5, 6, 7, 8, 1, 0] rfl (ih v5 v7 v8 (v9 + 1) (v10 + 1) hf)
set_option maxRecDepth 100000 in
theorem j_Mo_likelyOf_12 (E : jT) (g : jG) (a : Nat → Nat) (mo_z : jZ) (mo_y : jY) (x1 : Int32) (x2 : Int32) (x3 : Int32) (x4 : Int32) (res : Int64) (hE : jOk E g RX12 cX12_likelyOf 11 (some .long) rm_Mo_likelyOf) (hq : jEnd E g (some (.long res)) (([n_Mo g a mo_z mo_y] : List va_W)) 0 0)  : ∀ (n : Nat) (v5 : Int64) (v7 : Int32), f_Mo_likelyOf_12 mo_z x1 x2 x3 x4 n v5 v7 = some res → J E g 0 0 (([n_Mo g a mo_z mo_y] : List va_W)) [(0, .ref (a 0)), (1, .int x1), (2, .int x2), (4, .int x4), (5, .long v5), (7, .int v7)] 12 [] := by
  intro n
  induction n with
  | zero =>
    intro v5 v7 hf
    rw [f_Mo_likelyOf_12] at hf
    cases hf
  | succ n ih =>
    intro v5 v7 hf
    rw [f_Mo_likelyOf_12] at hf
    refine j_iload hE dX12_likelyOf_12 5 rfl ?_
    refine j_iload hE dX12_likelyOf_14 3 rfl ?_
    refine j_icmp_gt (tgt := 97) hE hf dX12_likelyOf_16 (by decide) (fun c2 hf => ?_) (fun c2 hf => ?_)
    · refine j_lload hE dX12_likelyOf_97 4 rfl ?_
      obtain rfl := Option.some.inj hf
      exact j_lret hE hq rfl rfl dX12_likelyOf_99
    · refine j_aload_n hE dX12_likelyOf_19 rfl 0 rfl ?_
      refine j_iload_n hE dX12_likelyOf_20 rfl 2 rfl ?_
      refine j_iload hE dX12_likelyOf_21 5 rfl ?_
      obtain ⟨q3, hc4, hf⟩ := bind_of hf
      refine j_callV (ws' := ([n_Mo g a mo_z mo_y] : List va_W)) (As := [.int x2, .int v7]) (rest := []) (st2 := [.int q3]) hE (fun l => c_Mo_countOf l g a mo_z mo_y x2 v7 q3 hc4) cd_X12_countOf cv_X12_countOf ml_Mo_258 rfl rfl rfl (wg_Mo_0 _ _ _ _) ⟨⟨Nat.le_of_ble_eq_true rfl, Nat.le_of_ble_eq_true rfl⟩, ⟨Nat.zero_le _, Nat.zero_le _⟩, rfl, rfl⟩ [0] rfl rfl rfl (Nat.le_of_ble_eq_true rfl) rfl dX12_likelyOf_23 ?_
      refine j_istore (lv' := [(8, .int q3), (0, .ref (a 0)), (1, .int x1), (2, .int x2), (4, .int x4), (5, .long v5), (7, .int v7)]) hE dX12_likelyOf_26 (by decide) rfl ?_
      refine j_iload hE dX12_likelyOf_28 0 rfl ?_
      refine j_iconst (v := (-1)) hE dX12_likelyOf_30 (by decide) ?_
      refine j_icmp_ne (tgt := 37) hE hf dX12_likelyOf_31 (by decide) (fun c5 hf => ?_) (fun c5 hf => ?_)
      · refine j_iconst (v := 0) hE dX12_likelyOf_37 (by decide) ?_
        refine j_istore (lv' := [(9, .int 0), (8, .int q3), (0, .ref (a 0)), (1, .int x1), (2, .int x2), (4, .int x4), (5, .long v5), (7, .int v7)]) hE dX12_likelyOf_38 (by decide) rfl ?_
        refine j_iconst (v := 0) hE dX12_likelyOf_40 (by decide) ?_
        refine j_istore (lv' := [(10, .int 0), (9, .int 0), (8, .int q3), (0, .ref (a 0)), (1, .int x1), (2, .int x2), (4, .int x4), (5, .long v5), (7, .int v7)]) hE dX12_likelyOf_41 (by decide) rfl ?_
        exact j_sub [3, 4, 5, 6, 7, 8, 2, 1, 0] rfl (j_Mo_likelyOf_43 E g a mo_z mo_y x1 x2 x3 x4 res hE hq (fun v5 v7 => f_Mo_likelyOf_12 mo_z x1 x2 x3 x4 n v5 v7) (fun v5 v7 hf => ih v5 v7 hf) FU v5 v7 q3 0 0 hf)
      · refine j_goto (tgt := 91) hE dX12_likelyOf_34 (by decide) ?_
        refine j_iinc (v := (v7 + 1)) (lv' := [(7, .int (v7 + 1)), (8, .int q3), (0, .ref (a 0)), (1, .int x1), (2, .int x2), (4, .int x4), (5, .long v5)]) hE dX12_likelyOf_91 6 rfl rfl (by decide) rfl ?_
        refine j_goto (tgt := 12) hE dX12_likelyOf_94 (by decide) ?_
        exact j_sub [2, 3, 4, 5, 6, 0] rfl (ih v5 (v7 + 1) hf)
set_option maxRecDepth 100000 in
theorem c_Mo_likelyOf (l : Launch) (g : jG) (a : Nat → Nat) (mo_z : jZ) (mo_y : jY) (x1 : Int32) (x2 : Int32) (x3 : Int32) (x4 : Int32) (res : Int64) (hf : f_Mo_likelyOf mo_z x1 x2 x3 x4 = some res) : MC l g yX12_likelyOf cX12_likelyOf 11 (some .long) rm_Mo_likelyOf [.ref (a 0), .int x1, .int x2, .int x3, .int x4] (([n_Mo g a mo_z mo_y] : List va_W)) (some (.long res)) (([n_Mo g a mo_z mo_y] : List va_W)) 0 0 := by
  refine MC_of (own := RX12) (lv := [(0, .ref (a 0)), (1, .int x1), (2, .int x2), (3, .int x3), (4, .int x4)]) (by decide) rfl (Nat.le_of_ble_eq_true rfl) rfl rfl (fun E hE hq => ?_)
  unfold f_Mo_likelyOf at hf
  refine j_aload_n hE dX12_likelyOf_0 rfl 0 rfl ?_
  refine j_get (v := .ref (a 3)) hE lg_Mo_18 0 rfl 0 (wg_Mo_0 g a mo_z mo_y) rfl dX12_likelyOf_1 ?_
  refine j_iload_n hE dX12_likelyOf_4 rfl 1 rfl ?_
  refine j_iald hE hf 0 rfl 3 (wg_Mo_3 g a mo_z mo_y) dX12_likelyOf_5 (fun hf => ?_)
  refine j_i2l hE dX12_likelyOf_6 ?_
  refine j_lstore (lv' := [(5, .long (Int32.toInt64 (mo_z 6 (Int32.toNatClampNeg x1)))), (0, .ref (a 0)), (1, .int x1), (2, .int x2), (3, .int x3), (4, .int x4)]) hE dX12_likelyOf_7 (by decide) rfl ?_
  refine j_iload_n hE dX12_likelyOf_9 rfl 4 rfl ?_
  refine j_istore (lv' := [(7, .int x3), (5, .long (Int32.toInt64 (mo_z 6 (Int32.toNatClampNeg x1)))), (0, .ref (a 0)), (1, .int x1), (2, .int x2), (3, .int x3), (4, .int x4)]) hE dX12_likelyOf_10 (by decide) rfl ?_
  exact j_sub [2, 3, 4, 6, 1, 0] rfl (j_Mo_likelyOf_12 E g a mo_z mo_y x1 x2 x3 x4 res hE hq FU (Int32.toInt64 (mo_z 6 (Int32.toNatClampNeg x1))) x3 hf)
def rm_Mo_terms : Room := { frames := 1, cells := 0, slots := 0, locals := 21 }
def f_Mo_terms_49  (x1 : Int64) (x3 : Int64)  (mo_y : jY) (v5 : Int64) (s0 : Int64) : Option (jY) := (if (lg_cmp x3 0) = 0 then some (up2 (up2 mo_y 45 0 s0) 46 0 0)
    else (nzl v5).bind fun _ => some (up2 (up2 mo_y 45 0 s0) 46 0 (x3 / v5)))
def f_Mo_terms_9  (x1 : Int64) (x3 : Int64)  : Nat → jY → Int64 → Int64 → Option (jY)
  | 0, _, _, _ => none
  | n + 1, mo_y, v5, v7 => (if (lg_cmp v7 0) = 0 then (if (lg_cmp x3 0) = 0 then f_Mo_terms_49 x1 x3 mo_y v5 0
    else (nzl v5).bind fun _ => f_Mo_terms_49 x1 x3 mo_y v5 (x1 / v5))
    else (nzl v7).bind fun _ => f_Mo_terms_9 x1 x3 n mo_y v7 (v5 - v5 / v7 * v7))
def f_Mo_terms (mo_y : jY) (x1 : Int64) (x3 : Int64) : Option (jY) := f_Mo_terms_9 x1 x3 FU mo_y (if 0 < x1 then x1 else -x1) x3
set_option maxRecDepth 100000 in
theorem j_Mo_terms_49 (E : jT) (g : jG) (a : Nat → Nat) (mo_z : jZ) (x1 : Int64) (x3 : Int64) (res : jY) (hE : jOk E g RX12 cX12_terms 11 (none : Option Jvm.ClassFile.FieldType) rm_Mo_terms) (hq : jEnd E g none (([n_Mo g a mo_z res] : List va_W)) 0 0)  (mo_y : jY) (v5 : Int64) (s0 : Int64) (hf : f_Mo_terms_49 x1 x3 mo_y v5 s0 = some res) : J E g 0 0 (([n_Mo g a mo_z mo_y] : List va_W)) [(0, .ref (a 0)), (3, .long x3), (5, .long v5)] 49 [.long s0, .ref (a 0)] := by
  unfold f_Mo_terms_49 at hf
  refine j_put (v := .long s0) (ws' := ([n_Mo g a mo_z (up2 mo_y 45 0 s0)] : List va_W)) hE lp_Mo_267 0 rfl 0 (wg_Mo_0 g a mo_z mo_y) rfl rfl (Nat.le_of_ble_eq_true rfl) (wp_Mo_45 g a mo_z mo_y s0) rfl dX12_terms_49 ?_
  refine j_aload_n hE dX12_terms_52 rfl 0 rfl ?_
  refine j_lload_n hE dX12_terms_53 rfl 1 rfl ?_
  refine j_lconst (v := 0) hE dX12_terms_54 (by decide) ?_
  refine j_lcmp hE dX12_terms_55 ?_
  refine j_if_ne (tgt := 63) hE hf dX12_terms_56 (by decide) (fun c3 hf => ?_) (fun c3 hf => ?_)
  · refine j_lload_n hE dX12_terms_63 rfl 1 rfl ?_
    refine j_lload hE dX12_terms_64 2 rfl ?_
    refine j_ldiv hE hf dX12_terms_66 (fun hf => ?_)
    refine j_put (v := .long (x3 / v5)) (ws' := ([n_Mo g a mo_z (up2 (up2 mo_y 45 0 s0) 46 0 (x3 / v5))] : List va_W)) hE lp_Mo_271 0 rfl 0 (wg_Mo_0 g a mo_z (up2 mo_y 45 0 s0)) rfl rfl (Nat.le_of_ble_eq_true rfl) (wp_Mo_46 g a mo_z (up2 mo_y 45 0 s0) (x3 / v5)) rfl dX12_terms_67 ?_
    obtain rfl := Option.some.inj hf
    exact j_vret hE hq rfl rfl dX12_terms_70
  · refine j_lconst (v := 0) hE dX12_terms_59 (by decide) ?_
    refine j_goto (tgt := 67) hE dX12_terms_60 (by decide) ?_
    refine j_put (v := .long 0) (ws' := ([n_Mo g a mo_z (up2 (up2 mo_y 45 0 s0) 46 0 0)] : List va_W)) hE lp_Mo_271 0 rfl 0 (wg_Mo_0 g a mo_z (up2 mo_y 45 0 s0)) rfl rfl (Nat.le_of_ble_eq_true rfl) (wp_Mo_46 g a mo_z (up2 mo_y 45 0 s0) 0) rfl dX12_terms_67 ?_
    obtain rfl := Option.some.inj hf
    exact j_vret hE hq rfl rfl dX12_terms_70
set_option maxRecDepth 100000 in
theorem j_Mo_terms_9 (E : jT) (g : jG) (a : Nat → Nat) (mo_z : jZ) (x1 : Int64) (x3 : Int64) (res : jY) (hE : jOk E g RX12 cX12_terms 11 (none : Option Jvm.ClassFile.FieldType) rm_Mo_terms) (hq : jEnd E g none (([n_Mo g a mo_z res] : List va_W)) 0 0)  : ∀ (n : Nat) (mo_y : jY) (v5 : Int64) (v7 : Int64), f_Mo_terms_9 x1 x3 n mo_y v5 v7 = some res → J E g 0 0 (([n_Mo g a mo_z mo_y] : List va_W)) [(0, .ref (a 0)), (1, .long x1), (3, .long x3), (5, .long v5), (7, .long v7)] 9 [] := by
  intro n
  induction n with
  | zero =>
    intro mo_y v5 v7 hf
    rw [f_Mo_terms_9] at hf
    cases hf
  | succ n ih =>
    intro mo_y v5 v7 hf
    rw [f_Mo_terms_9] at hf
    refine j_lload hE dX12_terms_9 4 rfl ?_
    refine j_lconst (v := 0) hE dX12_terms_11 (by decide) ?_
    refine j_lcmp hE dX12_terms_12 ?_
    refine j_if_eq (tgt := 34) hE hf dX12_terms_13 (by decide) (fun c1 hf => ?_) (fun c1 hf => ?_)
    · refine j_aload_n hE dX12_terms_34 rfl 0 rfl ?_
      refine j_lload_n hE dX12_terms_35 rfl 2 rfl ?_
      refine j_lconst (v := 0) hE dX12_terms_36 (by decide) ?_
      refine j_lcmp hE dX12_terms_37 ?_
      refine j_if_ne (tgt := 45) hE hf dX12_terms_38 (by decide) (fun c2 hf => ?_) (fun c2 hf => ?_)
      · refine j_lload_n hE dX12_terms_45 rfl 1 rfl ?_
        refine j_lload hE dX12_terms_46 3 rfl ?_
        refine j_ldiv hE hf dX12_terms_48 (fun hf => ?_)
        exact j_sub [0, 2, 3] rfl (j_Mo_terms_49 E g a mo_z x1 x3 res hE hq mo_y v5 (x1 / v5) hf)
      · refine j_lconst (v := 0) hE dX12_terms_41 (by decide) ?_
        refine j_goto (tgt := 49) hE dX12_terms_42 (by decide) ?_
        exact j_sub [0, 2, 3] rfl (j_Mo_terms_49 E g a mo_z x1 x3 res hE hq mo_y v5 0 hf)
    · refine j_lload hE dX12_terms_16 3 rfl ?_
      refine j_lload hE dX12_terms_18 4 rfl ?_
      refine j_lrem hE hf dX12_terms_20 (fun hf => ?_)
      refine j_lstore (lv' := [(9, .long (v5 - v5 / v7 * v7)), (0, .ref (a 0)), (1, .long x1), (3, .long x3), (5, .long v5), (7, .long v7)]) hE dX12_terms_21 (by decide) rfl ?_
      refine j_lload hE dX12_terms_23 5 rfl ?_
      refine j_lstore (lv' := [(5, .long v7), (9, .long (v5 - v5 / v7 * v7)), (0, .ref (a 0)), (1, .long x1), (3, .long x3), (7, .long v7)]) hE dX12_terms_25 (by decide) rfl ?_
      refine j_lload hE dX12_terms_27 1 rfl ?_
      refine j_lstore (lv' := [(7, .long (v5 - v5 / v7 * v7)), (5, .long v7), (9, .long (v5 - v5 / v7 * v7)), (0, .ref (a 0)), (1, .long x1), (3, .long x3)]) hE dX12_terms_29 (by decide) rfl ?_
      refine j_goto (tgt := 9) hE dX12_terms_31 (by decide) ?_
      exact j_sub [3, 4, 5, 1, 0] rfl (ih mo_y v7 (v5 - v5 / v7 * v7) hf)
set_option maxRecDepth 100000 in
theorem c_Mo_terms (l : Launch) (g : jG) (a : Nat → Nat) (mo_z : jZ) (mo_y : jY) (x1 : Int64) (x3 : Int64) (res : jY) (hf : f_Mo_terms mo_y x1 x3 = some res) : MC l g yX12_terms cX12_terms 11 (none : Option Jvm.ClassFile.FieldType) rm_Mo_terms [.ref (a 0), .long x1, .long x3] (([n_Mo g a mo_z mo_y] : List va_W)) none (([n_Mo g a mo_z res] : List va_W)) 0 0 := by
  refine MC_of (own := RX12) (lv := [(0, .ref (a 0)), (1, .long x1), (3, .long x3)]) (by decide) rfl (Nat.le_of_ble_eq_true rfl) rfl rfl (fun E hE hq => ?_)
  unfold f_Mo_terms at hf
  refine j_lload_n hE dX12_terms_0 rfl 1 rfl ?_
  refine j_labs hE fm_labs ml_Mo_261 ⟨⟨Nat.le_of_ble_eq_true rfl, Nat.le_of_ble_eq_true rfl⟩, Nat.zero_le _, Nat.zero_le _⟩ dX12_terms_1 ?_
  refine j_lstore (lv' := [(5, .long (if 0 < x1 then x1 else -x1)), (0, .ref (a 0)), (1, .long x1), (3, .long x3)]) hE dX12_terms_4 (by decide) rfl ?_
  refine j_lload_n hE dX12_terms_6 rfl 3 rfl ?_
  refine j_lstore (lv' := [(7, .long x3), (5, .long (if 0 < x1 then x1 else -x1)), (0, .ref (a 0)), (1, .long x1), (3, .long x3)]) hE dX12_terms_7 (by decide) rfl ?_
  exact j_sub [2, 3, 4, 1, 0] rfl (j_Mo_terms_9 E g a mo_z x1 x3 res hE hq FU mo_y (if 0 < x1 then x1 else -x1) x3 hf)
def rm_Mo_rates : Room := { frames := 2, cells := 0, slots := 0, locals := 52 }
def f_Mo_rates_9 (mo_z : jZ) (x1 : Int32) (x2 : Int32) (x3 : Int32)  : Nat → jY → Int64 → Int64 → Int32 → Option (jY)
  | 0, _, _, _, _ => none
  | n + 1, mo_y, v4, v6, v8 => (if (mo_z 3 0) ≤ v8 then (f_Mo_terms mo_y v4 (10 * v6)).bind fun q2 => some q2
    else (f_Mo_likelyOf mo_z v8 x1 x2 x3).bind fun q4 => (f_Mo_meanOf mo_z v8).bind fun q6 => f_Mo_rates_9 mo_z x1 x2 x3 n mo_y (v4 + (q4 * (Int32.toInt64 q6))) (v6 + q4) (v8 + 1))
def f_Mo_rates (mo_z : jZ) (mo_y : jY) (x1 : Int32) (x2 : Int32) (x3 : Int32) : Option (jY) := f_Mo_rates_9 mo_z x1 x2 x3 FU mo_y 0 0 0
set_option maxRecDepth 100000 in
theorem j_Mo_rates_9 (E : jT) (g : jG) (a : Nat → Nat) (mo_z : jZ) (x1 : Int32) (x2 : Int32) (x3 : Int32) (res : jY) (hE : jOk E g RX12 cX12_rates 11 (none : Option Jvm.ClassFile.FieldType) rm_Mo_rates) (hq : jEnd E g none (([n_Mo g a mo_z res] : List va_W)) 0 0)  : ∀ (n : Nat) (mo_y : jY) (v4 : Int64) (v6 : Int64) (v8 : Int32), f_Mo_rates_9 mo_z x1 x2 x3 n mo_y v4 v6 v8 = some res → J E g 0 0 (([n_Mo g a mo_z mo_y] : List va_W)) [(0, .ref (a 0)), (1, .int x1), (2, .int x2), (3, .int x3), (4, .long v4), (6, .long v6), (8, .int v8)] 9 [] := by
  intro n
  induction n with
  | zero =>
    intro mo_y v4 v6 v8 hf
    rw [f_Mo_rates_9] at hf
    cases hf
  | succ n ih =>
    intro mo_y v4 v6 v8 hf
    rw [f_Mo_rates_9] at hf
    refine j_iload hE dX12_rates_9 6 rfl ?_
    refine j_aload_n hE dX12_rates_11 rfl 0 rfl ?_
    refine j_get (v := .int (mo_z 3 0)) hE lg_Mo_237 0 rfl 0 (wg_Mo_0 g a mo_z mo_y) rfl dX12_rates_12 ?_
    refine j_icmp_ge (tgt := 57) hE hf dX12_rates_15 (by decide) (fun c1 hf => ?_) (fun c1 hf => ?_)
    · refine j_aload_n hE dX12_rates_57 rfl 0 rfl ?_
      refine j_lload hE dX12_rates_58 4 rfl ?_
      refine j_ldc2 hE co_Mo_282 dX12_rates_60 ?_
      refine j_lload hE dX12_rates_63 5 rfl ?_
      refine j_lmul hE dX12_rates_65 ?_
      obtain ⟨q2, hc3, hf⟩ := bind_of hf
      refine j_callV (ws' := ([n_Mo g a mo_z q2] : List va_W)) (As := [.long v4, .long (10 * v6)]) (rest := []) (st2 := []) hE (fun l => c_Mo_terms l g a mo_z mo_y v4 (10 * v6) q2 hc3) cd_X12_terms cv_X12_terms ml_Mo_284 rfl rfl rfl (wg_Mo_0 _ _ _ _) ⟨⟨Nat.le_of_ble_eq_true rfl, Nat.le_of_ble_eq_true rfl⟩, ⟨Nat.zero_le _, Nat.zero_le _⟩, rfl, rfl⟩ [0] rfl rfl rfl (Nat.le_of_ble_eq_true rfl) rfl dX12_rates_66 ?_
      obtain rfl := Option.some.inj hf
      exact j_vret hE hq rfl rfl dX12_rates_69
    · refine j_aload_n hE dX12_rates_18 rfl 0 rfl ?_
      refine j_iload hE dX12_rates_19 6 rfl ?_
      refine j_iload_n hE dX12_rates_21 rfl 1 rfl ?_
      refine j_iload_n hE dX12_rates_22 rfl 2 rfl ?_
      refine j_iload_n hE dX12_rates_23 rfl 3 rfl ?_
      obtain ⟨q4, hc5, hf⟩ := bind_of hf
      refine j_callV (ws' := ([n_Mo g a mo_z mo_y] : List va_W)) (As := [.int v8, .int x1, .int x2, .int x3]) (rest := []) (st2 := [.long q4]) hE (fun l => c_Mo_likelyOf l g a mo_z mo_y v8 x1 x2 x3 q4 hc5) cd_X12_likelyOf cv_X12_likelyOf ml_Mo_274 rfl rfl rfl (wg_Mo_0 _ _ _ _) ⟨⟨Nat.le_of_ble_eq_true rfl, Nat.le_of_ble_eq_true rfl⟩, ⟨Nat.zero_le _, Nat.zero_le _⟩, rfl, rfl⟩ [0] rfl rfl rfl (Nat.le_of_ble_eq_true rfl) rfl dX12_rates_24 ?_
      refine j_lstore (lv' := [(9, .long q4), (0, .ref (a 0)), (1, .int x1), (2, .int x2), (3, .int x3), (4, .long v4), (6, .long v6), (8, .int v8)]) hE dX12_rates_27 (by decide) rfl ?_
      refine j_lload hE dX12_rates_29 5 rfl ?_
      refine j_lload hE dX12_rates_31 0 rfl ?_
      refine j_aload_n hE dX12_rates_33 rfl 1 rfl ?_
      refine j_iload hE dX12_rates_34 7 rfl ?_
      obtain ⟨q6, hc7, hf⟩ := bind_of hf
      refine j_callV (ws' := ([n_Mo g a mo_z mo_y] : List va_W)) (As := [.int v8]) (rest := [.long q4, .long v4]) (st2 := [.int q6, .long q4, .long v4]) hE (fun l => c_Mo_meanOf l g a mo_z mo_y v8 q6 hc7) cd_X12_meanOf cv_X12_meanOf ml_Mo_278 rfl rfl rfl (wg_Mo_0 _ _ _ _) ⟨⟨Nat.le_of_ble_eq_true rfl, Nat.le_of_ble_eq_true rfl⟩, ⟨Nat.zero_le _, Nat.zero_le _⟩, rfl, rfl⟩ [0] rfl rfl rfl (Nat.le_of_ble_eq_true rfl) rfl dX12_rates_36 ?_
      refine j_i2l hE dX12_rates_39 ?_
      refine j_lmul hE dX12_rates_40 ?_
      refine j_ladd hE dX12_rates_41 ?_
      refine j_lstore (lv' := [(4, .long (v4 + (q4 * (Int32.toInt64 q6)))), (9, .long q4), (0, .ref (a 0)), (1, .int x1), (2, .int x2), (3, .int x3), (6, .long v6), (8, .int v8)]) hE dX12_rates_42 (by decide) rfl ?_
      refine j_lload hE dX12_rates_44 6 rfl ?_
      refine j_lload hE dX12_rates_46 1 rfl ?_
      refine j_ladd hE dX12_rates_48 ?_
      refine j_lstore (lv' := [(6, .long (v6 + q4)), (4, .long (v4 + (q4 * (Int32.toInt64 q6)))), (9, .long q4), (0, .ref (a 0)), (1, .int x1), (2, .int x2), (3, .int x3), (8, .int v8)]) hE dX12_rates_49 (by decide) rfl ?_
      refine j_iinc (v := (v8 + 1)) (lv' := [(8, .int (v8 + 1)), (6, .long (v6 + q4)), (4, .long (v4 + (q4 * (Int32.toInt64 q6)))), (9, .long q4), (0, .ref (a 0)), (1, .int x1), (2, .int x2), (3, .int x3)]) hE dX12_rates_51 7 rfl rfl (by decide) rfl ?_
      refine j_goto (tgt := 9) hE dX12_rates_54 (by decide) ?_
      exact j_sub [4, 5, 6, 7, 2, 1, 0] rfl (ih mo_y (v4 + (q4 * (Int32.toInt64 q6))) (v6 + q4) (v8 + 1) hf)
set_option maxRecDepth 100000 in
theorem c_Mo_rates (l : Launch) (g : jG) (a : Nat → Nat) (mo_z : jZ) (mo_y : jY) (x1 : Int32) (x2 : Int32) (x3 : Int32) (res : jY) (hf : f_Mo_rates mo_z mo_y x1 x2 x3 = some res) : MC l g yX12_rates cX12_rates 11 (none : Option Jvm.ClassFile.FieldType) rm_Mo_rates [.ref (a 0), .int x1, .int x2, .int x3] (([n_Mo g a mo_z mo_y] : List va_W)) none (([n_Mo g a mo_z res] : List va_W)) 0 0 := by
  refine MC_of (own := RX12) (lv := [(0, .ref (a 0)), (1, .int x1), (2, .int x2), (3, .int x3)]) (by decide) rfl (Nat.le_of_ble_eq_true rfl) rfl rfl (fun E hE hq => ?_)
  unfold f_Mo_rates at hf
  refine j_lconst (v := 0) hE dX12_rates_0 (by decide) ?_
  refine j_lstore (lv' := [(4, .long 0), (0, .ref (a 0)), (1, .int x1), (2, .int x2), (3, .int x3)]) hE dX12_rates_1 (by decide) rfl ?_
  refine j_lconst (v := 0) hE dX12_rates_3 (by decide) ?_
  refine j_lstore (lv' := [(6, .long 0), (4, .long 0), (0, .ref (a 0)), (1, .int x1), (2, .int x2), (3, .int x3)]) hE dX12_rates_4 (by decide) rfl ?_
  refine j_iconst (v := 0) hE dX12_rates_6 (by decide) ?_
  refine j_istore (lv' := [(8, .int 0), (6, .long 0), (4, .long 0), (0, .ref (a 0)), (1, .int x1), (2, .int x2), (3, .int x3)]) hE dX12_rates_7 (by decide) rfl ?_
  exact j_sub [3, 4, 5, 6, 2, 1, 0] rfl (j_Mo_rates_9 E g a mo_z x1 x2 x3 res hE hq FU mo_y 0 0 0 hf)
def rm_Mo_likely : Room := { frames := 2, cells := 0, slots := 0, locals := 52 }
def f_Mo_likely (mo_z : jZ) (x1 : Int32) (x2 : Int32) (x3 : Int32) (x4 : Int32) : Option (jZ × Int64) := (if x1 < 0 then some ((up2 mo_z 0 0 0), (-1))
    else (if (mo_z 3 0) ≤ x1 then some ((up2 mo_z 0 0 0), (-1))
    else (f_Mo_isPlace (up2 mo_z 0 0 0) x2).bind fun q3 => (if q3 = 0 then some ((up2 mo_z 0 0 0), (-1))
    else (f_Mo_areYears x3 x4).bind fun q6 => (if q6 = 0 then some ((up2 mo_z 0 0 0), (-1))
    else (f_Mo_knows (up2 mo_z 0 0 0)).bind fun q9 => (f_Mo_likelyOf q9 x1 x2 x3 x4).bind fun q11 => some (q9, q11)))))
set_option maxRecDepth 100000 in
theorem c_Mo_likely (l : Launch) (g : jG) (a : Nat → Nat) (mo_z : jZ) (mo_y : jY) (x1 : Int32) (x2 : Int32) (x3 : Int32) (x4 : Int32) (res : jZ × Int64) (hf : f_Mo_likely mo_z x1 x2 x3 x4 = some res) : MC l g yX12_likely cX12_likely 5 (some .long) rm_Mo_likely [.ref (a 0), .int x1, .int x2, .int x3, .int x4] (([n_Mo g a mo_z mo_y] : List va_W)) (some (.long res.2)) (([n_Mo g a res.1 mo_y] : List va_W)) 0 0 := by
  refine MC_of (own := RX12) (lv := [(0, .ref (a 0)), (1, .int x1), (2, .int x2), (3, .int x3), (4, .int x4)]) (by decide) rfl (Nat.le_of_ble_eq_true rfl) rfl rfl (fun E hE hq => ?_)
  unfold f_Mo_likely at hf
  refine j_aload_n hE dX12_likely_0 rfl 0 rfl ?_
  refine j_iconst (v := 0) hE dX12_likely_1 (by decide) ?_
  refine j_put (v := .int 0) (ws' := ([n_Mo g a (up2 mo_z 0 0 0) mo_y] : List va_W)) hE lp_Mo_87 0 rfl 0 (wg_Mo_0 g a mo_z mo_y) rfl rfl (Nat.le_of_ble_eq_true rfl) (wp_Mo_0 g a mo_z mo_y 0) rfl dX12_likely_2 ?_
  refine j_iload_n hE dX12_likely_5 rfl 1 rfl ?_
  refine j_if_lt (tgt := 34) hE hf dX12_likely_6 (by decide) (fun c1 hf => ?_) (fun c1 hf => ?_)
  · refine j_ldc2 hE co_Mo_292 dX12_likely_34 ?_
    obtain rfl := Option.some.inj hf
    exact j_lret hE hq rfl rfl dX12_likely_37
  · refine j_iload_n hE dX12_likely_9 rfl 1 rfl ?_
    refine j_aload_n hE dX12_likely_10 rfl 0 rfl ?_
    refine j_get (v := .int (mo_z 3 0)) hE lg_Mo_237 0 rfl 0 (wg_Mo_0 g a (up2 mo_z 0 0 0) mo_y) rfl dX12_likely_11 ?_
    refine j_icmp_ge (tgt := 34) hE hf dX12_likely_14 (by decide) (fun c2 hf => ?_) (fun c2 hf => ?_)
    · refine j_ldc2 hE co_Mo_292 dX12_likely_34 ?_
      obtain rfl := Option.some.inj hf
      exact j_lret hE hq rfl rfl dX12_likely_37
    · refine j_aload_n hE dX12_likely_17 rfl 0 rfl ?_
      refine j_iload_n hE dX12_likely_18 rfl 2 rfl ?_
      obtain ⟨q3, hc4, hf⟩ := bind_of hf
      refine j_callV (ws' := ([n_Mo g a (up2 mo_z 0 0 0) mo_y] : List va_W)) (As := [.int x2]) (rest := []) (st2 := [.int q3]) hE (fun l => c_Mo_isPlace l g a (up2 mo_z 0 0 0) mo_y x2 q3 hc4) cd_X12_isPlace cv_X12_isPlace ml_Mo_252 rfl rfl rfl (wg_Mo_0 _ _ _ _) ⟨⟨Nat.le_of_ble_eq_true rfl, Nat.le_of_ble_eq_true rfl⟩, ⟨Nat.zero_le _, Nat.zero_le _⟩, rfl, rfl⟩ [0] rfl rfl rfl (Nat.le_of_ble_eq_true rfl) rfl dX12_likely_19 ?_
      refine j_if_eq (tgt := 34) hE hf dX12_likely_22 (by decide) (fun c5 hf => ?_) (fun c5 hf => ?_)
      · refine j_ldc2 hE co_Mo_292 dX12_likely_34 ?_
        obtain rfl := Option.some.inj hf
        exact j_lret hE hq rfl rfl dX12_likely_37
      · refine j_iload_n hE dX12_likely_25 rfl 3 rfl ?_
        refine j_iload hE dX12_likely_26 4 rfl ?_
        obtain ⟨q6, hc7, hf⟩ := bind_of hf
        refine j_callS (ws' := ([n_Mo g a (up2 mo_z 0 0 0) mo_y] : List va_W)) (As := [.int x3, .int x4]) (rest := []) (st2 := [.int q6]) hE (fun l => c_Mo_areYears l g x3 x4 q6 hc7) cd_X12_areYears st_X12_areYears ml_Mo_288 rfl rfl ⟨⟨Nat.le_of_ble_eq_true rfl, Nat.le_of_ble_eq_true rfl⟩, ⟨Nat.zero_le _, Nat.zero_le _⟩, rfl, rfl⟩ [] rfl rfl rfl (Nat.le_of_ble_eq_true rfl) rfl dX12_likely_28 ?_
        refine j_if_ne (tgt := 38) hE hf dX12_likely_31 (by decide) (fun c8 hf => ?_) (fun c8 hf => ?_)
        · refine j_aload_n hE dX12_likely_38 rfl 0 rfl ?_
          obtain ⟨q9, hc10, hf⟩ := bind_of hf
          refine j_callV (ws' := ([n_Mo g a q9 mo_y] : List va_W)) (As := []) (rest := []) (st2 := []) hE (fun l => c_Mo_knows l g a (up2 mo_z 0 0 0) mo_y q9 hc10) cd_X12_knows cv_X12_knows ml_Mo_255 rfl rfl rfl (wg_Mo_0 _ _ _ _) ⟨⟨Nat.le_of_ble_eq_true rfl, Nat.le_of_ble_eq_true rfl⟩, ⟨Nat.zero_le _, Nat.zero_le _⟩, rfl, rfl⟩ [0] rfl rfl rfl (Nat.le_of_ble_eq_true rfl) rfl dX12_likely_39 ?_
          refine j_aload_n hE dX12_likely_42 rfl 0 rfl ?_
          refine j_iload_n hE dX12_likely_43 rfl 1 rfl ?_
          refine j_iload_n hE dX12_likely_44 rfl 2 rfl ?_
          refine j_iload_n hE dX12_likely_45 rfl 3 rfl ?_
          refine j_iload hE dX12_likely_46 4 rfl ?_
          obtain ⟨q11, hc12, hf⟩ := bind_of hf
          refine j_callV (ws' := ([n_Mo g a q9 mo_y] : List va_W)) (As := [.int x1, .int x2, .int x3, .int x4]) (rest := []) (st2 := [.long q11]) hE (fun l => c_Mo_likelyOf l g a q9 mo_y x1 x2 x3 x4 q11 hc12) cd_X12_likelyOf cv_X12_likelyOf ml_Mo_274 rfl rfl rfl (wg_Mo_0 _ _ _ _) ⟨⟨Nat.le_of_ble_eq_true rfl, Nat.le_of_ble_eq_true rfl⟩, ⟨Nat.zero_le _, Nat.zero_le _⟩, rfl, rfl⟩ [0] rfl rfl rfl (Nat.le_of_ble_eq_true rfl) rfl dX12_likely_48 ?_
          obtain rfl := Option.some.inj hf
          exact j_lret hE hq rfl rfl dX12_likely_51
        · refine j_ldc2 hE co_Mo_292 dX12_likely_34 ?_
          obtain rfl := Option.some.inj hf
          exact j_lret hE hq rfl rfl dX12_likely_37
def rm_Mo_rate : Room := { frames := 3, cells := 0, slots := 0, locals := 82 }
def f_Mo_rate (mo_z : jZ) (mo_y : jY) (x1 : Int32) (x2 : Int32) (x3 : Int32) (x4 : Int32) : Option (jZ × jY × Int64) := (f_Mo_isPlace (up2 mo_z 0 0 0) x1).bind fun q1 => (if q1 = 0 then some ((up2 mo_z 0 0 0), mo_y, (-1))
    else (f_Mo_areYears x2 x3).bind fun q4 => (if q4 = 0 then some ((up2 mo_z 0 0 0), mo_y, (-1))
    else (if x4 < 0 then some ((up2 mo_z 0 0 0), mo_y, (-1))
    else (if x4 ≤ 1 then (f_Mo_knows (up2 mo_z 0 0 0)).bind fun q9 => (f_Mo_rates q9 mo_y x1 x2 x3).bind fun q11 => (if x4 = 0 then some (q9, q11, (q11 45 0))
    else some (q9, q11, (q11 46 0)))
    else some ((up2 mo_z 0 0 0), mo_y, (-1))))))
set_option maxRecDepth 100000 in
theorem c_Mo_rate (l : Launch) (g : jG) (a : Nat → Nat) (mo_z : jZ) (mo_y : jY) (x1 : Int32) (x2 : Int32) (x3 : Int32) (x4 : Int32) (res : jZ × jY × Int64) (hf : f_Mo_rate mo_z mo_y x1 x2 x3 x4 = some res) : MC l g yX12_rate cX12_rate 5 (some .long) rm_Mo_rate [.ref (a 0), .int x1, .int x2, .int x3, .int x4] (([n_Mo g a mo_z mo_y] : List va_W)) (some (.long res.2.2)) (([n_Mo g a res.1 res.2.1] : List va_W)) 0 0 := by
  refine MC_of (own := RX12) (lv := [(0, .ref (a 0)), (1, .int x1), (2, .int x2), (3, .int x3), (4, .int x4)]) (by decide) rfl (Nat.le_of_ble_eq_true rfl) rfl rfl (fun E hE hq => ?_)
  unfold f_Mo_rate at hf
  refine j_aload_n hE dX12_rate_0 rfl 0 rfl ?_
  refine j_iconst (v := 0) hE dX12_rate_1 (by decide) ?_
  refine j_put (v := .int 0) (ws' := ([n_Mo g a (up2 mo_z 0 0 0) mo_y] : List va_W)) hE lp_Mo_87 0 rfl 0 (wg_Mo_0 g a mo_z mo_y) rfl rfl (Nat.le_of_ble_eq_true rfl) (wp_Mo_0 g a mo_z mo_y 0) rfl dX12_rate_2 ?_
  refine j_aload_n hE dX12_rate_5 rfl 0 rfl ?_
  refine j_iload_n hE dX12_rate_6 rfl 1 rfl ?_
  obtain ⟨q1, hc2, hf⟩ := bind_of hf
  refine j_callV (ws' := ([n_Mo g a (up2 mo_z 0 0 0) mo_y] : List va_W)) (As := [.int x1]) (rest := []) (st2 := [.int q1]) hE (fun l => c_Mo_isPlace l g a (up2 mo_z 0 0 0) mo_y x1 q1 hc2) cd_X12_isPlace cv_X12_isPlace ml_Mo_252 rfl rfl rfl (wg_Mo_0 _ _ _ _) ⟨⟨Nat.le_of_ble_eq_true rfl, Nat.le_of_ble_eq_true rfl⟩, ⟨Nat.zero_le _, Nat.zero_le _⟩, rfl, rfl⟩ [0] rfl rfl rfl (Nat.le_of_ble_eq_true rfl) rfl dX12_rate_7 ?_
  refine j_if_eq (tgt := 32) hE hf dX12_rate_10 (by decide) (fun c3 hf => ?_) (fun c3 hf => ?_)
  · refine j_ldc2 hE co_Mo_292 dX12_rate_32 ?_
    obtain rfl := Option.some.inj hf
    exact j_lret hE hq rfl rfl dX12_rate_35
  · refine j_iload_n hE dX12_rate_13 rfl 2 rfl ?_
    refine j_iload_n hE dX12_rate_14 rfl 3 rfl ?_
    obtain ⟨q4, hc5, hf⟩ := bind_of hf
    refine j_callS (ws' := ([n_Mo g a (up2 mo_z 0 0 0) mo_y] : List va_W)) (As := [.int x2, .int x3]) (rest := []) (st2 := [.int q4]) hE (fun l => c_Mo_areYears l g x2 x3 q4 hc5) cd_X12_areYears st_X12_areYears ml_Mo_288 rfl rfl ⟨⟨Nat.le_of_ble_eq_true rfl, Nat.le_of_ble_eq_true rfl⟩, ⟨Nat.zero_le _, Nat.zero_le _⟩, rfl, rfl⟩ [] rfl rfl rfl (Nat.le_of_ble_eq_true rfl) rfl dX12_rate_15 ?_
    refine j_if_eq (tgt := 32) hE hf dX12_rate_18 (by decide) (fun c6 hf => ?_) (fun c6 hf => ?_)
    · refine j_ldc2 hE co_Mo_292 dX12_rate_32 ?_
      obtain rfl := Option.some.inj hf
      exact j_lret hE hq rfl rfl dX12_rate_35
    · refine j_iload hE dX12_rate_21 4 rfl ?_
      refine j_if_lt (tgt := 32) hE hf dX12_rate_23 (by decide) (fun c7 hf => ?_) (fun c7 hf => ?_)
      · refine j_ldc2 hE co_Mo_292 dX12_rate_32 ?_
        obtain rfl := Option.some.inj hf
        exact j_lret hE hq rfl rfl dX12_rate_35
      · refine j_iload hE dX12_rate_26 4 rfl ?_
        refine j_iconst (v := 1) hE dX12_rate_28 (by decide) ?_
        refine j_icmp_le (tgt := 36) hE hf dX12_rate_29 (by decide) (fun c8 hf => ?_) (fun c8 hf => ?_)
        · refine j_aload_n hE dX12_rate_36 rfl 0 rfl ?_
          obtain ⟨q9, hc10, hf⟩ := bind_of hf
          refine j_callV (ws' := ([n_Mo g a q9 mo_y] : List va_W)) (As := []) (rest := []) (st2 := []) hE (fun l => c_Mo_knows l g a (up2 mo_z 0 0 0) mo_y q9 hc10) cd_X12_knows cv_X12_knows ml_Mo_255 rfl rfl rfl (wg_Mo_0 _ _ _ _) ⟨⟨Nat.le_of_ble_eq_true rfl, Nat.le_of_ble_eq_true rfl⟩, ⟨Nat.zero_le _, Nat.zero_le _⟩, rfl, rfl⟩ [0] rfl rfl rfl (Nat.le_of_ble_eq_true rfl) rfl dX12_rate_37 ?_
          refine j_aload_n hE dX12_rate_40 rfl 0 rfl ?_
          refine j_iload_n hE dX12_rate_41 rfl 1 rfl ?_
          refine j_iload_n hE dX12_rate_42 rfl 2 rfl ?_
          refine j_iload_n hE dX12_rate_43 rfl 3 rfl ?_
          obtain ⟨q11, hc12, hf⟩ := bind_of hf
          refine j_callV (ws' := ([n_Mo g a q9 q11] : List va_W)) (As := [.int x1, .int x2, .int x3]) (rest := []) (st2 := []) hE (fun l => c_Mo_rates l g a q9 mo_y x1 x2 x3 q11 hc12) cd_X12_rates cv_X12_rates ml_Mo_294 rfl rfl rfl (wg_Mo_0 _ _ _ _) ⟨⟨Nat.le_of_ble_eq_true rfl, Nat.le_of_ble_eq_true rfl⟩, ⟨Nat.zero_le _, Nat.zero_le _⟩, rfl, rfl⟩ [0] rfl rfl rfl (Nat.le_of_ble_eq_true rfl) rfl dX12_rate_44 ?_
          refine j_iload hE dX12_rate_47 4 rfl ?_
          refine j_if_ne (tgt := 59) hE hf dX12_rate_49 (by decide) (fun c13 hf => ?_) (fun c13 hf => ?_)
          · refine j_aload_n hE dX12_rate_59 rfl 0 rfl ?_
            refine j_get (v := .long (q11 46 0)) hE lg_Mo_271 0 rfl 0 (wg_Mo_0 g a q9 q11) rfl dX12_rate_60 ?_
            obtain rfl := Option.some.inj hf
            exact j_lret hE hq rfl rfl dX12_rate_63
          · refine j_aload_n hE dX12_rate_52 rfl 0 rfl ?_
            refine j_get (v := .long (q11 45 0)) hE lg_Mo_267 0 rfl 0 (wg_Mo_0 g a q9 q11) rfl dX12_rate_53 ?_
            refine j_goto (tgt := 63) hE dX12_rate_56 (by decide) ?_
            obtain rfl := Option.some.inj hf
            exact j_lret hE hq rfl rfl dX12_rate_63
        · refine j_ldc2 hE co_Mo_292 dX12_rate_32 ?_
          obtain rfl := Option.some.inj hf
          exact j_lret hE hq rfl rfl dX12_rate_35
def rm_Mo_span : Room := { frames := 2, cells := 0, slots := 0, locals := 52 }
def f_Mo_span_119  (x1 : Int32) (x2 : Int32) (x3 : Int32) (x4 : Int32) (k97 : jZ → Int64 → Int64 → Int32 → Int32 → Int32 → Option (jZ × Int32)) : Nat → jZ → Int64 → Int64 → Int32 → Int32 → Int32 → Int32 → Int32 → Option (jZ × Int32)
  | 0, _, _, _, _, _, _, _, _ => none
  | n + 1, mo_z, v5, v7, v9, v10, v11, v12, v13 => (if (mo_z 3 0) ≤ v13 then (f_Mo_likelyOf mo_z v12 x1 x2 x3).bind fun q18 => (if v10 = (-2147483648) then (f_Mo_meanOf mo_z v12).bind fun q25 => (f_Mo_meanOf mo_z v12).bind fun q27 => k97 mo_z v5 (v7 + q18) (v9 ||| (1 <<< (v12 &&& 31))) q25 (if v11 < q27 then q27 else v11)
    else (f_Mo_meanOf mo_z v12).bind fun q21 => (f_Mo_meanOf mo_z v12).bind fun q23 => k97 mo_z v5 (v7 + q18) (v9 ||| (1 <<< (v12 &&& 31))) (if q21 < v10 then q21 else v10) (if v11 < q23 then q23 else v11))
    else (if ((v9 >>> (v13 &&& 31)) &&& 1) = 0 then (if v12 = (-1) then f_Mo_span_119 x1 x2 x3 x4 k97 n mo_z v5 v7 v9 v10 v11 v13 (v13 + 1)
    else (f_Mo_likelyOf mo_z v13 x1 x2 x3).bind fun q31 => (f_Mo_likelyOf mo_z v12 x1 x2 x3).bind fun q33 => (if (lg_cmp q31 q33) ≤ 0 then f_Mo_span_119 x1 x2 x3 x4 k97 n mo_z v5 v7 v9 v10 v11 v12 (v13 + 1)
    else f_Mo_span_119 x1 x2 x3 x4 k97 n mo_z v5 v7 v9 v10 v11 v13 (v13 + 1)))
    else f_Mo_span_119 x1 x2 x3 x4 k97 n mo_z v5 v7 v9 v10 v11 v12 (v13 + 1)))
def f_Mo_span_97  (x1 : Int32) (x2 : Int32) (x3 : Int32) (x4 : Int32)  : Nat → jZ → Int64 → Int64 → Int32 → Int32 → Int32 → Option (jZ × Int32)
  | 0, _, _, _, _, _, _ => none
  | n + 1, mo_z, v5, v7, v9, v10, v11 => (if 0 ≤ (lg_cmp (20 * v7) (19 * v5)) then (if x4 = 0 then some (mo_z, v10)
    else some (mo_z, v11))
    else f_Mo_span_119 x1 x2 x3 x4 (fun mo_z v5 v7 v9 v10 v11 => f_Mo_span_97 x1 x2 x3 x4 n mo_z v5 v7 v9 v10 v11) FU mo_z v5 v7 v9 v10 v11 (-1) 0)
def f_Mo_span_44  (x1 : Int32) (x2 : Int32) (x3 : Int32) (x4 : Int32)  : Nat → jZ → Int64 → Int32 → Option (jZ × Int32)
  | 0, _, _, _ => none
  | n + 1, mo_z, v5, v7 => (if (mo_z 3 0) ≤ v7 then (if (lg_cmp v5 0) = 0 then some (mo_z, (-2))
    else f_Mo_span_97 x1 x2 x3 x4 FU mo_z v5 0 0 (-2147483648) 0)
    else (f_Mo_likelyOf mo_z v7 x1 x2 x3).bind fun q13 => f_Mo_span_44 x1 x2 x3 x4 n mo_z (v5 + q13) (v7 + 1))
def f_Mo_span (mo_z : jZ) (x1 : Int32) (x2 : Int32) (x3 : Int32) (x4 : Int32) : Option (jZ × Int32) := (f_Mo_isPlace (up2 mo_z 0 0 0) x1).bind fun q1 => (if q1 = 0 then some ((up2 mo_z 0 0 0), (-1))
    else (f_Mo_areYears x2 x3).bind fun q4 => (if q4 = 0 then some ((up2 mo_z 0 0 0), (-1))
    else (if x4 < 0 then some ((up2 mo_z 0 0 0), (-1))
    else (if x4 ≤ 1 then (f_Mo_knows (up2 mo_z 0 0 0)).bind fun q9 => f_Mo_span_44 x1 x2 x3 x4 FU q9 0 0
    else some ((up2 mo_z 0 0 0), (-1))))))
set_option maxRecDepth 100000 in
theorem j_Mo_span_119 (E : jT) (g : jG) (a : Nat → Nat) (mo_y : jY) (x1 : Int32) (x2 : Int32) (x3 : Int32) (x4 : Int32) (res : jZ × Int32) (hE : jOk E g RX12 cX12_span 14 (some .int) rm_Mo_span) (hq : jEnd E g (some (.int res.2)) (([n_Mo g a res.1 mo_y] : List va_W)) 0 0) (k97 : jZ → Int64 → Int64 → Int32 → Int32 → Int32 → Option (jZ × Int32)) (hk97 : ∀ (mo_z : jZ) (v5 : Int64) (v7 : Int64) (v9 : Int32) (v10 : Int32) (v11 : Int32), k97 mo_z v5 v7 v9 v10 v11 = some res → J E g 0 0 (([n_Mo g a mo_z mo_y] : List va_W)) [(0, .ref (a 0)), (1, .int x1), (2, .int x2), (3, .int x3), (4, .int x4), (5, .long v5), (7, .long v7), (9, .int v9), (10, .int v10), (11, .int v11)] 97 []) : ∀ (n : Nat) (mo_z : jZ) (v5 : Int64) (v7 : Int64) (v9 : Int32) (v10 : Int32) (v11 : Int32) (v12 : Int32) (v13 : Int32), f_Mo_span_119 x1 x2 x3 x4 k97 n mo_z v5 v7 v9 v10 v11 v12 v13 = some res → J E g 0 0 (([n_Mo g a mo_z mo_y] : List va_W)) [(0, .ref (a 0)), (1, .int x1), (2, .int x2), (3, .int x3), (4, .int x4), (5, .long v5), (7, .long v7), (9, .int v9), (10, .int v10), (11, .int v11), (12, .int v12), (13, .int v13)] 119 [] := by
  intro n
  induction n with
  | zero =>
    intro mo_z v5 v7 v9 v10 v11 v12 v13 hf
    rw [f_Mo_span_119] at hf
    cases hf
  | succ n ih =>
    intro mo_z v5 v7 v9 v10 v11 v12 v13 hf
    rw [f_Mo_span_119] at hf
    refine j_iload hE dX12_span_119 11 rfl ?_
    refine j_aload_n hE dX12_span_121 rfl 0 rfl ?_
    refine j_get (v := .int (mo_z 3 0)) hE lg_Mo_237 0 rfl 0 (wg_Mo_0 g a mo_z mo_y) rfl dX12_span_122 ?_
    refine j_icmp_ge (tgt := 176) hE hf dX12_span_125 (by decide) (fun c17 hf => ?_) (fun c17 hf => ?_)
    · refine j_iload hE dX12_span_176 7 rfl ?_
      refine j_iconst (v := 1) hE dX12_span_178 (by decide) ?_
      refine j_iload hE dX12_span_179 10 rfl ?_
      refine j_ishl hE dX12_span_181 ?_
      refine j_ior hE dX12_span_182 ?_
      refine j_istore (lv' := [(9, .int (v9 ||| (1 <<< (v12 &&& 31)))), (0, .ref (a 0)), (1, .int x1), (2, .int x2), (3, .int x3), (4, .int x4), (5, .long v5), (7, .long v7), (10, .int v10), (11, .int v11), (12, .int v12), (13, .int v13)]) hE dX12_span_183 (by decide) rfl ?_
      refine j_lload hE dX12_span_185 7 rfl ?_
      refine j_aload_n hE dX12_span_187 rfl 1 rfl ?_
      refine j_iload hE dX12_span_188 10 rfl ?_
      refine j_iload_n hE dX12_span_190 rfl 2 rfl ?_
      refine j_iload_n hE dX12_span_191 rfl 3 rfl ?_
      refine j_iload_n hE dX12_span_192 rfl 4 rfl ?_
      obtain ⟨q18, hc19, hf⟩ := bind_of hf
      refine j_callV (ws' := ([n_Mo g a mo_z mo_y] : List va_W)) (As := [.int v12, .int x1, .int x2, .int x3]) (rest := [.long v7]) (st2 := [.long q18, .long v7]) hE (fun l => c_Mo_likelyOf l g a mo_z mo_y v12 x1 x2 x3 q18 hc19) cd_X12_likelyOf cv_X12_likelyOf ml_Mo_274 rfl rfl rfl (wg_Mo_0 _ _ _ _) ⟨⟨Nat.le_of_ble_eq_true rfl, Nat.le_of_ble_eq_true rfl⟩, ⟨Nat.zero_le _, Nat.zero_le _⟩, rfl, rfl⟩ [0] rfl rfl rfl (Nat.le_of_ble_eq_true rfl) rfl dX12_span_193 ?_
      refine j_ladd hE dX12_span_196 ?_
      refine j_lstore (lv' := [(7, .long (v7 + q18)), (9, .int (v9 ||| (1 <<< (v12 &&& 31)))), (0, .ref (a 0)), (1, .int x1), (2, .int x2), (3, .int x3), (4, .int x4), (5, .long v5), (10, .int v10), (11, .int v11), (12, .int v12), (13, .int v13)]) hE dX12_span_197 (by decide) rfl ?_
      refine j_iload hE dX12_span_199 8 rfl ?_
      refine j_ldcw hE co_Mo_298 dX12_span_201 ?_
      refine j_icmp_ne (tgt := 216) hE hf dX12_span_204 (by decide) (fun c20 hf => ?_) (fun c20 hf => ?_)
      · refine j_iload hE dX12_span_216 8 rfl ?_
        refine j_aload_n hE dX12_span_218 rfl 2 rfl ?_
        refine j_iload hE dX12_span_219 10 rfl ?_
        obtain ⟨q21, hc22, hf⟩ := bind_of hf
        refine j_callV (ws' := ([n_Mo g a mo_z mo_y] : List va_W)) (As := [.int v12]) (rest := [.int v10]) (st2 := [.int q21, .int v10]) hE (fun l => c_Mo_meanOf l g a mo_z mo_y v12 q21 hc22) cd_X12_meanOf cv_X12_meanOf ml_Mo_278 rfl rfl rfl (wg_Mo_0 _ _ _ _) ⟨⟨Nat.le_of_ble_eq_true rfl, Nat.le_of_ble_eq_true rfl⟩, ⟨Nat.zero_le _, Nat.zero_le _⟩, rfl, rfl⟩ [0] rfl rfl rfl (Nat.le_of_ble_eq_true rfl) rfl dX12_span_221 ?_
        refine j_mmin hE fm_mmin ml_Mo_303 ⟨⟨Nat.le_of_ble_eq_true rfl, Nat.le_of_ble_eq_true rfl⟩, Nat.zero_le _, Nat.zero_le _⟩ dX12_span_224 ?_
        refine j_istore (lv' := [(10, .int (if q21 < v10 then q21 else v10)), (7, .long (v7 + q18)), (9, .int (v9 ||| (1 <<< (v12 &&& 31)))), (0, .ref (a 0)), (1, .int x1), (2, .int x2), (3, .int x3), (4, .int x4), (5, .long v5), (11, .int v11), (12, .int v12), (13, .int v13)]) hE dX12_span_227 (by decide) rfl ?_
        refine j_iload hE dX12_span_229 9 rfl ?_
        refine j_aload_n hE dX12_span_231 rfl 3 rfl ?_
        refine j_iload hE dX12_span_232 10 rfl ?_
        obtain ⟨q23, hc24, hf⟩ := bind_of hf
        refine j_callV (ws' := ([n_Mo g a mo_z mo_y] : List va_W)) (As := [.int v12]) (rest := [.int v11]) (st2 := [.int q23, .int v11]) hE (fun l => c_Mo_meanOf l g a mo_z mo_y v12 q23 hc24) cd_X12_meanOf cv_X12_meanOf ml_Mo_278 rfl rfl rfl (wg_Mo_0 _ _ _ _) ⟨⟨Nat.le_of_ble_eq_true rfl, Nat.le_of_ble_eq_true rfl⟩, ⟨Nat.zero_le _, Nat.zero_le _⟩, rfl, rfl⟩ [0] rfl rfl rfl (Nat.le_of_ble_eq_true rfl) rfl dX12_span_234 ?_
        refine j_mmax hE fm_mmax ml_Mo_306 ⟨⟨Nat.le_of_ble_eq_true rfl, Nat.le_of_ble_eq_true rfl⟩, Nat.zero_le _, Nat.zero_le _⟩ dX12_span_237 ?_
        refine j_istore (lv' := [(11, .int (if v11 < q23 then q23 else v11)), (10, .int (if q21 < v10 then q21 else v10)), (7, .long (v7 + q18)), (9, .int (v9 ||| (1 <<< (v12 &&& 31)))), (0, .ref (a 0)), (1, .int x1), (2, .int x2), (3, .int x3), (4, .int x4), (5, .long v5), (12, .int v12), (13, .int v13)]) hE dX12_span_240 (by decide) rfl ?_
        refine j_goto (tgt := 97) hE dX12_span_242 (by decide) ?_
        exact j_sub [4, 5, 6, 7, 8, 9, 2, 3, 1, 0] rfl (hk97 mo_z v5 (v7 + q18) (v9 ||| (1 <<< (v12 &&& 31))) (if q21 < v10 then q21 else v10) (if v11 < q23 then q23 else v11) hf)
      · refine j_aload_n hE dX12_span_207 rfl 2 rfl ?_
        refine j_iload hE dX12_span_208 10 rfl ?_
        obtain ⟨q25, hc26, hf⟩ := bind_of hf
        refine j_callV (ws' := ([n_Mo g a mo_z mo_y] : List va_W)) (As := [.int v12]) (rest := []) (st2 := [.int q25]) hE (fun l => c_Mo_meanOf l g a mo_z mo_y v12 q25 hc26) cd_X12_meanOf cv_X12_meanOf ml_Mo_278 rfl rfl rfl (wg_Mo_0 _ _ _ _) ⟨⟨Nat.le_of_ble_eq_true rfl, Nat.le_of_ble_eq_true rfl⟩, ⟨Nat.zero_le _, Nat.zero_le _⟩, rfl, rfl⟩ [0] rfl rfl rfl (Nat.le_of_ble_eq_true rfl) rfl dX12_span_210 ?_
        refine j_goto (tgt := 227) hE dX12_span_213 (by decide) ?_
        refine j_istore (lv' := [(10, .int q25), (7, .long (v7 + q18)), (9, .int (v9 ||| (1 <<< (v12 &&& 31)))), (0, .ref (a 0)), (1, .int x1), (2, .int x2), (3, .int x3), (4, .int x4), (5, .long v5), (11, .int v11), (12, .int v12), (13, .int v13)]) hE dX12_span_227 (by decide) rfl ?_
        refine j_iload hE dX12_span_229 9 rfl ?_
        refine j_aload_n hE dX12_span_231 rfl 3 rfl ?_
        refine j_iload hE dX12_span_232 10 rfl ?_
        obtain ⟨q27, hc28, hf⟩ := bind_of hf
        refine j_callV (ws' := ([n_Mo g a mo_z mo_y] : List va_W)) (As := [.int v12]) (rest := [.int v11]) (st2 := [.int q27, .int v11]) hE (fun l => c_Mo_meanOf l g a mo_z mo_y v12 q27 hc28) cd_X12_meanOf cv_X12_meanOf ml_Mo_278 rfl rfl rfl (wg_Mo_0 _ _ _ _) ⟨⟨Nat.le_of_ble_eq_true rfl, Nat.le_of_ble_eq_true rfl⟩, ⟨Nat.zero_le _, Nat.zero_le _⟩, rfl, rfl⟩ [0] rfl rfl rfl (Nat.le_of_ble_eq_true rfl) rfl dX12_span_234 ?_
        refine j_mmax hE fm_mmax ml_Mo_306 ⟨⟨Nat.le_of_ble_eq_true rfl, Nat.le_of_ble_eq_true rfl⟩, Nat.zero_le _, Nat.zero_le _⟩ dX12_span_237 ?_
        refine j_istore (lv' := [(11, .int (if v11 < q27 then q27 else v11)), (10, .int q25), (7, .long (v7 + q18)), (9, .int (v9 ||| (1 <<< (v12 &&& 31)))), (0, .ref (a 0)), (1, .int x1), (2, .int x2), (3, .int x3), (4, .int x4), (5, .long v5), (12, .int v12), (13, .int v13)]) hE dX12_span_240 (by decide) rfl ?_
        refine j_goto (tgt := 97) hE dX12_span_242 (by decide) ?_
        exact j_sub [4, 5, 6, 7, 8, 9, 2, 3, 1, 0] rfl (hk97 mo_z v5 (v7 + q18) (v9 ||| (1 <<< (v12 &&& 31))) q25 (if v11 < q27 then q27 else v11) hf)
    · refine j_iload hE dX12_span_128 7 rfl ?_
      refine j_iload hE dX12_span_130 11 rfl ?_
      refine j_ishr hE dX12_span_132 ?_
      refine j_iconst (v := 1) hE dX12_span_133 (by decide) ?_
      refine j_iand hE dX12_span_134 ?_
      refine j_if_ne (tgt := 170) hE hf dX12_span_135 (by decide) (fun c29 hf => ?_) (fun c29 hf => ?_)
      · refine j_iinc (v := (v13 + 1)) (lv' := [(13, .int (v13 + 1)), (0, .ref (a 0)), (1, .int x1), (2, .int x2), (3, .int x3), (4, .int x4), (5, .long v5), (7, .long v7), (9, .int v9), (10, .int v10), (11, .int v11), (12, .int v12)]) hE dX12_span_170 11 rfl rfl (by decide) rfl ?_
        refine j_goto (tgt := 119) hE dX12_span_173 (by decide) ?_
        exact j_sub [1, 2, 3, 4, 5, 6, 7, 8, 9, 10, 11, 0] rfl (ih mo_z v5 v7 v9 v10 v11 v12 (v13 + 1) hf)
      · refine j_iload hE dX12_span_138 10 rfl ?_
        refine j_iconst (v := (-1)) hE dX12_span_140 (by decide) ?_
        refine j_icmp_eq (tgt := 166) hE hf dX12_span_141 (by decide) (fun c30 hf => ?_) (fun c30 hf => ?_)
        · refine j_iload hE dX12_span_166 11 rfl ?_
          refine j_istore (lv' := [(12, .int v13), (0, .ref (a 0)), (1, .int x1), (2, .int x2), (3, .int x3), (4, .int x4), (5, .long v5), (7, .long v7), (9, .int v9), (10, .int v10), (11, .int v11), (13, .int v13)]) hE dX12_span_168 (by decide) rfl ?_
          refine j_iinc (v := (v13 + 1)) (lv' := [(13, .int (v13 + 1)), (12, .int v13), (0, .ref (a 0)), (1, .int x1), (2, .int x2), (3, .int x3), (4, .int x4), (5, .long v5), (7, .long v7), (9, .int v9), (10, .int v10), (11, .int v11)]) hE dX12_span_170 11 rfl rfl (by decide) rfl ?_
          refine j_goto (tgt := 119) hE dX12_span_173 (by decide) ?_
          exact j_sub [2, 3, 4, 5, 6, 7, 8, 9, 10, 11, 1, 0] rfl (ih mo_z v5 v7 v9 v10 v11 v13 (v13 + 1) hf)
        · refine j_aload_n hE dX12_span_144 rfl 0 rfl ?_
          refine j_iload hE dX12_span_145 11 rfl ?_
          refine j_iload_n hE dX12_span_147 rfl 1 rfl ?_
          refine j_iload_n hE dX12_span_148 rfl 2 rfl ?_
          refine j_iload_n hE dX12_span_149 rfl 3 rfl ?_
          obtain ⟨q31, hc32, hf⟩ := bind_of hf
          refine j_callV (ws' := ([n_Mo g a mo_z mo_y] : List va_W)) (As := [.int v13, .int x1, .int x2, .int x3]) (rest := []) (st2 := [.long q31]) hE (fun l => c_Mo_likelyOf l g a mo_z mo_y v13 x1 x2 x3 q31 hc32) cd_X12_likelyOf cv_X12_likelyOf ml_Mo_274 rfl rfl rfl (wg_Mo_0 _ _ _ _) ⟨⟨Nat.le_of_ble_eq_true rfl, Nat.le_of_ble_eq_true rfl⟩, ⟨Nat.zero_le _, Nat.zero_le _⟩, rfl, rfl⟩ [0] rfl rfl rfl (Nat.le_of_ble_eq_true rfl) rfl dX12_span_150 ?_
          refine j_aload_n hE dX12_span_153 rfl 0 rfl ?_
          refine j_iload hE dX12_span_154 10 rfl ?_
          refine j_iload_n hE dX12_span_156 rfl 1 rfl ?_
          refine j_iload_n hE dX12_span_157 rfl 2 rfl ?_
          refine j_iload_n hE dX12_span_158 rfl 3 rfl ?_
          obtain ⟨q33, hc34, hf⟩ := bind_of hf
          refine j_callV (ws' := ([n_Mo g a mo_z mo_y] : List va_W)) (As := [.int v12, .int x1, .int x2, .int x3]) (rest := [.long q31]) (st2 := [.long q33, .long q31]) hE (fun l => c_Mo_likelyOf l g a mo_z mo_y v12 x1 x2 x3 q33 hc34) cd_X12_likelyOf cv_X12_likelyOf ml_Mo_274 rfl rfl rfl (wg_Mo_0 _ _ _ _) ⟨⟨Nat.le_of_ble_eq_true rfl, Nat.le_of_ble_eq_true rfl⟩, ⟨Nat.zero_le _, Nat.zero_le _⟩, rfl, rfl⟩ [0] rfl rfl rfl (Nat.le_of_ble_eq_true rfl) rfl dX12_span_159 ?_
          refine j_lcmp hE dX12_span_162 ?_
          refine j_if_le (tgt := 170) hE hf dX12_span_163 (by decide) (fun c35 hf => ?_) (fun c35 hf => ?_)
          · refine j_iinc (v := (v13 + 1)) (lv' := [(13, .int (v13 + 1)), (0, .ref (a 0)), (1, .int x1), (2, .int x2), (3, .int x3), (4, .int x4), (5, .long v5), (7, .long v7), (9, .int v9), (10, .int v10), (11, .int v11), (12, .int v12)]) hE dX12_span_170 11 rfl rfl (by decide) rfl ?_
            refine j_goto (tgt := 119) hE dX12_span_173 (by decide) ?_
            exact j_sub [1, 2, 3, 4, 5, 6, 7, 8, 9, 10, 11, 0] rfl (ih mo_z v5 v7 v9 v10 v11 v12 (v13 + 1) hf)
          · refine j_iload hE dX12_span_166 11 rfl ?_
            refine j_istore (lv' := [(12, .int v13), (0, .ref (a 0)), (1, .int x1), (2, .int x2), (3, .int x3), (4, .int x4), (5, .long v5), (7, .long v7), (9, .int v9), (10, .int v10), (11, .int v11), (13, .int v13)]) hE dX12_span_168 (by decide) rfl ?_
            refine j_iinc (v := (v13 + 1)) (lv' := [(13, .int (v13 + 1)), (12, .int v13), (0, .ref (a 0)), (1, .int x1), (2, .int x2), (3, .int x3), (4, .int x4), (5, .long v5), (7, .long v7), (9, .int v9), (10, .int v10), (11, .int v11)]) hE dX12_span_170 11 rfl rfl (by decide) rfl ?_
            refine j_goto (tgt := 119) hE dX12_span_173 (by decide) ?_
            exact j_sub [2, 3, 4, 5, 6, 7, 8, 9, 10, 11, 1, 0] rfl (ih mo_z v5 v7 v9 v10 v11 v13 (v13 + 1) hf)
set_option maxRecDepth 100000 in
theorem j_Mo_span_97 (E : jT) (g : jG) (a : Nat → Nat) (mo_y : jY) (x1 : Int32) (x2 : Int32) (x3 : Int32) (x4 : Int32) (res : jZ × Int32) (hE : jOk E g RX12 cX12_span 14 (some .int) rm_Mo_span) (hq : jEnd E g (some (.int res.2)) (([n_Mo g a res.1 mo_y] : List va_W)) 0 0)  : ∀ (n : Nat) (mo_z : jZ) (v5 : Int64) (v7 : Int64) (v9 : Int32) (v10 : Int32) (v11 : Int32), f_Mo_span_97 x1 x2 x3 x4 n mo_z v5 v7 v9 v10 v11 = some res → J E g 0 0 (([n_Mo g a mo_z mo_y] : List va_W)) [(0, .ref (a 0)), (1, .int x1), (2, .int x2), (3, .int x3), (4, .int x4), (5, .long v5), (7, .long v7), (9, .int v9), (10, .int v10), (11, .int v11)] 97 [] := by
  intro n
  induction n with
  | zero =>
    intro mo_z v5 v7 v9 v10 v11 hf
    rw [f_Mo_span_97] at hf
    cases hf
  | succ n ih =>
    intro mo_z v5 v7 v9 v10 v11 hf
    rw [f_Mo_span_97] at hf
    refine j_ldc2 hE co_Mo_299 dX12_span_97 ?_
    refine j_lload hE dX12_span_100 6 rfl ?_
    refine j_lmul hE dX12_span_102 ?_
    refine j_ldc2 hE co_Mo_301 dX12_span_103 ?_
    refine j_lload hE dX12_span_106 5 rfl ?_
    refine j_lmul hE dX12_span_108 ?_
    refine j_lcmp hE dX12_span_109 ?_
    refine j_if_ge (tgt := 245) hE hf dX12_span_110 (by decide) (fun c15 hf => ?_) (fun c15 hf => ?_)
    · refine j_iload hE dX12_span_245 4 rfl ?_
      refine j_if_ne (tgt := 255) hE hf dX12_span_247 (by decide) (fun c16 hf => ?_) (fun c16 hf => ?_)
      · refine j_iload hE dX12_span_255 9 rfl ?_
        obtain rfl := Option.some.inj hf
        exact j_iret hE hq rfl rfl dX12_span_257
      · refine j_iload hE dX12_span_250 8 rfl ?_
        refine j_goto (tgt := 257) hE dX12_span_252 (by decide) ?_
        obtain rfl := Option.some.inj hf
        exact j_iret hE hq rfl rfl dX12_span_257
    · refine j_iconst (v := (-1)) hE dX12_span_113 (by decide) ?_
      refine j_istore (lv' := [(12, .int (-1)), (0, .ref (a 0)), (1, .int x1), (2, .int x2), (3, .int x3), (4, .int x4), (5, .long v5), (7, .long v7), (9, .int v9), (10, .int v10), (11, .int v11)]) hE dX12_span_114 (by decide) rfl ?_
      refine j_iconst (v := 0) hE dX12_span_116 (by decide) ?_
      refine j_istore (lv' := [(13, .int 0), (12, .int (-1)), (0, .ref (a 0)), (1, .int x1), (2, .int x2), (3, .int x3), (4, .int x4), (5, .long v5), (7, .long v7), (9, .int v9), (10, .int v10), (11, .int v11)]) hE dX12_span_117 (by decide) rfl ?_
      exact j_sub [2, 3, 4, 5, 6, 7, 8, 9, 10, 11, 1, 0] rfl (j_Mo_span_119 E g a mo_y x1 x2 x3 x4 res hE hq (fun mo_z v5 v7 v9 v10 v11 => f_Mo_span_97 x1 x2 x3 x4 n mo_z v5 v7 v9 v10 v11) (fun mo_z v5 v7 v9 v10 v11 hf => ih mo_z v5 v7 v9 v10 v11 hf) FU mo_z v5 v7 v9 v10 v11 (-1) 0 hf)
set_option maxRecDepth 100000 in
theorem j_Mo_span_44 (E : jT) (g : jG) (a : Nat → Nat) (mo_y : jY) (x1 : Int32) (x2 : Int32) (x3 : Int32) (x4 : Int32) (res : jZ × Int32) (hE : jOk E g RX12 cX12_span 14 (some .int) rm_Mo_span) (hq : jEnd E g (some (.int res.2)) (([n_Mo g a res.1 mo_y] : List va_W)) 0 0)  : ∀ (n : Nat) (mo_z : jZ) (v5 : Int64) (v7 : Int32), f_Mo_span_44 x1 x2 x3 x4 n mo_z v5 v7 = some res → J E g 0 0 (([n_Mo g a mo_z mo_y] : List va_W)) [(0, .ref (a 0)), (1, .int x1), (2, .int x2), (3, .int x3), (4, .int x4), (5, .long v5), (7, .int v7)] 44 [] := by
  intro n
  induction n with
  | zero =>
    intro mo_z v5 v7 hf
    rw [f_Mo_span_44] at hf
    cases hf
  | succ n ih =>
    intro mo_z v5 v7 hf
    rw [f_Mo_span_44] at hf
    refine j_iload hE dX12_span_44 6 rfl ?_
    refine j_aload_n hE dX12_span_46 rfl 0 rfl ?_
    refine j_get (v := .int (mo_z 3 0)) hE lg_Mo_237 0 rfl 0 (wg_Mo_0 g a mo_z mo_y) rfl dX12_span_47 ?_
    refine j_icmp_ge (tgt := 73) hE hf dX12_span_50 (by decide) (fun c11 hf => ?_) (fun c11 hf => ?_)
    · refine j_lload hE dX12_span_73 5 rfl ?_
      refine j_lconst (v := 0) hE dX12_span_75 (by decide) ?_
      refine j_lcmp hE dX12_span_76 ?_
      refine j_if_ne (tgt := 83) hE hf dX12_span_77 (by decide) (fun c12 hf => ?_) (fun c12 hf => ?_)
      · refine j_lconst (v := 0) hE dX12_span_83 (by decide) ?_
        refine j_lstore (lv' := [(7, .long 0), (0, .ref (a 0)), (1, .int x1), (2, .int x2), (3, .int x3), (4, .int x4), (5, .long v5)]) hE dX12_span_84 (by decide) rfl ?_
        refine j_iconst (v := 0) hE dX12_span_86 (by decide) ?_
        refine j_istore (lv' := [(9, .int 0), (7, .long 0), (0, .ref (a 0)), (1, .int x1), (2, .int x2), (3, .int x3), (4, .int x4), (5, .long v5)]) hE dX12_span_87 (by decide) rfl ?_
        refine j_ldcw hE co_Mo_298 dX12_span_89 ?_
        refine j_istore (lv' := [(10, .int (-2147483648)), (9, .int 0), (7, .long 0), (0, .ref (a 0)), (1, .int x1), (2, .int x2), (3, .int x3), (4, .int x4), (5, .long v5)]) hE dX12_span_92 (by decide) rfl ?_
        refine j_iconst (v := 0) hE dX12_span_94 (by decide) ?_
        refine j_istore (lv' := [(11, .int 0), (10, .int (-2147483648)), (9, .int 0), (7, .long 0), (0, .ref (a 0)), (1, .int x1), (2, .int x2), (3, .int x3), (4, .int x4), (5, .long v5)]) hE dX12_span_95 (by decide) rfl ?_
        exact j_sub [4, 5, 6, 7, 8, 9, 3, 2, 1, 0] rfl (j_Mo_span_97 E g a mo_y x1 x2 x3 x4 res hE hq FU mo_z v5 0 0 (-2147483648) 0 hf)
      · refine j_bipush (v := (-2)) hE dX12_span_80 (by decide) ?_
        obtain rfl := Option.some.inj hf
        exact j_iret hE hq rfl rfl dX12_span_82
    · refine j_lload hE dX12_span_53 5 rfl ?_
      refine j_aload_n hE dX12_span_55 rfl 0 rfl ?_
      refine j_iload hE dX12_span_56 6 rfl ?_
      refine j_iload_n hE dX12_span_58 rfl 1 rfl ?_
      refine j_iload_n hE dX12_span_59 rfl 2 rfl ?_
      refine j_iload_n hE dX12_span_60 rfl 3 rfl ?_
      obtain ⟨q13, hc14, hf⟩ := bind_of hf
      refine j_callV (ws' := ([n_Mo g a mo_z mo_y] : List va_W)) (As := [.int v7, .int x1, .int x2, .int x3]) (rest := [.long v5]) (st2 := [.long q13, .long v5]) hE (fun l => c_Mo_likelyOf l g a mo_z mo_y v7 x1 x2 x3 q13 hc14) cd_X12_likelyOf cv_X12_likelyOf ml_Mo_274 rfl rfl rfl (wg_Mo_0 _ _ _ _) ⟨⟨Nat.le_of_ble_eq_true rfl, Nat.le_of_ble_eq_true rfl⟩, ⟨Nat.zero_le _, Nat.zero_le _⟩, rfl, rfl⟩ [0] rfl rfl rfl (Nat.le_of_ble_eq_true rfl) rfl dX12_span_61 ?_
      refine j_ladd hE dX12_span_64 ?_
      refine j_lstore (lv' := [(5, .long (v5 + q13)), (0, .ref (a 0)), (1, .int x1), (2, .int x2), (3, .int x3), (4, .int x4), (7, .int v7)]) hE dX12_span_65 (by decide) rfl ?_
      refine j_iinc (v := (v7 + 1)) (lv' := [(7, .int (v7 + 1)), (5, .long (v5 + q13)), (0, .ref (a 0)), (1, .int x1), (2, .int x2), (3, .int x3), (4, .int x4)]) hE dX12_span_67 6 rfl rfl (by decide) rfl ?_
      refine j_goto (tgt := 44) hE dX12_span_70 (by decide) ?_
      exact j_sub [2, 3, 4, 5, 6, 1, 0] rfl (ih mo_z (v5 + q13) (v7 + 1) hf)
set_option maxRecDepth 100000 in
theorem c_Mo_span (l : Launch) (g : jG) (a : Nat → Nat) (mo_z : jZ) (mo_y : jY) (x1 : Int32) (x2 : Int32) (x3 : Int32) (x4 : Int32) (res : jZ × Int32) (hf : f_Mo_span mo_z x1 x2 x3 x4 = some res) : MC l g yX12_span cX12_span 14 (some .int) rm_Mo_span [.ref (a 0), .int x1, .int x2, .int x3, .int x4] (([n_Mo g a mo_z mo_y] : List va_W)) (some (.int res.2)) (([n_Mo g a res.1 mo_y] : List va_W)) 0 0 := by
  refine MC_of (own := RX12) (lv := [(0, .ref (a 0)), (1, .int x1), (2, .int x2), (3, .int x3), (4, .int x4)]) (by decide) rfl (Nat.le_of_ble_eq_true rfl) rfl rfl (fun E hE hq => ?_)
  unfold f_Mo_span at hf
  refine j_aload_n hE dX12_span_0 rfl 0 rfl ?_
  refine j_iconst (v := 0) hE dX12_span_1 (by decide) ?_
  refine j_put (v := .int 0) (ws' := ([n_Mo g a (up2 mo_z 0 0 0) mo_y] : List va_W)) hE lp_Mo_87 0 rfl 0 (wg_Mo_0 g a mo_z mo_y) rfl rfl (Nat.le_of_ble_eq_true rfl) (wp_Mo_0 g a mo_z mo_y 0) rfl dX12_span_2 ?_
  refine j_aload_n hE dX12_span_5 rfl 0 rfl ?_
  refine j_iload_n hE dX12_span_6 rfl 1 rfl ?_
  obtain ⟨q1, hc2, hf⟩ := bind_of hf
  refine j_callV (ws' := ([n_Mo g a (up2 mo_z 0 0 0) mo_y] : List va_W)) (As := [.int x1]) (rest := []) (st2 := [.int q1]) hE (fun l => c_Mo_isPlace l g a (up2 mo_z 0 0 0) mo_y x1 q1 hc2) cd_X12_isPlace cv_X12_isPlace ml_Mo_252 rfl rfl rfl (wg_Mo_0 _ _ _ _) ⟨⟨Nat.le_of_ble_eq_true rfl, Nat.le_of_ble_eq_true rfl⟩, ⟨Nat.zero_le _, Nat.zero_le _⟩, rfl, rfl⟩ [0] rfl rfl rfl (Nat.le_of_ble_eq_true rfl) rfl dX12_span_7 ?_
  refine j_if_eq (tgt := 32) hE hf dX12_span_10 (by decide) (fun c3 hf => ?_) (fun c3 hf => ?_)
  · refine j_iconst (v := (-1)) hE dX12_span_32 (by decide) ?_
    obtain rfl := Option.some.inj hf
    exact j_iret hE hq rfl rfl dX12_span_33
  · refine j_iload_n hE dX12_span_13 rfl 2 rfl ?_
    refine j_iload_n hE dX12_span_14 rfl 3 rfl ?_
    obtain ⟨q4, hc5, hf⟩ := bind_of hf
    refine j_callS (ws' := ([n_Mo g a (up2 mo_z 0 0 0) mo_y] : List va_W)) (As := [.int x2, .int x3]) (rest := []) (st2 := [.int q4]) hE (fun l => c_Mo_areYears l g x2 x3 q4 hc5) cd_X12_areYears st_X12_areYears ml_Mo_288 rfl rfl ⟨⟨Nat.le_of_ble_eq_true rfl, Nat.le_of_ble_eq_true rfl⟩, ⟨Nat.zero_le _, Nat.zero_le _⟩, rfl, rfl⟩ [] rfl rfl rfl (Nat.le_of_ble_eq_true rfl) rfl dX12_span_15 ?_
    refine j_if_eq (tgt := 32) hE hf dX12_span_18 (by decide) (fun c6 hf => ?_) (fun c6 hf => ?_)
    · refine j_iconst (v := (-1)) hE dX12_span_32 (by decide) ?_
      obtain rfl := Option.some.inj hf
      exact j_iret hE hq rfl rfl dX12_span_33
    · refine j_iload hE dX12_span_21 4 rfl ?_
      refine j_if_lt (tgt := 32) hE hf dX12_span_23 (by decide) (fun c7 hf => ?_) (fun c7 hf => ?_)
      · refine j_iconst (v := (-1)) hE dX12_span_32 (by decide) ?_
        obtain rfl := Option.some.inj hf
        exact j_iret hE hq rfl rfl dX12_span_33
      · refine j_iload hE dX12_span_26 4 rfl ?_
        refine j_iconst (v := 1) hE dX12_span_28 (by decide) ?_
        refine j_icmp_le (tgt := 34) hE hf dX12_span_29 (by decide) (fun c8 hf => ?_) (fun c8 hf => ?_)
        · refine j_aload_n hE dX12_span_34 rfl 0 rfl ?_
          obtain ⟨q9, hc10, hf⟩ := bind_of hf
          refine j_callV (ws' := ([n_Mo g a q9 mo_y] : List va_W)) (As := []) (rest := []) (st2 := []) hE (fun l => c_Mo_knows l g a (up2 mo_z 0 0 0) mo_y q9 hc10) cd_X12_knows cv_X12_knows ml_Mo_255 rfl rfl rfl (wg_Mo_0 _ _ _ _) ⟨⟨Nat.le_of_ble_eq_true rfl, Nat.le_of_ble_eq_true rfl⟩, ⟨Nat.zero_le _, Nat.zero_le _⟩, rfl, rfl⟩ [0] rfl rfl rfl (Nat.le_of_ble_eq_true rfl) rfl dX12_span_35 ?_
          refine j_lconst (v := 0) hE dX12_span_38 (by decide) ?_
          refine j_lstore (lv' := [(5, .long 0), (0, .ref (a 0)), (1, .int x1), (2, .int x2), (3, .int x3), (4, .int x4)]) hE dX12_span_39 (by decide) rfl ?_
          refine j_iconst (v := 0) hE dX12_span_41 (by decide) ?_
          refine j_istore (lv' := [(7, .int 0), (5, .long 0), (0, .ref (a 0)), (1, .int x1), (2, .int x2), (3, .int x3), (4, .int x4)]) hE dX12_span_42 (by decide) rfl ?_
          exact j_sub [2, 3, 4, 5, 6, 1, 0] rfl (j_Mo_span_44 E g a mo_y x1 x2 x3 x4 res hE hq FU q9 0 0 hf)
        · refine j_iconst (v := (-1)) hE dX12_span_32 (by decide) ?_
          obtain rfl := Option.some.inj hf
          exact j_iret hE hq rfl rfl dX12_span_33
def rm_Mo_worse : Room := { frames := 2, cells := 0, slots := 0, locals := 52 }
def f_Mo_worse_75  (x1 : Int32) (x2 : Int32) (x3 : Int32) (x4 : Int32) (x5 : Int32) (k63 : jZ → jY → Int64 → Int64 → Int32 → Option (jZ × jY × Int64)) : Nat → jZ → jY → Int64 → Int64 → Int32 → Int32 → Option (jZ × jY × Int64)
  | 0, _, _, _, _, _, _ => none
  | n + 1, mo_z, mo_y, v6, v8, v10, v11 => (if (mo_z 3 0) ≤ v11 then k63 mo_z mo_y v6 v8 (v10 + 1)
    else (f_Mo_likelyOf mo_z v10 x1 x3 x4).bind fun q20 => (f_Mo_likelyOf mo_z v11 x2 x3 x4).bind fun q22 => (f_Mo_meanOf mo_z v10).bind fun q24 => (f_Mo_meanOf mo_z v11).bind fun q26 => (if q24 ≤ q26 then f_Mo_worse_75 x1 x2 x3 x4 x5 k63 n mo_z mo_y (v6 + 0) (v8 + (q20 * q22)) v10 (v11 + 1)
    else f_Mo_worse_75 x1 x2 x3 x4 x5 k63 n mo_z mo_y (v6 + (q20 * q22)) (v8 + (q20 * q22)) v10 (v11 + 1)))
def f_Mo_worse_63  (x1 : Int32) (x2 : Int32) (x3 : Int32) (x4 : Int32) (x5 : Int32)  : Nat → jZ → jY → Int64 → Int64 → Int32 → Option (jZ × jY × Int64)
  | 0, _, _, _, _, _ => none
  | n + 1, mo_z, mo_y, v6, v8, v10 => (if (mo_z 3 0) ≤ v10 then (f_Mo_terms mo_y v6 v8).bind fun q16 => (if x5 = 0 then some (mo_z, q16, (q16 45 0))
    else some (mo_z, q16, (q16 46 0)))
    else f_Mo_worse_75 x1 x2 x3 x4 x5 (fun mo_z mo_y v6 v8 v10 => f_Mo_worse_63 x1 x2 x3 x4 x5 n mo_z mo_y v6 v8 v10) FU mo_z mo_y v6 v8 v10 0)
def f_Mo_worse (mo_z : jZ) (mo_y : jY) (x1 : Int32) (x2 : Int32) (x3 : Int32) (x4 : Int32) (x5 : Int32) : Option (jZ × jY × Int64) := (f_Mo_isPlace (up2 mo_z 0 0 0) x1).bind fun q1 => (if q1 = 0 then some ((up2 mo_z 0 0 0), mo_y, (-1))
    else (f_Mo_isPlace (up2 mo_z 0 0 0) x2).bind fun q4 => (if q4 = 0 then some ((up2 mo_z 0 0 0), mo_y, (-1))
    else (if x1 = x2 then some ((up2 mo_z 0 0 0), mo_y, (-1))
    else (f_Mo_areYears x3 x4).bind fun q8 => (if q8 = 0 then some ((up2 mo_z 0 0 0), mo_y, (-1))
    else (if x5 < 0 then some ((up2 mo_z 0 0 0), mo_y, (-1))
    else (if x5 ≤ 1 then (f_Mo_knows (up2 mo_z 0 0 0)).bind fun q13 => f_Mo_worse_63 x1 x2 x3 x4 x5 FU q13 mo_y 0 0 0
    else some ((up2 mo_z 0 0 0), mo_y, (-1))))))))
set_option maxRecDepth 100000 in
theorem j_Mo_worse_75 (E : jT) (g : jG) (a : Nat → Nat)  (x1 : Int32) (x2 : Int32) (x3 : Int32) (x4 : Int32) (x5 : Int32) (res : jZ × jY × Int64) (hE : jOk E g RX12 cX12_worse 14 (some .long) rm_Mo_worse) (hq : jEnd E g (some (.long res.2.2)) (([n_Mo g a res.1 res.2.1] : List va_W)) 0 0) (k63 : jZ → jY → Int64 → Int64 → Int32 → Option (jZ × jY × Int64)) (hk63 : ∀ (mo_z : jZ) (mo_y : jY) (v6 : Int64) (v8 : Int64) (v10 : Int32), k63 mo_z mo_y v6 v8 v10 = some res → J E g 0 0 (([n_Mo g a mo_z mo_y] : List va_W)) [(0, .ref (a 0)), (1, .int x1), (2, .int x2), (3, .int x3), (4, .int x4), (5, .int x5), (6, .long v6), (8, .long v8), (10, .int v10)] 63 []) : ∀ (n : Nat) (mo_z : jZ) (mo_y : jY) (v6 : Int64) (v8 : Int64) (v10 : Int32) (v11 : Int32), f_Mo_worse_75 x1 x2 x3 x4 x5 k63 n mo_z mo_y v6 v8 v10 v11 = some res → J E g 0 0 (([n_Mo g a mo_z mo_y] : List va_W)) [(0, .ref (a 0)), (1, .int x1), (2, .int x2), (3, .int x3), (4, .int x4), (5, .int x5), (6, .long v6), (8, .long v8), (10, .int v10), (11, .int v11)] 75 [] := by
  intro n
  induction n with
  | zero =>
    intro mo_z mo_y v6 v8 v10 v11 hf
    rw [f_Mo_worse_75] at hf
    cases hf
  | succ n ih =>
    intro mo_z mo_y v6 v8 v10 v11 hf
    rw [f_Mo_worse_75] at hf
    refine j_iload hE dX12_worse_75 9 rfl ?_
    refine j_aload_n hE dX12_worse_77 rfl 0 rfl ?_
    refine j_get (v := .int (mo_z 3 0)) hE lg_Mo_237 0 rfl 0 (wg_Mo_0 g a mo_z mo_y) rfl dX12_worse_78 ?_
    refine j_icmp_ge (tgt := 146) hE hf dX12_worse_81 (by decide) (fun c19 hf => ?_) (fun c19 hf => ?_)
    · refine j_iinc (v := (v10 + 1)) (lv' := [(10, .int (v10 + 1)), (0, .ref (a 0)), (1, .int x1), (2, .int x2), (3, .int x3), (4, .int x4), (5, .int x5), (6, .long v6), (8, .long v8), (11, .int v11)]) hE dX12_worse_146 8 rfl rfl (by decide) rfl ?_
      refine j_goto (tgt := 63) hE dX12_worse_149 (by decide) ?_
      exact j_sub [1, 2, 3, 4, 5, 6, 7, 8, 0] rfl (hk63 mo_z mo_y v6 v8 (v10 + 1) hf)
    · refine j_aload_n hE dX12_worse_84 rfl 0 rfl ?_
      refine j_iload hE dX12_worse_85 8 rfl ?_
      refine j_iload_n hE dX12_worse_87 rfl 1 rfl ?_
      refine j_iload_n hE dX12_worse_88 rfl 3 rfl ?_
      refine j_iload hE dX12_worse_89 4 rfl ?_
      obtain ⟨q20, hc21, hf⟩ := bind_of hf
      refine j_callV (ws' := ([n_Mo g a mo_z mo_y] : List va_W)) (As := [.int v10, .int x1, .int x3, .int x4]) (rest := []) (st2 := [.long q20]) hE (fun l => c_Mo_likelyOf l g a mo_z mo_y v10 x1 x3 x4 q20 hc21) cd_X12_likelyOf cv_X12_likelyOf ml_Mo_274 rfl rfl rfl (wg_Mo_0 _ _ _ _) ⟨⟨Nat.le_of_ble_eq_true rfl, Nat.le_of_ble_eq_true rfl⟩, ⟨Nat.zero_le _, Nat.zero_le _⟩, rfl, rfl⟩ [0] rfl rfl rfl (Nat.le_of_ble_eq_true rfl) rfl dX12_worse_91 ?_
      refine j_aload_n hE dX12_worse_94 rfl 0 rfl ?_
      refine j_iload hE dX12_worse_95 9 rfl ?_
      refine j_iload_n hE dX12_worse_97 rfl 2 rfl ?_
      refine j_iload_n hE dX12_worse_98 rfl 3 rfl ?_
      refine j_iload hE dX12_worse_99 4 rfl ?_
      obtain ⟨q22, hc23, hf⟩ := bind_of hf
      refine j_callV (ws' := ([n_Mo g a mo_z mo_y] : List va_W)) (As := [.int v11, .int x2, .int x3, .int x4]) (rest := [.long q20]) (st2 := [.long q22, .long q20]) hE (fun l => c_Mo_likelyOf l g a mo_z mo_y v11 x2 x3 x4 q22 hc23) cd_X12_likelyOf cv_X12_likelyOf ml_Mo_274 rfl rfl rfl (wg_Mo_0 _ _ _ _) ⟨⟨Nat.le_of_ble_eq_true rfl, Nat.le_of_ble_eq_true rfl⟩, ⟨Nat.zero_le _, Nat.zero_le _⟩, rfl, rfl⟩ [0] rfl rfl rfl (Nat.le_of_ble_eq_true rfl) rfl dX12_worse_101 ?_
      refine j_lmul hE dX12_worse_104 ?_
      refine j_lstore (lv' := [(12, .long (q20 * q22)), (0, .ref (a 0)), (1, .int x1), (2, .int x2), (3, .int x3), (4, .int x4), (5, .int x5), (6, .long v6), (8, .long v8), (10, .int v10), (11, .int v11)]) hE dX12_worse_105 (by decide) rfl ?_
      refine j_lload hE dX12_worse_107 8 rfl ?_
      refine j_lload hE dX12_worse_109 0 rfl ?_
      refine j_ladd hE dX12_worse_111 ?_
      refine j_lstore (lv' := [(8, .long (v8 + (q20 * q22))), (12, .long (q20 * q22)), (0, .ref (a 0)), (1, .int x1), (2, .int x2), (3, .int x3), (4, .int x4), (5, .int x5), (6, .long v6), (10, .int v10), (11, .int v11)]) hE dX12_worse_112 (by decide) rfl ?_
      refine j_lload hE dX12_worse_114 8 rfl ?_
      refine j_aload_n hE dX12_worse_116 rfl 2 rfl ?_
      refine j_iload hE dX12_worse_117 9 rfl ?_
      obtain ⟨q24, hc25, hf⟩ := bind_of hf
      refine j_callV (ws' := ([n_Mo g a mo_z mo_y] : List va_W)) (As := [.int v10]) (rest := [.long v6]) (st2 := [.int q24, .long v6]) hE (fun l => c_Mo_meanOf l g a mo_z mo_y v10 q24 hc25) cd_X12_meanOf cv_X12_meanOf ml_Mo_278 rfl rfl rfl (wg_Mo_0 _ _ _ _) ⟨⟨Nat.le_of_ble_eq_true rfl, Nat.le_of_ble_eq_true rfl⟩, ⟨Nat.zero_le _, Nat.zero_le _⟩, rfl, rfl⟩ [0] rfl rfl rfl (Nat.le_of_ble_eq_true rfl) rfl dX12_worse_119 ?_
      refine j_aload_n hE dX12_worse_122 rfl 2 rfl ?_
      refine j_iload hE dX12_worse_123 10 rfl ?_
      obtain ⟨q26, hc27, hf⟩ := bind_of hf
      refine j_callV (ws' := ([n_Mo g a mo_z mo_y] : List va_W)) (As := [.int v11]) (rest := [.int q24, .long v6]) (st2 := [.int q26, .int q24, .long v6]) hE (fun l => c_Mo_meanOf l g a mo_z mo_y v11 q26 hc27) cd_X12_meanOf cv_X12_meanOf ml_Mo_278 rfl rfl rfl (wg_Mo_0 _ _ _ _) ⟨⟨Nat.le_of_ble_eq_true rfl, Nat.le_of_ble_eq_true rfl⟩, ⟨Nat.zero_le _, Nat.zero_le _⟩, rfl, rfl⟩ [0] rfl rfl rfl (Nat.le_of_ble_eq_true rfl) rfl dX12_worse_125 ?_
      refine j_icmp_le (tgt := 136) hE hf dX12_worse_128 (by decide) (fun c28 hf => ?_) (fun c28 hf => ?_)
      · refine j_lconst (v := 0) hE dX12_worse_136 (by decide) ?_
        refine j_ladd hE dX12_worse_137 ?_
        refine j_lstore (lv' := [(6, .long (v6 + 0)), (8, .long (v8 + (q20 * q22))), (12, .long (q20 * q22)), (0, .ref (a 0)), (1, .int x1), (2, .int x2), (3, .int x3), (4, .int x4), (5, .int x5), (10, .int v10), (11, .int v11)]) hE dX12_worse_138 (by decide) rfl ?_
        refine j_iinc (v := (v11 + 1)) (lv' := [(11, .int (v11 + 1)), (6, .long (v6 + 0)), (8, .long (v8 + (q20 * q22))), (12, .long (q20 * q22)), (0, .ref (a 0)), (1, .int x1), (2, .int x2), (3, .int x3), (4, .int x4), (5, .int x5), (10, .int v10)]) hE dX12_worse_140 10 rfl rfl (by decide) rfl ?_
        refine j_goto (tgt := 75) hE dX12_worse_143 (by decide) ?_
        exact j_sub [4, 5, 6, 7, 8, 9, 1, 2, 10, 0] rfl (ih mo_z mo_y (v6 + 0) (v8 + (q20 * q22)) v10 (v11 + 1) hf)
      · refine j_lload hE dX12_worse_131 1 rfl ?_
        refine j_goto (tgt := 137) hE dX12_worse_133 (by decide) ?_
        refine j_ladd hE dX12_worse_137 ?_
        refine j_lstore (lv' := [(6, .long (v6 + (q20 * q22))), (8, .long (v8 + (q20 * q22))), (12, .long (q20 * q22)), (0, .ref (a 0)), (1, .int x1), (2, .int x2), (3, .int x3), (4, .int x4), (5, .int x5), (10, .int v10), (11, .int v11)]) hE dX12_worse_138 (by decide) rfl ?_
        refine j_iinc (v := (v11 + 1)) (lv' := [(11, .int (v11 + 1)), (6, .long (v6 + (q20 * q22))), (8, .long (v8 + (q20 * q22))), (12, .long (q20 * q22)), (0, .ref (a 0)), (1, .int x1), (2, .int x2), (3, .int x3), (4, .int x4), (5, .int x5), (10, .int v10)]) hE dX12_worse_140 10 rfl rfl (by decide) rfl ?_
        refine j_goto (tgt := 75) hE dX12_worse_143 (by decide) ?_
        exact j_sub [4, 5, 6, 7, 8, 9, 1, 2, 10, 0] rfl (ih mo_z mo_y (v6 + (q20 * q22)) (v8 + (q20 * q22)) v10 (v11 + 1) hf)
set_option maxRecDepth 100000 in
theorem j_Mo_worse_63 (E : jT) (g : jG) (a : Nat → Nat)  (x1 : Int32) (x2 : Int32) (x3 : Int32) (x4 : Int32) (x5 : Int32) (res : jZ × jY × Int64) (hE : jOk E g RX12 cX12_worse 14 (some .long) rm_Mo_worse) (hq : jEnd E g (some (.long res.2.2)) (([n_Mo g a res.1 res.2.1] : List va_W)) 0 0)  : ∀ (n : Nat) (mo_z : jZ) (mo_y : jY) (v6 : Int64) (v8 : Int64) (v10 : Int32), f_Mo_worse_63 x1 x2 x3 x4 x5 n mo_z mo_y v6 v8 v10 = some res → J E g 0 0 (([n_Mo g a mo_z mo_y] : List va_W)) [(0, .ref (a 0)), (1, .int x1), (2, .int x2), (3, .int x3), (4, .int x4), (5, .int x5), (6, .long v6), (8, .long v8), (10, .int v10)] 63 [] := by
  intro n
  induction n with
  | zero =>
    intro mo_z mo_y v6 v8 v10 hf
    rw [f_Mo_worse_63] at hf
    cases hf
  | succ n ih =>
    intro mo_z mo_y v6 v8 v10 hf
    rw [f_Mo_worse_63] at hf
    refine j_iload hE dX12_worse_63 8 rfl ?_
    refine j_aload_n hE dX12_worse_65 rfl 0 rfl ?_
    refine j_get (v := .int (mo_z 3 0)) hE lg_Mo_237 0 rfl 0 (wg_Mo_0 g a mo_z mo_y) rfl dX12_worse_66 ?_
    refine j_icmp_ge (tgt := 152) hE hf dX12_worse_69 (by decide) (fun c15 hf => ?_) (fun c15 hf => ?_)
    · refine j_aload_n hE dX12_worse_152 rfl 0 rfl ?_
      refine j_lload hE dX12_worse_153 6 rfl ?_
      refine j_lload hE dX12_worse_155 7 rfl ?_
      obtain ⟨q16, hc17, hf⟩ := bind_of hf
      refine j_callV (ws' := ([n_Mo g a mo_z q16] : List va_W)) (As := [.long v6, .long v8]) (rest := []) (st2 := []) hE (fun l => c_Mo_terms l g a mo_z mo_y v6 v8 q16 hc17) cd_X12_terms cv_X12_terms ml_Mo_284 rfl rfl rfl (wg_Mo_0 _ _ _ _) ⟨⟨Nat.le_of_ble_eq_true rfl, Nat.le_of_ble_eq_true rfl⟩, ⟨Nat.zero_le _, Nat.zero_le _⟩, rfl, rfl⟩ [0] rfl rfl rfl (Nat.le_of_ble_eq_true rfl) rfl dX12_worse_157 ?_
      refine j_iload hE dX12_worse_160 5 rfl ?_
      refine j_if_ne (tgt := 172) hE hf dX12_worse_162 (by decide) (fun c18 hf => ?_) (fun c18 hf => ?_)
      · refine j_aload_n hE dX12_worse_172 rfl 0 rfl ?_
        refine j_get (v := .long (q16 46 0)) hE lg_Mo_271 0 rfl 0 (wg_Mo_0 g a mo_z q16) rfl dX12_worse_173 ?_
        obtain rfl := Option.some.inj hf
        exact j_lret hE hq rfl rfl dX12_worse_176
      · refine j_aload_n hE dX12_worse_165 rfl 0 rfl ?_
        refine j_get (v := .long (q16 45 0)) hE lg_Mo_267 0 rfl 0 (wg_Mo_0 g a mo_z q16) rfl dX12_worse_166 ?_
        refine j_goto (tgt := 176) hE dX12_worse_169 (by decide) ?_
        obtain rfl := Option.some.inj hf
        exact j_lret hE hq rfl rfl dX12_worse_176
    · refine j_iconst (v := 0) hE dX12_worse_72 (by decide) ?_
      refine j_istore (lv' := [(11, .int 0), (0, .ref (a 0)), (1, .int x1), (2, .int x2), (3, .int x3), (4, .int x4), (5, .int x5), (6, .long v6), (8, .long v8), (10, .int v10)]) hE dX12_worse_73 (by decide) rfl ?_
      exact j_sub [1, 2, 3, 4, 5, 6, 7, 8, 9, 0] rfl (j_Mo_worse_75 E g a x1 x2 x3 x4 x5 res hE hq (fun mo_z mo_y v6 v8 v10 => f_Mo_worse_63 x1 x2 x3 x4 x5 n mo_z mo_y v6 v8 v10) (fun mo_z mo_y v6 v8 v10 hf => ih mo_z mo_y v6 v8 v10 hf) FU mo_z mo_y v6 v8 v10 0 hf)
set_option maxRecDepth 100000 in
theorem c_Mo_worse (l : Launch) (g : jG) (a : Nat → Nat) (mo_z : jZ) (mo_y : jY) (x1 : Int32) (x2 : Int32) (x3 : Int32) (x4 : Int32) (x5 : Int32) (res : jZ × jY × Int64) (hf : f_Mo_worse mo_z mo_y x1 x2 x3 x4 x5 = some res) : MC l g yX12_worse cX12_worse 14 (some .long) rm_Mo_worse [.ref (a 0), .int x1, .int x2, .int x3, .int x4, .int x5] (([n_Mo g a mo_z mo_y] : List va_W)) (some (.long res.2.2)) (([n_Mo g a res.1 res.2.1] : List va_W)) 0 0 := by
  refine MC_of (own := RX12) (lv := [(0, .ref (a 0)), (1, .int x1), (2, .int x2), (3, .int x3), (4, .int x4), (5, .int x5)]) (by decide) rfl (Nat.le_of_ble_eq_true rfl) rfl rfl (fun E hE hq => ?_)
  unfold f_Mo_worse at hf
  refine j_aload_n hE dX12_worse_0 rfl 0 rfl ?_
  refine j_iconst (v := 0) hE dX12_worse_1 (by decide) ?_
  refine j_put (v := .int 0) (ws' := ([n_Mo g a (up2 mo_z 0 0 0) mo_y] : List va_W)) hE lp_Mo_87 0 rfl 0 (wg_Mo_0 g a mo_z mo_y) rfl rfl (Nat.le_of_ble_eq_true rfl) (wp_Mo_0 g a mo_z mo_y 0) rfl dX12_worse_2 ?_
  refine j_aload_n hE dX12_worse_5 rfl 0 rfl ?_
  refine j_iload_n hE dX12_worse_6 rfl 1 rfl ?_
  obtain ⟨q1, hc2, hf⟩ := bind_of hf
  refine j_callV (ws' := ([n_Mo g a (up2 mo_z 0 0 0) mo_y] : List va_W)) (As := [.int x1]) (rest := []) (st2 := [.int q1]) hE (fun l => c_Mo_isPlace l g a (up2 mo_z 0 0 0) mo_y x1 q1 hc2) cd_X12_isPlace cv_X12_isPlace ml_Mo_252 rfl rfl rfl (wg_Mo_0 _ _ _ _) ⟨⟨Nat.le_of_ble_eq_true rfl, Nat.le_of_ble_eq_true rfl⟩, ⟨Nat.zero_le _, Nat.zero_le _⟩, rfl, rfl⟩ [0] rfl rfl rfl (Nat.le_of_ble_eq_true rfl) rfl dX12_worse_7 ?_
  refine j_if_eq (tgt := 46) hE hf dX12_worse_10 (by decide) (fun c3 hf => ?_) (fun c3 hf => ?_)
  · refine j_ldc2 hE co_Mo_292 dX12_worse_46 ?_
    obtain rfl := Option.some.inj hf
    exact j_lret hE hq rfl rfl dX12_worse_49
  · refine j_aload_n hE dX12_worse_13 rfl 0 rfl ?_
    refine j_iload_n hE dX12_worse_14 rfl 2 rfl ?_
    obtain ⟨q4, hc5, hf⟩ := bind_of hf
    refine j_callV (ws' := ([n_Mo g a (up2 mo_z 0 0 0) mo_y] : List va_W)) (As := [.int x2]) (rest := []) (st2 := [.int q4]) hE (fun l => c_Mo_isPlace l g a (up2 mo_z 0 0 0) mo_y x2 q4 hc5) cd_X12_isPlace cv_X12_isPlace ml_Mo_252 rfl rfl rfl (wg_Mo_0 _ _ _ _) ⟨⟨Nat.le_of_ble_eq_true rfl, Nat.le_of_ble_eq_true rfl⟩, ⟨Nat.zero_le _, Nat.zero_le _⟩, rfl, rfl⟩ [0] rfl rfl rfl (Nat.le_of_ble_eq_true rfl) rfl dX12_worse_15 ?_
    refine j_if_eq (tgt := 46) hE hf dX12_worse_18 (by decide) (fun c6 hf => ?_) (fun c6 hf => ?_)
    · refine j_ldc2 hE co_Mo_292 dX12_worse_46 ?_
      obtain rfl := Option.some.inj hf
      exact j_lret hE hq rfl rfl dX12_worse_49
    · refine j_iload_n hE dX12_worse_21 rfl 1 rfl ?_
      refine j_iload_n hE dX12_worse_22 rfl 2 rfl ?_
      refine j_icmp_eq (tgt := 46) hE hf dX12_worse_23 (by decide) (fun c7 hf => ?_) (fun c7 hf => ?_)
      · refine j_ldc2 hE co_Mo_292 dX12_worse_46 ?_
        obtain rfl := Option.some.inj hf
        exact j_lret hE hq rfl rfl dX12_worse_49
      · refine j_iload_n hE dX12_worse_26 rfl 3 rfl ?_
        refine j_iload hE dX12_worse_27 4 rfl ?_
        obtain ⟨q8, hc9, hf⟩ := bind_of hf
        refine j_callS (ws' := ([n_Mo g a (up2 mo_z 0 0 0) mo_y] : List va_W)) (As := [.int x3, .int x4]) (rest := []) (st2 := [.int q8]) hE (fun l => c_Mo_areYears l g x3 x4 q8 hc9) cd_X12_areYears st_X12_areYears ml_Mo_288 rfl rfl ⟨⟨Nat.le_of_ble_eq_true rfl, Nat.le_of_ble_eq_true rfl⟩, ⟨Nat.zero_le _, Nat.zero_le _⟩, rfl, rfl⟩ [] rfl rfl rfl (Nat.le_of_ble_eq_true rfl) rfl dX12_worse_29 ?_
        refine j_if_eq (tgt := 46) hE hf dX12_worse_32 (by decide) (fun c10 hf => ?_) (fun c10 hf => ?_)
        · refine j_ldc2 hE co_Mo_292 dX12_worse_46 ?_
          obtain rfl := Option.some.inj hf
          exact j_lret hE hq rfl rfl dX12_worse_49
        · refine j_iload hE dX12_worse_35 5 rfl ?_
          refine j_if_lt (tgt := 46) hE hf dX12_worse_37 (by decide) (fun c11 hf => ?_) (fun c11 hf => ?_)
          · refine j_ldc2 hE co_Mo_292 dX12_worse_46 ?_
            obtain rfl := Option.some.inj hf
            exact j_lret hE hq rfl rfl dX12_worse_49
          · refine j_iload hE dX12_worse_40 5 rfl ?_
            refine j_iconst (v := 1) hE dX12_worse_42 (by decide) ?_
            refine j_icmp_le (tgt := 50) hE hf dX12_worse_43 (by decide) (fun c12 hf => ?_) (fun c12 hf => ?_)
            · refine j_aload_n hE dX12_worse_50 rfl 0 rfl ?_
              obtain ⟨q13, hc14, hf⟩ := bind_of hf
              refine j_callV (ws' := ([n_Mo g a q13 mo_y] : List va_W)) (As := []) (rest := []) (st2 := []) hE (fun l => c_Mo_knows l g a (up2 mo_z 0 0 0) mo_y q13 hc14) cd_X12_knows cv_X12_knows ml_Mo_255 rfl rfl rfl (wg_Mo_0 _ _ _ _) ⟨⟨Nat.le_of_ble_eq_true rfl, Nat.le_of_ble_eq_true rfl⟩, ⟨Nat.zero_le _, Nat.zero_le _⟩, rfl, rfl⟩ [0] rfl rfl rfl (Nat.le_of_ble_eq_true rfl) rfl dX12_worse_51 ?_
              refine j_lconst (v := 0) hE dX12_worse_54 (by decide) ?_
              refine j_lstore (lv' := [(6, .long 0), (0, .ref (a 0)), (1, .int x1), (2, .int x2), (3, .int x3), (4, .int x4), (5, .int x5)]) hE dX12_worse_55 (by decide) rfl ?_
              refine j_lconst (v := 0) hE dX12_worse_57 (by decide) ?_
              refine j_lstore (lv' := [(8, .long 0), (6, .long 0), (0, .ref (a 0)), (1, .int x1), (2, .int x2), (3, .int x3), (4, .int x4), (5, .int x5)]) hE dX12_worse_58 (by decide) rfl ?_
              refine j_iconst (v := 0) hE dX12_worse_60 (by decide) ?_
              refine j_istore (lv' := [(10, .int 0), (8, .long 0), (6, .long 0), (0, .ref (a 0)), (1, .int x1), (2, .int x2), (3, .int x3), (4, .int x4), (5, .int x5)]) hE dX12_worse_61 (by decide) rfl ?_
              exact j_sub [3, 4, 5, 6, 7, 8, 2, 1, 0] rfl (j_Mo_worse_63 E g a x1 x2 x3 x4 x5 res hE hq FU q13 mo_y 0 0 0 hf)
            · refine j_ldc2 hE co_Mo_292 dX12_worse_46 ?_
              obtain rfl := Option.some.inj hf
              exact j_lret hE hq rfl rfl dX12_worse_49
def rm_Mo_nameOf : Room := { frames := 1, cells := 0, slots := 0, locals := 21 }
def f_Mo_nameOf (mo_z : jZ) (x1 : Int32) (x2 : Int32) : Option (Int64) := (if x1 = 0 then (ix 0 3).bind fun _ => some (Int32.toInt64 (mo_z 49 (Int32.toNatClampNeg 0)))
    else (if x1 = 1 then (ix 1 3).bind fun _ => some (Int32.toInt64 (mo_z 49 (Int32.toNatClampNeg 1)))
    else (if x1 = 2 then (ix 2 3).bind fun _ => some (Int32.toInt64 (mo_z 49 (Int32.toNatClampNeg 2)))
    else (if x1 = 3 then (ix 0 3).bind fun _ => (ix 1 3).bind fun _ => (ix 2 3).bind fun _ => some (Int32.toInt64 (((mo_z 49 (Int32.toNatClampNeg 0)) + (mo_z 49 (Int32.toNatClampNeg 1))) + (mo_z 49 (Int32.toNatClampNeg 2))))
    else (if x1 = 4 then (ix 0 3).bind fun _ => (ix 1 3).bind fun _ => (ix 2 3).bind fun _ => some (Int32.toInt64 (if (mo_z 49 (Int32.toNatClampNeg 0)) < (if (mo_z 49 (Int32.toNatClampNeg 1)) < (mo_z 49 (Int32.toNatClampNeg 2)) then (mo_z 49 (Int32.toNatClampNeg 2)) else (mo_z 49 (Int32.toNatClampNeg 1))) then (if (mo_z 49 (Int32.toNatClampNeg 1)) < (mo_z 49 (Int32.toNatClampNeg 2)) then (mo_z 49 (Int32.toNatClampNeg 2)) else (mo_z 49 (Int32.toNatClampNeg 1))) else (mo_z 49 (Int32.toNatClampNeg 0))))
    else (if x1 = 5 then (ix 0 3).bind fun _ => (ix 1 3).bind fun _ => (ix 2 3).bind fun _ => some (Int32.toInt64 (if (if (mo_z 49 (Int32.toNatClampNeg 2)) < (mo_z 49 (Int32.toNatClampNeg 1)) then (mo_z 49 (Int32.toNatClampNeg 2)) else (mo_z 49 (Int32.toNatClampNeg 1))) < (mo_z 49 (Int32.toNatClampNeg 0)) then (if (mo_z 49 (Int32.toNatClampNeg 2)) < (mo_z 49 (Int32.toNatClampNeg 1)) then (mo_z 49 (Int32.toNatClampNeg 2)) else (mo_z 49 (Int32.toNatClampNeg 1))) else (mo_z 49 (Int32.toNatClampNeg 0))))
    else some (Int32.toInt64 x2)))))))
set_option maxRecDepth 100000 in
theorem c_Mo_nameOf (l : Launch) (g : jG) (a : Nat → Nat) (mo_z : jZ) (mo_y : jY) (x1 : Int32) (x2 : Int32) (res : Int64) (hf : f_Mo_nameOf mo_z x1 x2 = some res) : MC l g yX12_nameOf cX12_nameOf 3 (some .long) rm_Mo_nameOf [.ref (a 0), .int x1, .int x2] (([n_Mo g a mo_z mo_y] : List va_W)) (some (.long res)) (([n_Mo g a mo_z mo_y] : List va_W)) 0 0 := by
  refine MC_of (own := RX12) (lv := [(0, .ref (a 0)), (1, .int x1), (2, .int x2)]) (by decide) rfl (Nat.le_of_ble_eq_true rfl) rfl rfl (fun E hE hq => ?_)
  unfold f_Mo_nameOf at hf
  refine j_iload_n hE dX12_nameOf_0 rfl 1 rfl ?_
  refine j_case hf (fun c1 hf => ?_) (fun c1 hf => ?_)
  · refine j_tableIn (tgt := 40) hE dX12_nameOf_1 (by rw [c1]; decide) (by rw [c1]; decide) (by rw [c1]; try rfl) (by decide) ?_
    refine j_aload_n hE dX12_nameOf_40 rfl 0 rfl ?_
    refine j_get (v := .ref (a 20)) hE lg_Mo_81 0 rfl 0 (wg_Mo_0 g a mo_z mo_y) rfl dX12_nameOf_41 ?_
    refine j_iconst (v := 0) hE dX12_nameOf_44 (by decide) ?_
    refine j_iald hE hf 0 rfl 20 (wg_Mo_20 g a mo_z mo_y) dX12_nameOf_45 (fun hf => ?_)
    refine j_i2l hE dX12_nameOf_46 ?_
    obtain rfl := Option.some.inj hf
    exact j_lret hE hq rfl rfl dX12_nameOf_47
  refine j_case hf (fun c3 hf => ?_) (fun c3 hf => ?_)
  · refine j_tableIn (tgt := 48) hE dX12_nameOf_1 (by rw [c3]; decide) (by rw [c3]; decide) (by rw [c3]; try rfl) (by decide) ?_
    refine j_aload_n hE dX12_nameOf_48 rfl 0 rfl ?_
    refine j_get (v := .ref (a 20)) hE lg_Mo_81 0 rfl 0 (wg_Mo_0 g a mo_z mo_y) rfl dX12_nameOf_49 ?_
    refine j_iconst (v := 1) hE dX12_nameOf_52 (by decide) ?_
    refine j_iald hE hf 0 rfl 20 (wg_Mo_20 g a mo_z mo_y) dX12_nameOf_53 (fun hf => ?_)
    refine j_i2l hE dX12_nameOf_54 ?_
    obtain rfl := Option.some.inj hf
    exact j_lret hE hq rfl rfl dX12_nameOf_55
  refine j_case hf (fun c5 hf => ?_) (fun c5 hf => ?_)
  · refine j_tableIn (tgt := 56) hE dX12_nameOf_1 (by rw [c5]; decide) (by rw [c5]; decide) (by rw [c5]; try rfl) (by decide) ?_
    refine j_aload_n hE dX12_nameOf_56 rfl 0 rfl ?_
    refine j_get (v := .ref (a 20)) hE lg_Mo_81 0 rfl 0 (wg_Mo_0 g a mo_z mo_y) rfl dX12_nameOf_57 ?_
    refine j_iconst (v := 2) hE dX12_nameOf_60 (by decide) ?_
    refine j_iald hE hf 0 rfl 20 (wg_Mo_20 g a mo_z mo_y) dX12_nameOf_61 (fun hf => ?_)
    refine j_i2l hE dX12_nameOf_62 ?_
    obtain rfl := Option.some.inj hf
    exact j_lret hE hq rfl rfl dX12_nameOf_63
  refine j_case hf (fun c7 hf => ?_) (fun c7 hf => ?_)
  · refine j_tableIn (tgt := 64) hE dX12_nameOf_1 (by rw [c7]; decide) (by rw [c7]; decide) (by rw [c7]; try rfl) (by decide) ?_
    refine j_aload_n hE dX12_nameOf_64 rfl 0 rfl ?_
    refine j_get (v := .ref (a 20)) hE lg_Mo_81 0 rfl 0 (wg_Mo_0 g a mo_z mo_y) rfl dX12_nameOf_65 ?_
    refine j_iconst (v := 0) hE dX12_nameOf_68 (by decide) ?_
    refine j_iald hE hf 0 rfl 20 (wg_Mo_20 g a mo_z mo_y) dX12_nameOf_69 (fun hf => ?_)
    refine j_aload_n hE dX12_nameOf_70 rfl 0 rfl ?_
    refine j_get (v := .ref (a 20)) hE lg_Mo_81 0 rfl 0 (wg_Mo_0 g a mo_z mo_y) rfl dX12_nameOf_71 ?_
    refine j_iconst (v := 1) hE dX12_nameOf_74 (by decide) ?_
    refine j_iald hE hf 0 rfl 20 (wg_Mo_20 g a mo_z mo_y) dX12_nameOf_75 (fun hf => ?_)
    refine j_iadd hE dX12_nameOf_76 ?_
    refine j_aload_n hE dX12_nameOf_77 rfl 0 rfl ?_
    refine j_get (v := .ref (a 20)) hE lg_Mo_81 0 rfl 0 (wg_Mo_0 g a mo_z mo_y) rfl dX12_nameOf_78 ?_
    refine j_iconst (v := 2) hE dX12_nameOf_81 (by decide) ?_
    refine j_iald hE hf 0 rfl 20 (wg_Mo_20 g a mo_z mo_y) dX12_nameOf_82 (fun hf => ?_)
    refine j_iadd hE dX12_nameOf_83 ?_
    refine j_i2l hE dX12_nameOf_84 ?_
    obtain rfl := Option.some.inj hf
    exact j_lret hE hq rfl rfl dX12_nameOf_85
  refine j_case hf (fun c11 hf => ?_) (fun c11 hf => ?_)
  · refine j_tableIn (tgt := 86) hE dX12_nameOf_1 (by rw [c11]; decide) (by rw [c11]; decide) (by rw [c11]; try rfl) (by decide) ?_
    refine j_aload_n hE dX12_nameOf_86 rfl 0 rfl ?_
    refine j_get (v := .ref (a 20)) hE lg_Mo_81 0 rfl 0 (wg_Mo_0 g a mo_z mo_y) rfl dX12_nameOf_87 ?_
    refine j_iconst (v := 0) hE dX12_nameOf_90 (by decide) ?_
    refine j_iald hE hf 0 rfl 20 (wg_Mo_20 g a mo_z mo_y) dX12_nameOf_91 (fun hf => ?_)
    refine j_aload_n hE dX12_nameOf_92 rfl 0 rfl ?_
    refine j_get (v := .ref (a 20)) hE lg_Mo_81 0 rfl 0 (wg_Mo_0 g a mo_z mo_y) rfl dX12_nameOf_93 ?_
    refine j_iconst (v := 1) hE dX12_nameOf_96 (by decide) ?_
    refine j_iald hE hf 0 rfl 20 (wg_Mo_20 g a mo_z mo_y) dX12_nameOf_97 (fun hf => ?_)
    refine j_aload_n hE dX12_nameOf_98 rfl 0 rfl ?_
    refine j_get (v := .ref (a 20)) hE lg_Mo_81 0 rfl 0 (wg_Mo_0 g a mo_z mo_y) rfl dX12_nameOf_99 ?_
    refine j_iconst (v := 2) hE dX12_nameOf_102 (by decide) ?_
    refine j_iald hE hf 0 rfl 20 (wg_Mo_20 g a mo_z mo_y) dX12_nameOf_103 (fun hf => ?_)
    refine j_mmax hE fm_mmax ml_Mo_306 ⟨⟨Nat.le_of_ble_eq_true rfl, Nat.le_of_ble_eq_true rfl⟩, Nat.zero_le _, Nat.zero_le _⟩ dX12_nameOf_104 ?_
    refine j_mmax hE fm_mmax ml_Mo_306 ⟨⟨Nat.le_of_ble_eq_true rfl, Nat.le_of_ble_eq_true rfl⟩, Nat.zero_le _, Nat.zero_le _⟩ dX12_nameOf_107 ?_
    refine j_i2l hE dX12_nameOf_110 ?_
    obtain rfl := Option.some.inj hf
    exact j_lret hE hq rfl rfl dX12_nameOf_111
  refine j_case hf (fun c15 hf => ?_) (fun c15 hf => ?_)
  · refine j_tableIn (tgt := 112) hE dX12_nameOf_1 (by rw [c15]; decide) (by rw [c15]; decide) (by rw [c15]; try rfl) (by decide) ?_
    refine j_aload_n hE dX12_nameOf_112 rfl 0 rfl ?_
    refine j_get (v := .ref (a 20)) hE lg_Mo_81 0 rfl 0 (wg_Mo_0 g a mo_z mo_y) rfl dX12_nameOf_113 ?_
    refine j_iconst (v := 0) hE dX12_nameOf_116 (by decide) ?_
    refine j_iald hE hf 0 rfl 20 (wg_Mo_20 g a mo_z mo_y) dX12_nameOf_117 (fun hf => ?_)
    refine j_aload_n hE dX12_nameOf_118 rfl 0 rfl ?_
    refine j_get (v := .ref (a 20)) hE lg_Mo_81 0 rfl 0 (wg_Mo_0 g a mo_z mo_y) rfl dX12_nameOf_119 ?_
    refine j_iconst (v := 1) hE dX12_nameOf_122 (by decide) ?_
    refine j_iald hE hf 0 rfl 20 (wg_Mo_20 g a mo_z mo_y) dX12_nameOf_123 (fun hf => ?_)
    refine j_aload_n hE dX12_nameOf_124 rfl 0 rfl ?_
    refine j_get (v := .ref (a 20)) hE lg_Mo_81 0 rfl 0 (wg_Mo_0 g a mo_z mo_y) rfl dX12_nameOf_125 ?_
    refine j_iconst (v := 2) hE dX12_nameOf_128 (by decide) ?_
    refine j_iald hE hf 0 rfl 20 (wg_Mo_20 g a mo_z mo_y) dX12_nameOf_129 (fun hf => ?_)
    refine j_mmin hE fm_mmin ml_Mo_303 ⟨⟨Nat.le_of_ble_eq_true rfl, Nat.le_of_ble_eq_true rfl⟩, Nat.zero_le _, Nat.zero_le _⟩ dX12_nameOf_130 ?_
    refine j_mmin hE fm_mmin ml_Mo_303 ⟨⟨Nat.le_of_ble_eq_true rfl, Nat.le_of_ble_eq_true rfl⟩, Nat.zero_le _, Nat.zero_le _⟩ dX12_nameOf_133 ?_
    refine j_i2l hE dX12_nameOf_136 ?_
    obtain rfl := Option.some.inj hf
    exact j_lret hE hq rfl rfl dX12_nameOf_137
  have t_c1 : 0 ≠ Int32.toInt x1 := fun h => c1 (Int32.toInt_inj.mp (h.symm.trans (by decide)))
  have t_c3 : 1 ≠ Int32.toInt x1 := fun h => c3 (Int32.toInt_inj.mp (h.symm.trans (by decide)))
  have t_c5 : 2 ≠ Int32.toInt x1 := fun h => c5 (Int32.toInt_inj.mp (h.symm.trans (by decide)))
  have t_c7 : 3 ≠ Int32.toInt x1 := fun h => c7 (Int32.toInt_inj.mp (h.symm.trans (by decide)))
  have t_c11 : 4 ≠ Int32.toInt x1 := fun h => c11 (Int32.toInt_inj.mp (h.symm.trans (by decide)))
  have t_c15 : 5 ≠ Int32.toInt x1 := fun h => c15 (Int32.toInt_inj.mp (h.symm.trans (by decide)))
  refine j_tableOut (tgt := 138) hE dX12_nameOf_1 (by omega) (by decide) ?_
  refine j_iload_n hE dX12_nameOf_138 rfl 2 rfl ?_
  refine j_i2l hE dX12_nameOf_139 ?_
  obtain rfl := Option.some.inj hf
  exact j_lret hE hq rfl rfl dX12_nameOf_140
def rm_Mo_is : Room := { frames := 0, cells := 0, slots := 0, locals := 0 }
def f_Mo_is  (x0 : Int32) : Option (Int64) := (if x0 = 0 then some 0
    else some 1)
set_option maxRecDepth 100000 in
theorem c_Mo_is (l : Launch) (g : jG)   (x0 : Int32) (res : Int64) (hf : f_Mo_is x0 = some res) : MC l g yX12_is cX12_is 1 (some .long) rm_Mo_is [.int x0] (([] : List va_W)) (some (.long res)) (([] : List va_W)) 0 0 := by
  refine MC_of (own := RX12) (lv := [(0, .int x0)]) (by decide) rfl (Nat.le_of_ble_eq_true rfl) rfl rfl (fun E hE hq => ?_)
  unfold f_Mo_is at hf
  refine j_iload_n hE dX12_is_0 rfl 0 rfl ?_
  refine j_if_eq (tgt := 8) hE hf dX12_is_1 (by decide) (fun c1 hf => ?_) (fun c1 hf => ?_)
  · refine j_lconst (v := 0) hE dX12_is_8 (by decide) ?_
    obtain rfl := Option.some.inj hf
    exact j_lret hE hq rfl rfl dX12_is_9
  · refine j_lconst (v := 1) hE dX12_is_4 (by decide) ?_
    refine j_goto (tgt := 9) hE dX12_is_5 (by decide) ?_
    obtain rfl := Option.some.inj hf
    exact j_lret hE hq rfl rfl dX12_is_9
def rm_Mo_works : Room := { frames := 1, cells := 0, slots := 0, locals := 21 }
def f_Mo_works_407  (x1 : Int32)  (mo_z : jZ) (mo_y : jY) (v6 : Int64) : Option (jZ × jY × Int32) := (ix ((mo_z 48 0) - 1) 64).bind fun _ => (if 0 < (lg_cmp v6 1000000000000) then some (mo_z, (up2 mo_y 47 (Int32.toNatClampNeg ((mo_z 48 0) - 1)) v6), 0)
    else (if (lg_cmp v6 (-1000000000000)) < 0 then some (mo_z, (up2 mo_y 47 (Int32.toNatClampNeg ((mo_z 48 0) - 1)) v6), 0)
    else some (mo_z, (up2 mo_y 47 (Int32.toNatClampNeg ((mo_z 48 0) - 1)) v6), 1)))
def f_Mo_works (mo_z : jZ) (mo_y : jY) (x1 : Int32) : Option (jZ × jY × Int32) := (ix ((mo_z 48 0) - 1) 64).bind fun _ => (if x1 = 260 then (if (lg_cmp (mo_y 47 (Int32.toNatClampNeg ((mo_z 48 0) - 1))) 0) = 0 then (f_Mo_is 1).bind fun q67 => (ix ((mo_z 48 0) - 1) 64).bind fun _ => some (mo_z, (up2 mo_y 47 (Int32.toNatClampNeg ((mo_z 48 0) - 1)) q67), 1)
    else (f_Mo_is 0).bind fun q65 => (ix ((mo_z 48 0) - 1) 64).bind fun _ => some (mo_z, (up2 mo_y 47 (Int32.toNatClampNeg ((mo_z 48 0) - 1)) q65), 1))
    else (ix ((mo_z 48 0) - 2) 64).bind fun _ => (if x1 = 42 then (if (lg_cmp (mo_y 47 (Int32.toNatClampNeg ((mo_z 48 0) - 2))) 0) = 0 then f_Mo_works_407 x1 (up2 mo_z 48 0 ((mo_z 48 0) - 1)) mo_y ((mo_y 47 (Int32.toNatClampNeg ((mo_z 48 0) - 2))) * (mo_y 47 (Int32.toNatClampNeg ((mo_z 48 0) - 1))))
    else (nzl (if 0 < (mo_y 47 (Int32.toNatClampNeg ((mo_z 48 0) - 2))) then (mo_y 47 (Int32.toNatClampNeg ((mo_z 48 0) - 2))) else -(mo_y 47 (Int32.toNatClampNeg ((mo_z 48 0) - 2))))).bind fun _ => (if (lg_cmp (if 0 < (mo_y 47 (Int32.toNatClampNeg ((mo_z 48 0) - 1))) then (mo_y 47 (Int32.toNatClampNeg ((mo_z 48 0) - 1))) else -(mo_y 47 (Int32.toNatClampNeg ((mo_z 48 0) - 1)))) (1000000000000 / (if 0 < (mo_y 47 (Int32.toNatClampNeg ((mo_z 48 0) - 2))) then (mo_y 47 (Int32.toNatClampNeg ((mo_z 48 0) - 2))) else -(mo_y 47 (Int32.toNatClampNeg ((mo_z 48 0) - 2)))))) ≤ 0 then f_Mo_works_407 x1 (up2 mo_z 48 0 ((mo_z 48 0) - 1)) mo_y ((mo_y 47 (Int32.toNatClampNeg ((mo_z 48 0) - 2))) * (mo_y 47 (Int32.toNatClampNeg ((mo_z 48 0) - 1))))
    else some ((up2 mo_z 48 0 ((mo_z 48 0) - 1)), mo_y, 0)))
    else (if x1 = 43 then f_Mo_works_407 x1 (up2 mo_z 48 0 ((mo_z 48 0) - 1)) mo_y ((mo_y 47 (Int32.toNatClampNeg ((mo_z 48 0) - 2))) + (mo_y 47 (Int32.toNatClampNeg ((mo_z 48 0) - 1))))
    else (if x1 = 45 then f_Mo_works_407 x1 (up2 mo_z 48 0 ((mo_z 48 0) - 1)) mo_y ((mo_y 47 (Int32.toNatClampNeg ((mo_z 48 0) - 2))) - (mo_y 47 (Int32.toNatClampNeg ((mo_z 48 0) - 1))))
    else (if x1 = 47 then (if (lg_cmp (mo_y 47 (Int32.toNatClampNeg ((mo_z 48 0) - 1))) 0) = 0 then some ((up2 mo_z 48 0 ((mo_z 48 0) - 1)), mo_y, 0)
    else (nzl (mo_y 47 (Int32.toNatClampNeg ((mo_z 48 0) - 1)))).bind fun _ => f_Mo_works_407 x1 (up2 mo_z 48 0 ((mo_z 48 0) - 1)) mo_y ((mo_y 47 (Int32.toNatClampNeg ((mo_z 48 0) - 2))) / (mo_y 47 (Int32.toNatClampNeg ((mo_z 48 0) - 1)))))
    else (if x1 = 60 then (if 0 ≤ (lg_cmp (mo_y 47 (Int32.toNatClampNeg ((mo_z 48 0) - 2))) (mo_y 47 (Int32.toNatClampNeg ((mo_z 48 0) - 1)))) then (f_Mo_is 0).bind fun q13 => f_Mo_works_407 x1 (up2 mo_z 48 0 ((mo_z 48 0) - 1)) mo_y q13
    else (f_Mo_is 1).bind fun q15 => f_Mo_works_407 x1 (up2 mo_z 48 0 ((mo_z 48 0) - 1)) mo_y q15)
    else (if x1 = 61 then (if (lg_cmp (mo_y 47 (Int32.toNatClampNeg ((mo_z 48 0) - 2))) (mo_y 47 (Int32.toNatClampNeg ((mo_z 48 0) - 1)))) = 0 then (f_Mo_is 1).bind fun q21 => f_Mo_works_407 x1 (up2 mo_z 48 0 ((mo_z 48 0) - 1)) mo_y q21
    else (f_Mo_is 0).bind fun q19 => f_Mo_works_407 x1 (up2 mo_z 48 0 ((mo_z 48 0) - 1)) mo_y q19)
    else (if x1 = 62 then (if (lg_cmp (mo_y 47 (Int32.toNatClampNeg ((mo_z 48 0) - 2))) (mo_y 47 (Int32.toNatClampNeg ((mo_z 48 0) - 1)))) ≤ 0 then (f_Mo_is 0).bind fun q25 => f_Mo_works_407 x1 (up2 mo_z 48 0 ((mo_z 48 0) - 1)) mo_y q25
    else (f_Mo_is 1).bind fun q27 => f_Mo_works_407 x1 (up2 mo_z 48 0 ((mo_z 48 0) - 1)) mo_y q27)
    else (if x1 = 256 then (if 0 < (lg_cmp (mo_y 47 (Int32.toNatClampNeg ((mo_z 48 0) - 2))) (mo_y 47 (Int32.toNatClampNeg ((mo_z 48 0) - 1)))) then (f_Mo_is 0).bind fun q31 => f_Mo_works_407 x1 (up2 mo_z 48 0 ((mo_z 48 0) - 1)) mo_y q31
    else (f_Mo_is 1).bind fun q33 => f_Mo_works_407 x1 (up2 mo_z 48 0 ((mo_z 48 0) - 1)) mo_y q33)
    else (if x1 = 257 then (if (lg_cmp (mo_y 47 (Int32.toNatClampNeg ((mo_z 48 0) - 2))) (mo_y 47 (Int32.toNatClampNeg ((mo_z 48 0) - 1)))) = 0 then (f_Mo_is 0).bind fun q37 => f_Mo_works_407 x1 (up2 mo_z 48 0 ((mo_z 48 0) - 1)) mo_y q37
    else (f_Mo_is 1).bind fun q39 => f_Mo_works_407 x1 (up2 mo_z 48 0 ((mo_z 48 0) - 1)) mo_y q39)
    else (if x1 = 258 then (if (lg_cmp (mo_y 47 (Int32.toNatClampNeg ((mo_z 48 0) - 2))) (mo_y 47 (Int32.toNatClampNeg ((mo_z 48 0) - 1)))) < 0 then (f_Mo_is 0).bind fun q43 => f_Mo_works_407 x1 (up2 mo_z 48 0 ((mo_z 48 0) - 1)) mo_y q43
    else (f_Mo_is 1).bind fun q45 => f_Mo_works_407 x1 (up2 mo_z 48 0 ((mo_z 48 0) - 1)) mo_y q45)
    else (if x1 = 261 then (if (lg_cmp (mo_y 47 (Int32.toNatClampNeg ((mo_z 48 0) - 2))) 0) = 0 then (f_Mo_is 0).bind fun q49 => f_Mo_works_407 x1 (up2 mo_z 48 0 ((mo_z 48 0) - 1)) mo_y q49
    else (if (lg_cmp (mo_y 47 (Int32.toNatClampNeg ((mo_z 48 0) - 1))) 0) = 0 then (f_Mo_is 0).bind fun q52 => f_Mo_works_407 x1 (up2 mo_z 48 0 ((mo_z 48 0) - 1)) mo_y q52
    else (f_Mo_is 1).bind fun q54 => f_Mo_works_407 x1 (up2 mo_z 48 0 ((mo_z 48 0) - 1)) mo_y q54))
    else (if (lg_cmp (mo_y 47 (Int32.toNatClampNeg ((mo_z 48 0) - 2))) 0) = 0 then (if (lg_cmp (mo_y 47 (Int32.toNatClampNeg ((mo_z 48 0) - 1))) 0) = 0 then (f_Mo_is 0).bind fun q60 => f_Mo_works_407 x1 (up2 mo_z 48 0 ((mo_z 48 0) - 1)) mo_y q60
    else (f_Mo_is 1).bind fun q62 => f_Mo_works_407 x1 (up2 mo_z 48 0 ((mo_z 48 0) - 1)) mo_y q62)
    else (f_Mo_is 1).bind fun q57 => f_Mo_works_407 x1 (up2 mo_z 48 0 ((mo_z 48 0) - 1)) mo_y q57)))))))))))))
set_option maxRecDepth 100000 in
theorem j_Mo_works_407 (E : jT) (g : jG) (a : Nat → Nat)  (x1 : Int32) (res : jZ × jY × Int32) (hE : jOk E g RX12 cX12_works 8 (some .boolean) rm_Mo_works) (hq : jEnd E g (some (.int res.2.2)) (([n_Mo g a res.1 res.2.1] : List va_W)) 0 0)  (mo_z : jZ) (mo_y : jY) (v6 : Int64) (hf : f_Mo_works_407 x1 mo_z mo_y v6 = some res) : J E g 0 0 (([n_Mo g a mo_z mo_y] : List va_W)) [(0, .ref (a 0)), (6, .long v6)] 407 [] := by
  unfold f_Mo_works_407 at hf
  refine j_aload_n hE dX12_works_407 rfl 0 rfl ?_
  refine j_get (v := .ref (a 19)) hE lg_Mo_77 0 rfl 0 (wg_Mo_0 g a mo_z mo_y) rfl dX12_works_408 ?_
  refine j_aload_n hE dX12_works_411 rfl 0 rfl ?_
  refine j_get (v := .int (mo_z 48 0)) hE lg_Mo_309 0 rfl 0 (wg_Mo_0 g a mo_z mo_y) rfl dX12_works_412 ?_
  refine j_iconst (v := 1) hE dX12_works_415 (by decide) ?_
  refine j_isub hE dX12_works_416 ?_
  refine j_lload hE dX12_works_417 1 rfl ?_
  refine j_last (ws' := ([n_Mo g a mo_z (up2 mo_y 47 (Int32.toNatClampNeg ((mo_z 48 0) - 1)) v6)] : List va_W)) hE hf 0 rfl 19 (wg_Mo_19 g a mo_z mo_y) (wa_Mo_19 g a mo_z mo_y (Int32.toNatClampNeg ((mo_z 48 0) - 1)) v6) rfl dX12_works_419 (fun hf => ?_)
  refine j_lload hE dX12_works_420 1 rfl ?_
  refine j_ldc2 hE co_Mo_316 dX12_works_422 ?_
  refine j_lcmp hE dX12_works_425 ?_
  refine j_if_gt (tgt := 442) hE hf dX12_works_426 (by decide) (fun c69 hf => ?_) (fun c69 hf => ?_)
  · refine j_iconst (v := 0) hE dX12_works_442 (by decide) ?_
    obtain rfl := Option.some.inj hf
    exact j_zret_c hE (Or.inl rfl) hq rfl rfl dX12_works_443
  · refine j_lload hE dX12_works_429 1 rfl ?_
    refine j_ldc2 hE co_Mo_318 dX12_works_431 ?_
    refine j_lcmp hE dX12_works_434 ?_
    refine j_if_lt (tgt := 442) hE hf dX12_works_435 (by decide) (fun c70 hf => ?_) (fun c70 hf => ?_)
    · refine j_iconst (v := 0) hE dX12_works_442 (by decide) ?_
      obtain rfl := Option.some.inj hf
      exact j_zret_c hE (Or.inl rfl) hq rfl rfl dX12_works_443
    · refine j_iconst (v := 1) hE dX12_works_438 (by decide) ?_
      refine j_goto (tgt := 443) hE dX12_works_439 (by decide) ?_
      obtain rfl := Option.some.inj hf
      exact j_zret_c hE (Or.inr rfl) hq rfl rfl dX12_works_443
set_option maxRecDepth 100000 in
theorem c_Mo_works (l : Launch) (g : jG) (a : Nat → Nat) (mo_z : jZ) (mo_y : jY) (x1 : Int32) (res : jZ × jY × Int32) (hf : f_Mo_works mo_z mo_y x1 = some res) : MC l g yX12_works cX12_works 8 (some .boolean) rm_Mo_works [.ref (a 0), .int x1] (([n_Mo g a mo_z mo_y] : List va_W)) (some (.int res.2.2)) (([n_Mo g a res.1 res.2.1] : List va_W)) 0 0 := by
  refine MC_of (own := RX12) (lv := [(0, .ref (a 0)), (1, .int x1)]) (by decide) rfl (Nat.le_of_ble_eq_true rfl) rfl rfl (fun E hE hq => ?_)
  unfold f_Mo_works at hf
  refine j_aload_n hE dX12_works_0 rfl 0 rfl ?_
  refine j_get (v := .ref (a 19)) hE lg_Mo_77 0 rfl 0 (wg_Mo_0 g a mo_z mo_y) rfl dX12_works_1 ?_
  refine j_aload_n hE dX12_works_4 rfl 0 rfl ?_
  refine j_get (v := .int (mo_z 48 0)) hE lg_Mo_309 0 rfl 0 (wg_Mo_0 g a mo_z mo_y) rfl dX12_works_5 ?_
  refine j_iconst (v := 1) hE dX12_works_8 (by decide) ?_
  refine j_isub hE dX12_works_9 ?_
  refine j_lald hE hf 0 rfl 19 (wg_Mo_19 g a mo_z mo_y) dX12_works_10 (fun hf => ?_)
  refine j_lstore_n (lv' := [(2, .long (mo_y 47 (Int32.toNatClampNeg ((mo_z 48 0) - 1)))), (0, .ref (a 0)), (1, .int x1)]) hE dX12_works_11 rfl (by decide) rfl ?_
  refine j_iload_n hE dX12_works_12 rfl 2 rfl ?_
  refine j_sipush (v := 260) hE dX12_works_13 (by decide) ?_
  refine j_icmp_ne (tgt := 46) hE hf dX12_works_16 (by decide) (fun c2 hf => ?_) (fun c2 hf => ?_)
  · refine j_aload_n hE dX12_works_46 rfl 1 rfl ?_
    refine j_get (v := .ref (a 19)) hE lg_Mo_77 0 rfl 0 (wg_Mo_0 g a mo_z mo_y) rfl dX12_works_47 ?_
    refine j_aload_n hE dX12_works_50 rfl 1 rfl ?_
    refine j_get (v := .int (mo_z 48 0)) hE lg_Mo_309 0 rfl 0 (wg_Mo_0 g a mo_z mo_y) rfl dX12_works_51 ?_
    refine j_iconst (v := 2) hE dX12_works_54 (by decide) ?_
    refine j_isub hE dX12_works_55 ?_
    refine j_lald hE hf 0 rfl 19 (wg_Mo_19 g a mo_z mo_y) dX12_works_56 (fun hf => ?_)
    refine j_lstore (lv' := [(4, .long (mo_y 47 (Int32.toNatClampNeg ((mo_z 48 0) - 2)))), (2, .long (mo_y 47 (Int32.toNatClampNeg ((mo_z 48 0) - 1)))), (0, .ref (a 0)), (1, .int x1)]) hE dX12_works_57 (by decide) rfl ?_
    refine j_aload_n hE dX12_works_59 rfl 2 rfl ?_
    refine j_dup hE dX12_works_60 rfl ?_
    refine j_get (v := .int (mo_z 48 0)) hE lg_Mo_309 0 rfl 0 (wg_Mo_0 g a mo_z mo_y) rfl dX12_works_61 ?_
    refine j_iconst (v := 1) hE dX12_works_64 (by decide) ?_
    refine j_isub hE dX12_works_65 ?_
    refine j_put (v := .int ((mo_z 48 0) - 1)) (ws' := ([n_Mo g a (up2 mo_z 48 0 ((mo_z 48 0) - 1)) mo_y] : List va_W)) hE lp_Mo_309 0 rfl 0 (wg_Mo_0 g a mo_z mo_y) rfl rfl (Nat.le_of_ble_eq_true rfl) (wp_Mo_48 g a mo_z mo_y ((mo_z 48 0) - 1)) rfl dX12_works_66 ?_
    refine j_iload_n hE dX12_works_69 rfl 3 rfl ?_
    refine j_case hf (fun c4 hf => ?_) (fun c4 hf => ?_)
    · refine j_lookup (tgt := 186) hE dX12_works_70 (by decide) (by rw [c4]; try rfl) (by decide) ?_
      refine j_lload hE dX12_works_186 0 rfl ?_
      refine j_lconst (v := 0) hE dX12_works_188 (by decide) ?_
      refine j_lcmp hE dX12_works_189 ?_
      refine j_if_eq (tgt := 212) hE hf dX12_works_190 (by decide) (fun c5 hf => ?_) (fun c5 hf => ?_)
      · refine j_lload hE dX12_works_212 0 rfl ?_
        refine j_lload_n hE dX12_works_214 rfl 1 rfl ?_
        refine j_lmul hE dX12_works_215 ?_
        refine j_lstore (lv' := [(6, .long ((mo_y 47 (Int32.toNatClampNeg ((mo_z 48 0) - 2))) * (mo_y 47 (Int32.toNatClampNeg ((mo_z 48 0) - 1))))), (4, .long (mo_y 47 (Int32.toNatClampNeg ((mo_z 48 0) - 2)))), (2, .long (mo_y 47 (Int32.toNatClampNeg ((mo_z 48 0) - 1)))), (0, .ref (a 0)), (1, .int x1)]) hE dX12_works_216 (by decide) rfl ?_
        refine j_goto (tgt := 407) hE dX12_works_218 (by decide) ?_
        exact j_sub [3, 0] rfl (j_Mo_works_407 E g a x1 res hE hq (up2 mo_z 48 0 ((mo_z 48 0) - 1)) mo_y ((mo_y 47 (Int32.toNatClampNeg ((mo_z 48 0) - 2))) * (mo_y 47 (Int32.toNatClampNeg ((mo_z 48 0) - 1)))) hf)
      · refine j_lload_n hE dX12_works_193 rfl 1 rfl ?_
        refine j_labs hE fm_labs ml_Mo_261 ⟨⟨Nat.le_of_ble_eq_true rfl, Nat.le_of_ble_eq_true rfl⟩, Nat.zero_le _, Nat.zero_le _⟩ dX12_works_194 ?_
        refine j_ldc2 hE co_Mo_316 dX12_works_197 ?_
        refine j_lload hE dX12_works_200 0 rfl ?_
        refine j_labs hE fm_labs ml_Mo_261 ⟨⟨Nat.le_of_ble_eq_true rfl, Nat.le_of_ble_eq_true rfl⟩, Nat.zero_le _, Nat.zero_le _⟩ dX12_works_202 ?_
        refine j_ldiv hE hf dX12_works_205 (fun hf => ?_)
        refine j_lcmp hE dX12_works_206 ?_
        refine j_if_le (tgt := 212) hE hf dX12_works_207 (by decide) (fun c6 hf => ?_) (fun c6 hf => ?_)
        · refine j_lload hE dX12_works_212 0 rfl ?_
          refine j_lload_n hE dX12_works_214 rfl 1 rfl ?_
          refine j_lmul hE dX12_works_215 ?_
          refine j_lstore (lv' := [(6, .long ((mo_y 47 (Int32.toNatClampNeg ((mo_z 48 0) - 2))) * (mo_y 47 (Int32.toNatClampNeg ((mo_z 48 0) - 1))))), (4, .long (mo_y 47 (Int32.toNatClampNeg ((mo_z 48 0) - 2)))), (2, .long (mo_y 47 (Int32.toNatClampNeg ((mo_z 48 0) - 1)))), (0, .ref (a 0)), (1, .int x1)]) hE dX12_works_216 (by decide) rfl ?_
          refine j_goto (tgt := 407) hE dX12_works_218 (by decide) ?_
          exact j_sub [3, 0] rfl (j_Mo_works_407 E g a x1 res hE hq (up2 mo_z 48 0 ((mo_z 48 0) - 1)) mo_y ((mo_y 47 (Int32.toNatClampNeg ((mo_z 48 0) - 2))) * (mo_y 47 (Int32.toNatClampNeg ((mo_z 48 0) - 1)))) hf)
        · refine j_iconst (v := 0) hE dX12_works_210 (by decide) ?_
          obtain rfl := Option.some.inj hf
          exact j_zret_c hE (Or.inl rfl) hq rfl rfl dX12_works_211
    refine j_case hf (fun c7 hf => ?_) (fun c7 hf => ?_)
    · refine j_lookup (tgt := 168) hE dX12_works_70 (by decide) (by rw [c7]; try rfl) (by decide) ?_
      refine j_lload hE dX12_works_168 0 rfl ?_
      refine j_lload_n hE dX12_works_170 rfl 1 rfl ?_
      refine j_ladd hE dX12_works_171 ?_
      refine j_lstore (lv' := [(6, .long ((mo_y 47 (Int32.toNatClampNeg ((mo_z 48 0) - 2))) + (mo_y 47 (Int32.toNatClampNeg ((mo_z 48 0) - 1))))), (4, .long (mo_y 47 (Int32.toNatClampNeg ((mo_z 48 0) - 2)))), (2, .long (mo_y 47 (Int32.toNatClampNeg ((mo_z 48 0) - 1)))), (0, .ref (a 0)), (1, .int x1)]) hE dX12_works_172 (by decide) rfl ?_
      refine j_goto (tgt := 407) hE dX12_works_174 (by decide) ?_
      exact j_sub [3, 0] rfl (j_Mo_works_407 E g a x1 res hE hq (up2 mo_z 48 0 ((mo_z 48 0) - 1)) mo_y ((mo_y 47 (Int32.toNatClampNeg ((mo_z 48 0) - 2))) + (mo_y 47 (Int32.toNatClampNeg ((mo_z 48 0) - 1)))) hf)
    refine j_case hf (fun c8 hf => ?_) (fun c8 hf => ?_)
    · refine j_lookup (tgt := 177) hE dX12_works_70 (by decide) (by rw [c8]; try rfl) (by decide) ?_
      refine j_lload hE dX12_works_177 0 rfl ?_
      refine j_lload_n hE dX12_works_179 rfl 1 rfl ?_
      refine j_lsub hE dX12_works_180 ?_
      refine j_lstore (lv' := [(6, .long ((mo_y 47 (Int32.toNatClampNeg ((mo_z 48 0) - 2))) - (mo_y 47 (Int32.toNatClampNeg ((mo_z 48 0) - 1))))), (4, .long (mo_y 47 (Int32.toNatClampNeg ((mo_z 48 0) - 2)))), (2, .long (mo_y 47 (Int32.toNatClampNeg ((mo_z 48 0) - 1)))), (0, .ref (a 0)), (1, .int x1)]) hE dX12_works_181 (by decide) rfl ?_
      refine j_goto (tgt := 407) hE dX12_works_183 (by decide) ?_
      exact j_sub [3, 0] rfl (j_Mo_works_407 E g a x1 res hE hq (up2 mo_z 48 0 ((mo_z 48 0) - 1)) mo_y ((mo_y 47 (Int32.toNatClampNeg ((mo_z 48 0) - 2))) - (mo_y 47 (Int32.toNatClampNeg ((mo_z 48 0) - 1)))) hf)
    refine j_case hf (fun c9 hf => ?_) (fun c9 hf => ?_)
    · refine j_lookup (tgt := 221) hE dX12_works_70 (by decide) (by rw [c9]; try rfl) (by decide) ?_
      refine j_lload_n hE dX12_works_221 rfl 1 rfl ?_
      refine j_lconst (v := 0) hE dX12_works_222 (by decide) ?_
      refine j_lcmp hE dX12_works_223 ?_
      refine j_if_ne (tgt := 229) hE hf dX12_works_224 (by decide) (fun c10 hf => ?_) (fun c10 hf => ?_)
      · refine j_lload hE dX12_works_229 0 rfl ?_
        refine j_lload_n hE dX12_works_231 rfl 1 rfl ?_
        refine j_ldiv hE hf dX12_works_232 (fun hf => ?_)
        refine j_lstore (lv' := [(6, .long ((mo_y 47 (Int32.toNatClampNeg ((mo_z 48 0) - 2))) / (mo_y 47 (Int32.toNatClampNeg ((mo_z 48 0) - 1))))), (4, .long (mo_y 47 (Int32.toNatClampNeg ((mo_z 48 0) - 2)))), (2, .long (mo_y 47 (Int32.toNatClampNeg ((mo_z 48 0) - 1)))), (0, .ref (a 0)), (1, .int x1)]) hE dX12_works_233 (by decide) rfl ?_
        refine j_goto (tgt := 407) hE dX12_works_235 (by decide) ?_
        exact j_sub [3, 0] rfl (j_Mo_works_407 E g a x1 res hE hq (up2 mo_z 48 0 ((mo_z 48 0) - 1)) mo_y ((mo_y 47 (Int32.toNatClampNeg ((mo_z 48 0) - 2))) / (mo_y 47 (Int32.toNatClampNeg ((mo_z 48 0) - 1)))) hf)
      · refine j_iconst (v := 0) hE dX12_works_227 (by decide) ?_
        obtain rfl := Option.some.inj hf
        exact j_zret_c hE (Or.inl rfl) hq rfl rfl dX12_works_228
    refine j_case hf (fun c11 hf => ?_) (fun c11 hf => ?_)
    · refine j_lookup (tgt := 238) hE dX12_works_70 (by decide) (by rw [c11]; try rfl) (by decide) ?_
      refine j_lload hE dX12_works_238 0 rfl ?_
      refine j_lload_n hE dX12_works_240 rfl 1 rfl ?_
      refine j_lcmp hE dX12_works_241 ?_
      refine j_if_ge (tgt := 249) hE hf dX12_works_242 (by decide) (fun c12 hf => ?_) (fun c12 hf => ?_)
      · refine j_iconst (v := 0) hE dX12_works_249 (by decide) ?_
        obtain ⟨q13, hc14, hf⟩ := bind_of hf
        refine j_callS (ws' := ([n_Mo g a (up2 mo_z 48 0 ((mo_z 48 0) - 1)) mo_y] : List va_W)) (As := [.int 0]) (rest := []) (st2 := [.long q13]) hE (fun l => c_Mo_is l g 0 q13 hc14) cd_X12_is st_X12_is ml_Mo_312 rfl rfl ⟨⟨Nat.le_of_ble_eq_true rfl, Nat.le_of_ble_eq_true rfl⟩, ⟨Nat.zero_le _, Nat.zero_le _⟩, rfl, rfl⟩ [] rfl rfl rfl (Nat.le_of_ble_eq_true rfl) rfl dX12_works_250 ?_
        refine j_lstore (lv' := [(6, .long q13), (4, .long (mo_y 47 (Int32.toNatClampNeg ((mo_z 48 0) - 2)))), (2, .long (mo_y 47 (Int32.toNatClampNeg ((mo_z 48 0) - 1)))), (0, .ref (a 0)), (1, .int x1)]) hE dX12_works_253 (by decide) rfl ?_
        refine j_goto (tgt := 407) hE dX12_works_255 (by decide) ?_
        exact j_sub [3, 0] rfl (j_Mo_works_407 E g a x1 res hE hq (up2 mo_z 48 0 ((mo_z 48 0) - 1)) mo_y q13 hf)
      · refine j_iconst (v := 1) hE dX12_works_245 (by decide) ?_
        refine j_goto (tgt := 250) hE dX12_works_246 (by decide) ?_
        obtain ⟨q15, hc16, hf⟩ := bind_of hf
        refine j_callS (ws' := ([n_Mo g a (up2 mo_z 48 0 ((mo_z 48 0) - 1)) mo_y] : List va_W)) (As := [.int 1]) (rest := []) (st2 := [.long q15]) hE (fun l => c_Mo_is l g 1 q15 hc16) cd_X12_is st_X12_is ml_Mo_312 rfl rfl ⟨⟨Nat.le_of_ble_eq_true rfl, Nat.le_of_ble_eq_true rfl⟩, ⟨Nat.zero_le _, Nat.zero_le _⟩, rfl, rfl⟩ [] rfl rfl rfl (Nat.le_of_ble_eq_true rfl) rfl dX12_works_250 ?_
        refine j_lstore (lv' := [(6, .long q15), (4, .long (mo_y 47 (Int32.toNatClampNeg ((mo_z 48 0) - 2)))), (2, .long (mo_y 47 (Int32.toNatClampNeg ((mo_z 48 0) - 1)))), (0, .ref (a 0)), (1, .int x1)]) hE dX12_works_253 (by decide) rfl ?_
        refine j_goto (tgt := 407) hE dX12_works_255 (by decide) ?_
        exact j_sub [3, 0] rfl (j_Mo_works_407 E g a x1 res hE hq (up2 mo_z 48 0 ((mo_z 48 0) - 1)) mo_y q15 hf)
    refine j_case hf (fun c17 hf => ?_) (fun c17 hf => ?_)
    · refine j_lookup (tgt := 278) hE dX12_works_70 (by decide) (by rw [c17]; try rfl) (by decide) ?_
      refine j_lload hE dX12_works_278 0 rfl ?_
      refine j_lload_n hE dX12_works_280 rfl 1 rfl ?_
      refine j_lcmp hE dX12_works_281 ?_
      refine j_if_ne (tgt := 289) hE hf dX12_works_282 (by decide) (fun c18 hf => ?_) (fun c18 hf => ?_)
      · refine j_iconst (v := 0) hE dX12_works_289 (by decide) ?_
        obtain ⟨q19, hc20, hf⟩ := bind_of hf
        refine j_callS (ws' := ([n_Mo g a (up2 mo_z 48 0 ((mo_z 48 0) - 1)) mo_y] : List va_W)) (As := [.int 0]) (rest := []) (st2 := [.long q19]) hE (fun l => c_Mo_is l g 0 q19 hc20) cd_X12_is st_X12_is ml_Mo_312 rfl rfl ⟨⟨Nat.le_of_ble_eq_true rfl, Nat.le_of_ble_eq_true rfl⟩, ⟨Nat.zero_le _, Nat.zero_le _⟩, rfl, rfl⟩ [] rfl rfl rfl (Nat.le_of_ble_eq_true rfl) rfl dX12_works_290 ?_
        refine j_lstore (lv' := [(6, .long q19), (4, .long (mo_y 47 (Int32.toNatClampNeg ((mo_z 48 0) - 2)))), (2, .long (mo_y 47 (Int32.toNatClampNeg ((mo_z 48 0) - 1)))), (0, .ref (a 0)), (1, .int x1)]) hE dX12_works_293 (by decide) rfl ?_
        refine j_goto (tgt := 407) hE dX12_works_295 (by decide) ?_
        exact j_sub [3, 0] rfl (j_Mo_works_407 E g a x1 res hE hq (up2 mo_z 48 0 ((mo_z 48 0) - 1)) mo_y q19 hf)
      · refine j_iconst (v := 1) hE dX12_works_285 (by decide) ?_
        refine j_goto (tgt := 290) hE dX12_works_286 (by decide) ?_
        obtain ⟨q21, hc22, hf⟩ := bind_of hf
        refine j_callS (ws' := ([n_Mo g a (up2 mo_z 48 0 ((mo_z 48 0) - 1)) mo_y] : List va_W)) (As := [.int 1]) (rest := []) (st2 := [.long q21]) hE (fun l => c_Mo_is l g 1 q21 hc22) cd_X12_is st_X12_is ml_Mo_312 rfl rfl ⟨⟨Nat.le_of_ble_eq_true rfl, Nat.le_of_ble_eq_true rfl⟩, ⟨Nat.zero_le _, Nat.zero_le _⟩, rfl, rfl⟩ [] rfl rfl rfl (Nat.le_of_ble_eq_true rfl) rfl dX12_works_290 ?_
        refine j_lstore (lv' := [(6, .long q21), (4, .long (mo_y 47 (Int32.toNatClampNeg ((mo_z 48 0) - 2)))), (2, .long (mo_y 47 (Int32.toNatClampNeg ((mo_z 48 0) - 1)))), (0, .ref (a 0)), (1, .int x1)]) hE dX12_works_293 (by decide) rfl ?_
        refine j_goto (tgt := 407) hE dX12_works_295 (by decide) ?_
        exact j_sub [3, 0] rfl (j_Mo_works_407 E g a x1 res hE hq (up2 mo_z 48 0 ((mo_z 48 0) - 1)) mo_y q21 hf)
    refine j_case hf (fun c23 hf => ?_) (fun c23 hf => ?_)
    · refine j_lookup (tgt := 258) hE dX12_works_70 (by decide) (by rw [c23]; try rfl) (by decide) ?_
      refine j_lload hE dX12_works_258 0 rfl ?_
      refine j_lload_n hE dX12_works_260 rfl 1 rfl ?_
      refine j_lcmp hE dX12_works_261 ?_
      refine j_if_le (tgt := 269) hE hf dX12_works_262 (by decide) (fun c24 hf => ?_) (fun c24 hf => ?_)
      · refine j_iconst (v := 0) hE dX12_works_269 (by decide) ?_
        obtain ⟨q25, hc26, hf⟩ := bind_of hf
        refine j_callS (ws' := ([n_Mo g a (up2 mo_z 48 0 ((mo_z 48 0) - 1)) mo_y] : List va_W)) (As := [.int 0]) (rest := []) (st2 := [.long q25]) hE (fun l => c_Mo_is l g 0 q25 hc26) cd_X12_is st_X12_is ml_Mo_312 rfl rfl ⟨⟨Nat.le_of_ble_eq_true rfl, Nat.le_of_ble_eq_true rfl⟩, ⟨Nat.zero_le _, Nat.zero_le _⟩, rfl, rfl⟩ [] rfl rfl rfl (Nat.le_of_ble_eq_true rfl) rfl dX12_works_270 ?_
        refine j_lstore (lv' := [(6, .long q25), (4, .long (mo_y 47 (Int32.toNatClampNeg ((mo_z 48 0) - 2)))), (2, .long (mo_y 47 (Int32.toNatClampNeg ((mo_z 48 0) - 1)))), (0, .ref (a 0)), (1, .int x1)]) hE dX12_works_273 (by decide) rfl ?_
        refine j_goto (tgt := 407) hE dX12_works_275 (by decide) ?_
        exact j_sub [3, 0] rfl (j_Mo_works_407 E g a x1 res hE hq (up2 mo_z 48 0 ((mo_z 48 0) - 1)) mo_y q25 hf)
      · refine j_iconst (v := 1) hE dX12_works_265 (by decide) ?_
        refine j_goto (tgt := 270) hE dX12_works_266 (by decide) ?_
        obtain ⟨q27, hc28, hf⟩ := bind_of hf
        refine j_callS (ws' := ([n_Mo g a (up2 mo_z 48 0 ((mo_z 48 0) - 1)) mo_y] : List va_W)) (As := [.int 1]) (rest := []) (st2 := [.long q27]) hE (fun l => c_Mo_is l g 1 q27 hc28) cd_X12_is st_X12_is ml_Mo_312 rfl rfl ⟨⟨Nat.le_of_ble_eq_true rfl, Nat.le_of_ble_eq_true rfl⟩, ⟨Nat.zero_le _, Nat.zero_le _⟩, rfl, rfl⟩ [] rfl rfl rfl (Nat.le_of_ble_eq_true rfl) rfl dX12_works_270 ?_
        refine j_lstore (lv' := [(6, .long q27), (4, .long (mo_y 47 (Int32.toNatClampNeg ((mo_z 48 0) - 2)))), (2, .long (mo_y 47 (Int32.toNatClampNeg ((mo_z 48 0) - 1)))), (0, .ref (a 0)), (1, .int x1)]) hE dX12_works_273 (by decide) rfl ?_
        refine j_goto (tgt := 407) hE dX12_works_275 (by decide) ?_
        exact j_sub [3, 0] rfl (j_Mo_works_407 E g a x1 res hE hq (up2 mo_z 48 0 ((mo_z 48 0) - 1)) mo_y q27 hf)
    refine j_case hf (fun c29 hf => ?_) (fun c29 hf => ?_)
    · refine j_lookup (tgt := 298) hE dX12_works_70 (by decide) (by rw [c29]; try rfl) (by decide) ?_
      refine j_lload hE dX12_works_298 0 rfl ?_
      refine j_lload_n hE dX12_works_300 rfl 1 rfl ?_
      refine j_lcmp hE dX12_works_301 ?_
      refine j_if_gt (tgt := 309) hE hf dX12_works_302 (by decide) (fun c30 hf => ?_) (fun c30 hf => ?_)
      · refine j_iconst (v := 0) hE dX12_works_309 (by decide) ?_
        obtain ⟨q31, hc32, hf⟩ := bind_of hf
        refine j_callS (ws' := ([n_Mo g a (up2 mo_z 48 0 ((mo_z 48 0) - 1)) mo_y] : List va_W)) (As := [.int 0]) (rest := []) (st2 := [.long q31]) hE (fun l => c_Mo_is l g 0 q31 hc32) cd_X12_is st_X12_is ml_Mo_312 rfl rfl ⟨⟨Nat.le_of_ble_eq_true rfl, Nat.le_of_ble_eq_true rfl⟩, ⟨Nat.zero_le _, Nat.zero_le _⟩, rfl, rfl⟩ [] rfl rfl rfl (Nat.le_of_ble_eq_true rfl) rfl dX12_works_310 ?_
        refine j_lstore (lv' := [(6, .long q31), (4, .long (mo_y 47 (Int32.toNatClampNeg ((mo_z 48 0) - 2)))), (2, .long (mo_y 47 (Int32.toNatClampNeg ((mo_z 48 0) - 1)))), (0, .ref (a 0)), (1, .int x1)]) hE dX12_works_313 (by decide) rfl ?_
        refine j_goto (tgt := 407) hE dX12_works_315 (by decide) ?_
        exact j_sub [3, 0] rfl (j_Mo_works_407 E g a x1 res hE hq (up2 mo_z 48 0 ((mo_z 48 0) - 1)) mo_y q31 hf)
      · refine j_iconst (v := 1) hE dX12_works_305 (by decide) ?_
        refine j_goto (tgt := 310) hE dX12_works_306 (by decide) ?_
        obtain ⟨q33, hc34, hf⟩ := bind_of hf
        refine j_callS (ws' := ([n_Mo g a (up2 mo_z 48 0 ((mo_z 48 0) - 1)) mo_y] : List va_W)) (As := [.int 1]) (rest := []) (st2 := [.long q33]) hE (fun l => c_Mo_is l g 1 q33 hc34) cd_X12_is st_X12_is ml_Mo_312 rfl rfl ⟨⟨Nat.le_of_ble_eq_true rfl, Nat.le_of_ble_eq_true rfl⟩, ⟨Nat.zero_le _, Nat.zero_le _⟩, rfl, rfl⟩ [] rfl rfl rfl (Nat.le_of_ble_eq_true rfl) rfl dX12_works_310 ?_
        refine j_lstore (lv' := [(6, .long q33), (4, .long (mo_y 47 (Int32.toNatClampNeg ((mo_z 48 0) - 2)))), (2, .long (mo_y 47 (Int32.toNatClampNeg ((mo_z 48 0) - 1)))), (0, .ref (a 0)), (1, .int x1)]) hE dX12_works_313 (by decide) rfl ?_
        refine j_goto (tgt := 407) hE dX12_works_315 (by decide) ?_
        exact j_sub [3, 0] rfl (j_Mo_works_407 E g a x1 res hE hq (up2 mo_z 48 0 ((mo_z 48 0) - 1)) mo_y q33 hf)
    refine j_case hf (fun c35 hf => ?_) (fun c35 hf => ?_)
    · refine j_lookup (tgt := 338) hE dX12_works_70 (by decide) (by rw [c35]; try rfl) (by decide) ?_
      refine j_lload hE dX12_works_338 0 rfl ?_
      refine j_lload_n hE dX12_works_340 rfl 1 rfl ?_
      refine j_lcmp hE dX12_works_341 ?_
      refine j_if_eq (tgt := 349) hE hf dX12_works_342 (by decide) (fun c36 hf => ?_) (fun c36 hf => ?_)
      · refine j_iconst (v := 0) hE dX12_works_349 (by decide) ?_
        obtain ⟨q37, hc38, hf⟩ := bind_of hf
        refine j_callS (ws' := ([n_Mo g a (up2 mo_z 48 0 ((mo_z 48 0) - 1)) mo_y] : List va_W)) (As := [.int 0]) (rest := []) (st2 := [.long q37]) hE (fun l => c_Mo_is l g 0 q37 hc38) cd_X12_is st_X12_is ml_Mo_312 rfl rfl ⟨⟨Nat.le_of_ble_eq_true rfl, Nat.le_of_ble_eq_true rfl⟩, ⟨Nat.zero_le _, Nat.zero_le _⟩, rfl, rfl⟩ [] rfl rfl rfl (Nat.le_of_ble_eq_true rfl) rfl dX12_works_350 ?_
        refine j_lstore (lv' := [(6, .long q37), (4, .long (mo_y 47 (Int32.toNatClampNeg ((mo_z 48 0) - 2)))), (2, .long (mo_y 47 (Int32.toNatClampNeg ((mo_z 48 0) - 1)))), (0, .ref (a 0)), (1, .int x1)]) hE dX12_works_353 (by decide) rfl ?_
        refine j_goto (tgt := 407) hE dX12_works_355 (by decide) ?_
        exact j_sub [3, 0] rfl (j_Mo_works_407 E g a x1 res hE hq (up2 mo_z 48 0 ((mo_z 48 0) - 1)) mo_y q37 hf)
      · refine j_iconst (v := 1) hE dX12_works_345 (by decide) ?_
        refine j_goto (tgt := 350) hE dX12_works_346 (by decide) ?_
        obtain ⟨q39, hc40, hf⟩ := bind_of hf
        refine j_callS (ws' := ([n_Mo g a (up2 mo_z 48 0 ((mo_z 48 0) - 1)) mo_y] : List va_W)) (As := [.int 1]) (rest := []) (st2 := [.long q39]) hE (fun l => c_Mo_is l g 1 q39 hc40) cd_X12_is st_X12_is ml_Mo_312 rfl rfl ⟨⟨Nat.le_of_ble_eq_true rfl, Nat.le_of_ble_eq_true rfl⟩, ⟨Nat.zero_le _, Nat.zero_le _⟩, rfl, rfl⟩ [] rfl rfl rfl (Nat.le_of_ble_eq_true rfl) rfl dX12_works_350 ?_
        refine j_lstore (lv' := [(6, .long q39), (4, .long (mo_y 47 (Int32.toNatClampNeg ((mo_z 48 0) - 2)))), (2, .long (mo_y 47 (Int32.toNatClampNeg ((mo_z 48 0) - 1)))), (0, .ref (a 0)), (1, .int x1)]) hE dX12_works_353 (by decide) rfl ?_
        refine j_goto (tgt := 407) hE dX12_works_355 (by decide) ?_
        exact j_sub [3, 0] rfl (j_Mo_works_407 E g a x1 res hE hq (up2 mo_z 48 0 ((mo_z 48 0) - 1)) mo_y q39 hf)
    refine j_case hf (fun c41 hf => ?_) (fun c41 hf => ?_)
    · refine j_lookup (tgt := 318) hE dX12_works_70 (by decide) (by rw [c41]; try rfl) (by decide) ?_
      refine j_lload hE dX12_works_318 0 rfl ?_
      refine j_lload_n hE dX12_works_320 rfl 1 rfl ?_
      refine j_lcmp hE dX12_works_321 ?_
      refine j_if_lt (tgt := 329) hE hf dX12_works_322 (by decide) (fun c42 hf => ?_) (fun c42 hf => ?_)
      · refine j_iconst (v := 0) hE dX12_works_329 (by decide) ?_
        obtain ⟨q43, hc44, hf⟩ := bind_of hf
        refine j_callS (ws' := ([n_Mo g a (up2 mo_z 48 0 ((mo_z 48 0) - 1)) mo_y] : List va_W)) (As := [.int 0]) (rest := []) (st2 := [.long q43]) hE (fun l => c_Mo_is l g 0 q43 hc44) cd_X12_is st_X12_is ml_Mo_312 rfl rfl ⟨⟨Nat.le_of_ble_eq_true rfl, Nat.le_of_ble_eq_true rfl⟩, ⟨Nat.zero_le _, Nat.zero_le _⟩, rfl, rfl⟩ [] rfl rfl rfl (Nat.le_of_ble_eq_true rfl) rfl dX12_works_330 ?_
        refine j_lstore (lv' := [(6, .long q43), (4, .long (mo_y 47 (Int32.toNatClampNeg ((mo_z 48 0) - 2)))), (2, .long (mo_y 47 (Int32.toNatClampNeg ((mo_z 48 0) - 1)))), (0, .ref (a 0)), (1, .int x1)]) hE dX12_works_333 (by decide) rfl ?_
        refine j_goto (tgt := 407) hE dX12_works_335 (by decide) ?_
        exact j_sub [3, 0] rfl (j_Mo_works_407 E g a x1 res hE hq (up2 mo_z 48 0 ((mo_z 48 0) - 1)) mo_y q43 hf)
      · refine j_iconst (v := 1) hE dX12_works_325 (by decide) ?_
        refine j_goto (tgt := 330) hE dX12_works_326 (by decide) ?_
        obtain ⟨q45, hc46, hf⟩ := bind_of hf
        refine j_callS (ws' := ([n_Mo g a (up2 mo_z 48 0 ((mo_z 48 0) - 1)) mo_y] : List va_W)) (As := [.int 1]) (rest := []) (st2 := [.long q45]) hE (fun l => c_Mo_is l g 1 q45 hc46) cd_X12_is st_X12_is ml_Mo_312 rfl rfl ⟨⟨Nat.le_of_ble_eq_true rfl, Nat.le_of_ble_eq_true rfl⟩, ⟨Nat.zero_le _, Nat.zero_le _⟩, rfl, rfl⟩ [] rfl rfl rfl (Nat.le_of_ble_eq_true rfl) rfl dX12_works_330 ?_
        refine j_lstore (lv' := [(6, .long q45), (4, .long (mo_y 47 (Int32.toNatClampNeg ((mo_z 48 0) - 2)))), (2, .long (mo_y 47 (Int32.toNatClampNeg ((mo_z 48 0) - 1)))), (0, .ref (a 0)), (1, .int x1)]) hE dX12_works_333 (by decide) rfl ?_
        refine j_goto (tgt := 407) hE dX12_works_335 (by decide) ?_
        exact j_sub [3, 0] rfl (j_Mo_works_407 E g a x1 res hE hq (up2 mo_z 48 0 ((mo_z 48 0) - 1)) mo_y q45 hf)
    refine j_case hf (fun c47 hf => ?_) (fun c47 hf => ?_)
    · refine j_lookup (tgt := 358) hE dX12_works_70 (by decide) (by rw [c47]; try rfl) (by decide) ?_
      refine j_lload hE dX12_works_358 0 rfl ?_
      refine j_lconst (v := 0) hE dX12_works_360 (by decide) ?_
      refine j_lcmp hE dX12_works_361 ?_
      refine j_if_eq (tgt := 375) hE hf dX12_works_362 (by decide) (fun c48 hf => ?_) (fun c48 hf => ?_)
      · refine j_iconst (v := 0) hE dX12_works_375 (by decide) ?_
        obtain ⟨q49, hc50, hf⟩ := bind_of hf
        refine j_callS (ws' := ([n_Mo g a (up2 mo_z 48 0 ((mo_z 48 0) - 1)) mo_y] : List va_W)) (As := [.int 0]) (rest := []) (st2 := [.long q49]) hE (fun l => c_Mo_is l g 0 q49 hc50) cd_X12_is st_X12_is ml_Mo_312 rfl rfl ⟨⟨Nat.le_of_ble_eq_true rfl, Nat.le_of_ble_eq_true rfl⟩, ⟨Nat.zero_le _, Nat.zero_le _⟩, rfl, rfl⟩ [] rfl rfl rfl (Nat.le_of_ble_eq_true rfl) rfl dX12_works_376 ?_
        refine j_lstore (lv' := [(6, .long q49), (4, .long (mo_y 47 (Int32.toNatClampNeg ((mo_z 48 0) - 2)))), (2, .long (mo_y 47 (Int32.toNatClampNeg ((mo_z 48 0) - 1)))), (0, .ref (a 0)), (1, .int x1)]) hE dX12_works_379 (by decide) rfl ?_
        refine j_goto (tgt := 407) hE dX12_works_381 (by decide) ?_
        exact j_sub [3, 0] rfl (j_Mo_works_407 E g a x1 res hE hq (up2 mo_z 48 0 ((mo_z 48 0) - 1)) mo_y q49 hf)
      · refine j_lload_n hE dX12_works_365 rfl 1 rfl ?_
        refine j_lconst (v := 0) hE dX12_works_366 (by decide) ?_
        refine j_lcmp hE dX12_works_367 ?_
        refine j_if_eq (tgt := 375) hE hf dX12_works_368 (by decide) (fun c51 hf => ?_) (fun c51 hf => ?_)
        · refine j_iconst (v := 0) hE dX12_works_375 (by decide) ?_
          obtain ⟨q52, hc53, hf⟩ := bind_of hf
          refine j_callS (ws' := ([n_Mo g a (up2 mo_z 48 0 ((mo_z 48 0) - 1)) mo_y] : List va_W)) (As := [.int 0]) (rest := []) (st2 := [.long q52]) hE (fun l => c_Mo_is l g 0 q52 hc53) cd_X12_is st_X12_is ml_Mo_312 rfl rfl ⟨⟨Nat.le_of_ble_eq_true rfl, Nat.le_of_ble_eq_true rfl⟩, ⟨Nat.zero_le _, Nat.zero_le _⟩, rfl, rfl⟩ [] rfl rfl rfl (Nat.le_of_ble_eq_true rfl) rfl dX12_works_376 ?_
          refine j_lstore (lv' := [(6, .long q52), (4, .long (mo_y 47 (Int32.toNatClampNeg ((mo_z 48 0) - 2)))), (2, .long (mo_y 47 (Int32.toNatClampNeg ((mo_z 48 0) - 1)))), (0, .ref (a 0)), (1, .int x1)]) hE dX12_works_379 (by decide) rfl ?_
          refine j_goto (tgt := 407) hE dX12_works_381 (by decide) ?_
          exact j_sub [3, 0] rfl (j_Mo_works_407 E g a x1 res hE hq (up2 mo_z 48 0 ((mo_z 48 0) - 1)) mo_y q52 hf)
        · refine j_iconst (v := 1) hE dX12_works_371 (by decide) ?_
          refine j_goto (tgt := 376) hE dX12_works_372 (by decide) ?_
          obtain ⟨q54, hc55, hf⟩ := bind_of hf
          refine j_callS (ws' := ([n_Mo g a (up2 mo_z 48 0 ((mo_z 48 0) - 1)) mo_y] : List va_W)) (As := [.int 1]) (rest := []) (st2 := [.long q54]) hE (fun l => c_Mo_is l g 1 q54 hc55) cd_X12_is st_X12_is ml_Mo_312 rfl rfl ⟨⟨Nat.le_of_ble_eq_true rfl, Nat.le_of_ble_eq_true rfl⟩, ⟨Nat.zero_le _, Nat.zero_le _⟩, rfl, rfl⟩ [] rfl rfl rfl (Nat.le_of_ble_eq_true rfl) rfl dX12_works_376 ?_
          refine j_lstore (lv' := [(6, .long q54), (4, .long (mo_y 47 (Int32.toNatClampNeg ((mo_z 48 0) - 2)))), (2, .long (mo_y 47 (Int32.toNatClampNeg ((mo_z 48 0) - 1)))), (0, .ref (a 0)), (1, .int x1)]) hE dX12_works_379 (by decide) rfl ?_
          refine j_goto (tgt := 407) hE dX12_works_381 (by decide) ?_
          exact j_sub [3, 0] rfl (j_Mo_works_407 E g a x1 res hE hq (up2 mo_z 48 0 ((mo_z 48 0) - 1)) mo_y q54 hf)
    have t_c4 : 42 ≠ Int32.toInt x1 := fun h => c4 (Int32.toInt_inj.mp (h.symm.trans (by decide)))
    have t_c7 : 43 ≠ Int32.toInt x1 := fun h => c7 (Int32.toInt_inj.mp (h.symm.trans (by decide)))
    have t_c8 : 45 ≠ Int32.toInt x1 := fun h => c8 (Int32.toInt_inj.mp (h.symm.trans (by decide)))
    have t_c9 : 47 ≠ Int32.toInt x1 := fun h => c9 (Int32.toInt_inj.mp (h.symm.trans (by decide)))
    have t_c11 : 60 ≠ Int32.toInt x1 := fun h => c11 (Int32.toInt_inj.mp (h.symm.trans (by decide)))
    have t_c17 : 61 ≠ Int32.toInt x1 := fun h => c17 (Int32.toInt_inj.mp (h.symm.trans (by decide)))
    have t_c23 : 62 ≠ Int32.toInt x1 := fun h => c23 (Int32.toInt_inj.mp (h.symm.trans (by decide)))
    have t_c29 : 256 ≠ Int32.toInt x1 := fun h => c29 (Int32.toInt_inj.mp (h.symm.trans (by decide)))
    have t_c35 : 257 ≠ Int32.toInt x1 := fun h => c35 (Int32.toInt_inj.mp (h.symm.trans (by decide)))
    have t_c41 : 258 ≠ Int32.toInt x1 := fun h => c41 (Int32.toInt_inj.mp (h.symm.trans (by decide)))
    have t_c47 : 261 ≠ Int32.toInt x1 := fun h => c47 (Int32.toInt_inj.mp (h.symm.trans (by decide)))
    refine j_lookup (off := 314) (tgt := 384) hE dX12_works_70 (by decide) (by simp [Op.lookupswitch.offset, t_c4, t_c7, t_c8, t_c9, t_c11, t_c17, t_c23, t_c29, t_c35, t_c41, t_c47]) (by decide) ?_
    refine j_lload hE dX12_works_384 0 rfl ?_
    refine j_lconst (v := 0) hE dX12_works_386 (by decide) ?_
    refine j_lcmp hE dX12_works_387 ?_
    refine j_if_ne (tgt := 397) hE hf dX12_works_388 (by decide) (fun c56 hf => ?_) (fun c56 hf => ?_)
    · refine j_iconst (v := 1) hE dX12_works_397 (by decide) ?_
      refine j_goto (tgt := 402) hE dX12_works_398 (by decide) ?_
      obtain ⟨q57, hc58, hf⟩ := bind_of hf
      refine j_callS (ws' := ([n_Mo g a (up2 mo_z 48 0 ((mo_z 48 0) - 1)) mo_y] : List va_W)) (As := [.int 1]) (rest := []) (st2 := [.long q57]) hE (fun l => c_Mo_is l g 1 q57 hc58) cd_X12_is st_X12_is ml_Mo_312 rfl rfl ⟨⟨Nat.le_of_ble_eq_true rfl, Nat.le_of_ble_eq_true rfl⟩, ⟨Nat.zero_le _, Nat.zero_le _⟩, rfl, rfl⟩ [] rfl rfl rfl (Nat.le_of_ble_eq_true rfl) rfl dX12_works_402 ?_
      refine j_lstore (lv' := [(6, .long q57), (4, .long (mo_y 47 (Int32.toNatClampNeg ((mo_z 48 0) - 2)))), (2, .long (mo_y 47 (Int32.toNatClampNeg ((mo_z 48 0) - 1)))), (0, .ref (a 0)), (1, .int x1)]) hE dX12_works_405 (by decide) rfl ?_
      exact j_sub [3, 0] rfl (j_Mo_works_407 E g a x1 res hE hq (up2 mo_z 48 0 ((mo_z 48 0) - 1)) mo_y q57 hf)
    · refine j_lload_n hE dX12_works_391 rfl 1 rfl ?_
      refine j_lconst (v := 0) hE dX12_works_392 (by decide) ?_
      refine j_lcmp hE dX12_works_393 ?_
      refine j_if_eq (tgt := 401) hE hf dX12_works_394 (by decide) (fun c59 hf => ?_) (fun c59 hf => ?_)
      · refine j_iconst (v := 0) hE dX12_works_401 (by decide) ?_
        obtain ⟨q60, hc61, hf⟩ := bind_of hf
        refine j_callS (ws' := ([n_Mo g a (up2 mo_z 48 0 ((mo_z 48 0) - 1)) mo_y] : List va_W)) (As := [.int 0]) (rest := []) (st2 := [.long q60]) hE (fun l => c_Mo_is l g 0 q60 hc61) cd_X12_is st_X12_is ml_Mo_312 rfl rfl ⟨⟨Nat.le_of_ble_eq_true rfl, Nat.le_of_ble_eq_true rfl⟩, ⟨Nat.zero_le _, Nat.zero_le _⟩, rfl, rfl⟩ [] rfl rfl rfl (Nat.le_of_ble_eq_true rfl) rfl dX12_works_402 ?_
        refine j_lstore (lv' := [(6, .long q60), (4, .long (mo_y 47 (Int32.toNatClampNeg ((mo_z 48 0) - 2)))), (2, .long (mo_y 47 (Int32.toNatClampNeg ((mo_z 48 0) - 1)))), (0, .ref (a 0)), (1, .int x1)]) hE dX12_works_405 (by decide) rfl ?_
        exact j_sub [3, 0] rfl (j_Mo_works_407 E g a x1 res hE hq (up2 mo_z 48 0 ((mo_z 48 0) - 1)) mo_y q60 hf)
      · refine j_iconst (v := 1) hE dX12_works_397 (by decide) ?_
        refine j_goto (tgt := 402) hE dX12_works_398 (by decide) ?_
        obtain ⟨q62, hc63, hf⟩ := bind_of hf
        refine j_callS (ws' := ([n_Mo g a (up2 mo_z 48 0 ((mo_z 48 0) - 1)) mo_y] : List va_W)) (As := [.int 1]) (rest := []) (st2 := [.long q62]) hE (fun l => c_Mo_is l g 1 q62 hc63) cd_X12_is st_X12_is ml_Mo_312 rfl rfl ⟨⟨Nat.le_of_ble_eq_true rfl, Nat.le_of_ble_eq_true rfl⟩, ⟨Nat.zero_le _, Nat.zero_le _⟩, rfl, rfl⟩ [] rfl rfl rfl (Nat.le_of_ble_eq_true rfl) rfl dX12_works_402 ?_
        refine j_lstore (lv' := [(6, .long q62), (4, .long (mo_y 47 (Int32.toNatClampNeg ((mo_z 48 0) - 2)))), (2, .long (mo_y 47 (Int32.toNatClampNeg ((mo_z 48 0) - 1)))), (0, .ref (a 0)), (1, .int x1)]) hE dX12_works_405 (by decide) rfl ?_
        exact j_sub [3, 0] rfl (j_Mo_works_407 E g a x1 res hE hq (up2 mo_z 48 0 ((mo_z 48 0) - 1)) mo_y q62 hf)
  · refine j_aload_n hE dX12_works_19 rfl 1 rfl ?_
    refine j_get (v := .ref (a 19)) hE lg_Mo_77 0 rfl 0 (wg_Mo_0 g a mo_z mo_y) rfl dX12_works_20 ?_
    refine j_aload_n hE dX12_works_23 rfl 1 rfl ?_
    refine j_get (v := .int (mo_z 48 0)) hE lg_Mo_309 0 rfl 0 (wg_Mo_0 g a mo_z mo_y) rfl dX12_works_24 ?_
    refine j_iconst (v := 1) hE dX12_works_27 (by decide) ?_
    refine j_isub hE dX12_works_28 ?_
    refine j_lload_n hE dX12_works_29 rfl 0 rfl ?_
    refine j_lconst (v := 0) hE dX12_works_30 (by decide) ?_
    refine j_lcmp hE dX12_works_31 ?_
    refine j_if_ne (tgt := 39) hE hf dX12_works_32 (by decide) (fun c64 hf => ?_) (fun c64 hf => ?_)
    · refine j_iconst (v := 0) hE dX12_works_39 (by decide) ?_
      obtain ⟨q65, hc66, hf⟩ := bind_of hf
      refine j_callS (ws' := ([n_Mo g a mo_z mo_y] : List va_W)) (As := [.int 0]) (rest := [.int ((mo_z 48 0) - 1), .ref (a 19)]) (st2 := [.long q65, .int ((mo_z 48 0) - 1), .ref (a 19)]) hE (fun l => c_Mo_is l g 0 q65 hc66) cd_X12_is st_X12_is ml_Mo_312 rfl rfl ⟨⟨Nat.le_of_ble_eq_true rfl, Nat.le_of_ble_eq_true rfl⟩, ⟨Nat.zero_le _, Nat.zero_le _⟩, rfl, rfl⟩ [] rfl rfl rfl (Nat.le_of_ble_eq_true rfl) rfl dX12_works_40 ?_
      refine j_last (ws' := ([n_Mo g a mo_z (up2 mo_y 47 (Int32.toNatClampNeg ((mo_z 48 0) - 1)) q65)] : List va_W)) hE hf 0 rfl 19 (wg_Mo_19 g a mo_z mo_y) (wa_Mo_19 g a mo_z mo_y (Int32.toNatClampNeg ((mo_z 48 0) - 1)) q65) rfl dX12_works_43 (fun hf => ?_)
      refine j_iconst (v := 1) hE dX12_works_44 (by decide) ?_
      obtain rfl := Option.some.inj hf
      exact j_zret_c hE (Or.inr rfl) hq rfl rfl dX12_works_45
    · refine j_iconst (v := 1) hE dX12_works_35 (by decide) ?_
      refine j_goto (tgt := 40) hE dX12_works_36 (by decide) ?_
      obtain ⟨q67, hc68, hf⟩ := bind_of hf
      refine j_callS (ws' := ([n_Mo g a mo_z mo_y] : List va_W)) (As := [.int 1]) (rest := [.int ((mo_z 48 0) - 1), .ref (a 19)]) (st2 := [.long q67, .int ((mo_z 48 0) - 1), .ref (a 19)]) hE (fun l => c_Mo_is l g 1 q67 hc68) cd_X12_is st_X12_is ml_Mo_312 rfl rfl ⟨⟨Nat.le_of_ble_eq_true rfl, Nat.le_of_ble_eq_true rfl⟩, ⟨Nat.zero_le _, Nat.zero_le _⟩, rfl, rfl⟩ [] rfl rfl rfl (Nat.le_of_ble_eq_true rfl) rfl dX12_works_40 ?_
      refine j_last (ws' := ([n_Mo g a mo_z (up2 mo_y 47 (Int32.toNatClampNeg ((mo_z 48 0) - 1)) q67)] : List va_W)) hE hf 0 rfl 19 (wg_Mo_19 g a mo_z mo_y) (wa_Mo_19 g a mo_z mo_y (Int32.toNatClampNeg ((mo_z 48 0) - 1)) q67) rfl dX12_works_43 (fun hf => ?_)
      refine j_iconst (v := 1) hE dX12_works_44 (by decide) ?_
      obtain rfl := Option.some.inj hf
      exact j_zret_c hE (Or.inr rfl) hq rfl rfl dX12_works_45
