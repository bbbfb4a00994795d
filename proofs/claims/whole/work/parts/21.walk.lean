def rm_Notes_clear : Room := { frames := 3, cells := 0, slots := 0, locals := 67 }
def f_Notes_clear (no_z : jZ)  : Option (jZ) := (f_Notes_refresh (up2 (up2 no_z 0 0 0) 1 0 (-1))).bind fun q1 => some q1
set_option maxRecDepth 100000 in
theorem c_Notes_clear (l : Launch) (g : jG) (a : Nat → Nat) (no_z : jZ)  (res : jZ) (hf : f_Notes_clear no_z = some res) : MC l g yX4_clear cX4_clear 1 (none : Option Jvm.ClassFile.FieldType) rm_Notes_clear [.ref (a 0)] (([n_Notes g a no_z] : List va_W)) none (([n_Notes g a res] : List va_W)) 0 0 := by
  refine MC_of (own := RX4) (lv := [(0, .ref (a 0))]) (by decide) rfl (Nat.le_of_ble_eq_true rfl) rfl rfl (fun E hE hq => ?_)
  unfold f_Notes_clear at hf
  refine j_aload_n hE dX4_clear_0 rfl 0 rfl ?_
  refine j_iconst (v := 0) hE dX4_clear_1 (by decide) ?_
  refine j_put (v := .int 0) (ws' := ([n_Notes g a (up2 no_z 0 0 0)] : List va_W)) hE lp_Notes_9 0 rfl 0 (wg_Notes_0 g a no_z) rfl rfl (Nat.le_of_ble_eq_true rfl) (wp_Notes_0 g a no_z 0) rfl dX4_clear_2 ?_
  refine j_aload_n hE dX4_clear_5 rfl 0 rfl ?_
  refine j_iconst (v := (-1)) hE dX4_clear_6 (by decide) ?_
  refine j_put (v := .int (-1)) (ws' := ([n_Notes g a (up2 (up2 no_z 0 0 0) 1 0 (-1))] : List va_W)) hE lp_Notes_15 0 rfl 0 (wg_Notes_0 g a (up2 no_z 0 0 0)) rfl rfl (Nat.le_of_ble_eq_true rfl) (wp_Notes_1 g a (up2 no_z 0 0 0) (-1)) rfl dX4_clear_7 ?_
  refine j_aload_n hE dX4_clear_10 rfl 0 rfl ?_
  obtain ⟨q1, hc2, hf⟩ := bind_of hf
  refine j_callV (ws' := ([n_Notes g a q1] : List va_W)) (As := []) (rest := []) (st2 := []) hE (fun l => c_Notes_refresh l g a (up2 (up2 no_z 0 0 0) 1 0 (-1)) q1 hc2) cd_X4_refresh cv_X4_refresh ml_Notes_38 rfl rfl rfl (wg_Notes_0 _ _ _) ⟨⟨Nat.le_of_ble_eq_true rfl, Nat.le_of_ble_eq_true rfl⟩, ⟨Nat.zero_le _, Nat.zero_le _⟩, rfl, rfl⟩ [0] rfl rfl rfl (Nat.le_of_ble_eq_true rfl) rfl dX4_clear_11 ?_
  obtain rfl := Option.some.inj hf
  exact j_vret hE hq rfl rfl dX4_clear_14
def rm_Notes_putLatest : Room := { frames := 3, cells := 0, slots := 0, locals := 67 }
def f_Notes_putLatest_25  (x1 : Int32) (x2 : Int32) (x3 : Int32) (x4 : Int32)  (no_z : jZ) (s0 : Int32) : Option (jZ) := (if x4 = (-1) then (if s0 = 0 then (f_Notes_refresh no_z).bind fun q11 => some q11
    else (ix ((x1 * 9) + x2) 108).bind fun _ => some (up2 no_z 7 (Int32.toNatClampNeg ((x1 * 9) + x2)) x3))
    else (f_Notes_refresh no_z).bind fun q8 => some q8)
def f_Notes_putLatest (no_z : jZ) (x1 : Int32) (x2 : Int32) (x3 : Int32) (x4 : Int32) : Option (jZ) := (f_WP_isWithin x1 0 11).bind fun q1 => (if q1 = 0 then f_Notes_putLatest_25 x1 x2 x3 x4 no_z 0
    else (f_WP_isWithin x2 0 8).bind fun q4 => (if q4 = 0 then f_Notes_putLatest_25 x1 x2 x3 x4 no_z 0
    else f_Notes_putLatest_25 x1 x2 x3 x4 no_z 1))
set_option maxRecDepth 100000 in
theorem j_Notes_putLatest_25 (E : jT) (g : jG) (a : Nat → Nat)  (x1 : Int32) (x2 : Int32) (x3 : Int32) (x4 : Int32) (res : jZ) (hE : jOk E g RX4 cX4_putLatest 6 (none : Option Jvm.ClassFile.FieldType) rm_Notes_putLatest) (hq : jEnd E g none (([n_Notes g a res] : List va_W)) 0 0)  (no_z : jZ) (s0 : Int32) (hf : f_Notes_putLatest_25 x1 x2 x3 x4 no_z s0 = some res) : J E g 0 0 (([n_Notes g a no_z] : List va_W)) [(0, .ref (a 0)), (1, .int x1), (2, .int x2), (3, .int x3), (4, .int x4)] 25 [.int s0] := by
  unfold f_Notes_putLatest_25 at hf
  refine j_istore (lv' := [(5, .int s0), (0, .ref (a 0)), (1, .int x1), (2, .int x2), (3, .int x3), (4, .int x4)]) hE dX4_putLatest_25 (by decide) rfl ?_
  refine j_iload hE dX4_putLatest_27 5 rfl ?_
  refine j_iconst (v := (-1)) hE dX4_putLatest_29 (by decide) ?_
  refine j_icmp_ne (tgt := 53) hE hf dX4_putLatest_30 (by decide) (fun c7 hf => ?_) (fun c7 hf => ?_)
  · refine j_aload_n hE dX4_putLatest_53 rfl 1 rfl ?_
    obtain ⟨q8, hc9, hf⟩ := bind_of hf
    refine j_callV (ws' := ([n_Notes g a q8] : List va_W)) (As := []) (rest := []) (st2 := []) hE (fun l => c_Notes_refresh l g a no_z q8 hc9) cd_X4_refresh cv_X4_refresh ml_Notes_38 rfl rfl rfl (wg_Notes_0 _ _ _) ⟨⟨Nat.le_of_ble_eq_true rfl, Nat.le_of_ble_eq_true rfl⟩, ⟨Nat.zero_le _, Nat.zero_le _⟩, rfl, rfl⟩ [0] rfl rfl rfl (Nat.le_of_ble_eq_true rfl) rfl dX4_putLatest_54 ?_
    obtain rfl := Option.some.inj hf
    exact j_vret hE hq rfl rfl dX4_putLatest_57
  · refine j_iload hE dX4_putLatest_33 0 rfl ?_
    refine j_if_eq (tgt := 53) hE hf dX4_putLatest_35 (by decide) (fun c10 hf => ?_) (fun c10 hf => ?_)
    · refine j_aload_n hE dX4_putLatest_53 rfl 1 rfl ?_
      obtain ⟨q11, hc12, hf⟩ := bind_of hf
      refine j_callV (ws' := ([n_Notes g a q11] : List va_W)) (As := []) (rest := []) (st2 := []) hE (fun l => c_Notes_refresh l g a no_z q11 hc12) cd_X4_refresh cv_X4_refresh ml_Notes_38 rfl rfl rfl (wg_Notes_0 _ _ _) ⟨⟨Nat.le_of_ble_eq_true rfl, Nat.le_of_ble_eq_true rfl⟩, ⟨Nat.zero_le _, Nat.zero_le _⟩, rfl, rfl⟩ [0] rfl rfl rfl (Nat.le_of_ble_eq_true rfl) rfl dX4_putLatest_54 ?_
      obtain rfl := Option.some.inj hf
      exact j_vret hE hq rfl rfl dX4_putLatest_57
    · refine j_aload_n hE dX4_putLatest_38 rfl 1 rfl ?_
      refine j_get (v := .ref (a 6)) hE lg_Notes_35 0 rfl 0 (wg_Notes_0 g a no_z) rfl dX4_putLatest_39 ?_
      refine j_iload_n hE dX4_putLatest_42 rfl 2 rfl ?_
      refine j_bipush (v := 9) hE dX4_putLatest_43 (by decide) ?_
      refine j_imul hE dX4_putLatest_45 ?_
      refine j_iload_n hE dX4_putLatest_46 rfl 3 rfl ?_
      refine j_iadd hE dX4_putLatest_47 ?_
      refine j_iload_n hE dX4_putLatest_48 rfl 4 rfl ?_
      refine j_iast (ws' := ([n_Notes g a (up2 no_z 7 (Int32.toNatClampNeg ((x1 * 9) + x2)) x3)] : List va_W)) hE hf 0 rfl 6 (wg_Notes_6 g a no_z) (wa_Notes_6 g a no_z (Int32.toNatClampNeg ((x1 * 9) + x2)) x3) rfl dX4_putLatest_49 (fun hf => ?_)
      refine j_goto (tgt := 57) hE dX4_putLatest_50 (by decide) ?_
      obtain rfl := Option.some.inj hf
      exact j_vret hE hq rfl rfl dX4_putLatest_57
set_option maxRecDepth 100000 in
theorem c_Notes_putLatest (l : Launch) (g : jG) (a : Nat → Nat) (no_z : jZ) (x1 : Int32) (x2 : Int32) (x3 : Int32) (x4 : Int32) (res : jZ) (hf : f_Notes_putLatest no_z x1 x2 x3 x4 = some res) : MC l g yX4_putLatest cX4_putLatest 6 (none : Option Jvm.ClassFile.FieldType) rm_Notes_putLatest [.ref (a 0), .int x1, .int x2, .int x3, .int x4] (([n_Notes g a no_z] : List va_W)) none (([n_Notes g a res] : List va_W)) 0 0 := by
  refine MC_of (own := RX4) (lv := [(0, .ref (a 0)), (1, .int x1), (2, .int x2), (3, .int x3), (4, .int x4)]) (by decide) rfl (Nat.le_of_ble_eq_true rfl) rfl rfl (fun E hE hq => ?_)
  unfold f_Notes_putLatest at hf
  refine j_iload_n hE dX4_putLatest_0 rfl 1 rfl ?_
  refine j_iconst (v := 0) hE dX4_putLatest_1 (by decide) ?_
  refine j_bipush (v := 11) hE dX4_putLatest_2 (by decide) ?_
  obtain ⟨q1, hc2, hf⟩ := bind_of hf
  refine j_callSN (ws' := ([n_Notes g a no_z] : List va_W)) (As := [.int x1, .int 0, .int 11]) (rest := []) (st2 := [.int q1]) hE (fun l => c_WP_isWithin l g x1 0 11 q1 hc2) cd_X11_isWithin st_X11_isWithin ml_Notes_45 rfl rfl ⟨⟨Nat.le_of_ble_eq_true rfl, Nat.le_of_ble_eq_true rfl⟩, ⟨Nat.zero_le _, Nat.zero_le _⟩, rfl, rfl⟩ [] rfl rfl rfl (Nat.le_of_ble_eq_true rfl) rfl dX4_putLatest_4 ?_
  refine j_if_eq (tgt := 24) hE hf dX4_putLatest_7 (by decide) (fun c3 hf => ?_) (fun c3 hf => ?_)
  · refine j_iconst (v := 0) hE dX4_putLatest_24 (by decide) ?_
    exact j_Notes_putLatest_25 E g a x1 x2 x3 x4 res hE hq no_z 0 hf
  · refine j_iload_n hE dX4_putLatest_10 rfl 2 rfl ?_
    refine j_iconst (v := 0) hE dX4_putLatest_11 (by decide) ?_
    refine j_bipush (v := 8) hE dX4_putLatest_12 (by decide) ?_
    obtain ⟨q4, hc5, hf⟩ := bind_of hf
    refine j_callSN (ws' := ([n_Notes g a no_z] : List va_W)) (As := [.int x2, .int 0, .int 8]) (rest := []) (st2 := [.int q4]) hE (fun l => c_WP_isWithin l g x2 0 8 q4 hc5) cd_X11_isWithin st_X11_isWithin ml_Notes_45 rfl rfl ⟨⟨Nat.le_of_ble_eq_true rfl, Nat.le_of_ble_eq_true rfl⟩, ⟨Nat.zero_le _, Nat.zero_le _⟩, rfl, rfl⟩ [] rfl rfl rfl (Nat.le_of_ble_eq_true rfl) rfl dX4_putLatest_14 ?_
    refine j_if_eq (tgt := 24) hE hf dX4_putLatest_17 (by decide) (fun c6 hf => ?_) (fun c6 hf => ?_)
    · refine j_iconst (v := 0) hE dX4_putLatest_24 (by decide) ?_
      exact j_Notes_putLatest_25 E g a x1 x2 x3 x4 res hE hq no_z 0 hf
    · refine j_iconst (v := 1) hE dX4_putLatest_20 (by decide) ?_
      refine j_goto (tgt := 25) hE dX4_putLatest_21 (by decide) ?_
      exact j_Notes_putLatest_25 E g a x1 x2 x3 x4 res hE hq no_z 1 hf
def rm_Notes_add : Room := { frames := 4, cells := 0, slots := 0, locals := 92 }
def f_Notes_add (no_z : jZ) (x1 : Int32) (x2 : Int32) (x3 : Int32) (x4 : Int32) : Option (jZ × Int32) := (if (no_z 0 0) < 0 then some (no_z, (-1))
    else (if (no_z 0 0) < 150 then (ix (no_z 0 0) 150).bind fun _ => (ix (no_z 0 0) 150).bind fun _ => (ix (no_z 0 0) 150).bind fun _ => (ix (no_z 0 0) 150).bind fun _ => (if (no_z 1 0) = (-1) then (f_Notes_putLatest (up2 (up2 (up2 (up2 (up2 no_z 2 (Int32.toNatClampNeg (no_z 0 0)) x1) 3 (Int32.toNatClampNeg (no_z 0 0)) x2) 4 (Int32.toNatClampNeg (no_z 0 0)) x3) 5 (Int32.toNatClampNeg (no_z 0 0)) x4) 0 0 ((no_z 0 0) + 1)) x1 x2 x3 x4).bind fun q4 => some (q4, (no_z 0 0))
    else some ((up2 (up2 (up2 (up2 (up2 no_z 2 (Int32.toNatClampNeg (no_z 0 0)) x1) 3 (Int32.toNatClampNeg (no_z 0 0)) x2) 4 (Int32.toNatClampNeg (no_z 0 0)) x3) 5 (Int32.toNatClampNeg (no_z 0 0)) x4) 0 0 ((no_z 0 0) + 1)), (no_z 0 0)))
    else some (no_z, (-1))))
set_option maxRecDepth 100000 in
theorem c_Notes_add (l : Launch) (g : jG) (a : Nat → Nat) (no_z : jZ) (x1 : Int32) (x2 : Int32) (x3 : Int32) (x4 : Int32) (res : jZ × Int32) (hf : f_Notes_add no_z x1 x2 x3 x4 = some res) : MC l g yX4_add cX4_add 6 (some .int) rm_Notes_add [.ref (a 0), .int x1, .int x2, .int x3, .int x4] (([n_Notes g a no_z] : List va_W)) (some (.int res.2)) (([n_Notes g a res.1] : List va_W)) 0 0 := by
  refine MC_of (own := RX4) (lv := [(0, .ref (a 0)), (1, .int x1), (2, .int x2), (3, .int x3), (4, .int x4)]) (by decide) rfl (Nat.le_of_ble_eq_true rfl) rfl rfl (fun E hE hq => ?_)
  unfold f_Notes_add at hf
  refine j_aload_n hE dX4_add_0 rfl 0 rfl ?_
  refine j_get (v := .int (no_z 0 0)) hE lg_Notes_9 0 rfl 0 (wg_Notes_0 g a no_z) rfl dX4_add_1 ?_
  refine j_istore (lv' := [(5, .int (no_z 0 0)), (0, .ref (a 0)), (1, .int x1), (2, .int x2), (3, .int x3), (4, .int x4)]) hE dX4_add_4 (by decide) rfl ?_
  refine j_iload hE dX4_add_6 0 rfl ?_
  refine j_if_lt (tgt := 19) hE hf dX4_add_8 (by decide) (fun c1 hf => ?_) (fun c1 hf => ?_)
  · refine j_iconst (v := (-1)) hE dX4_add_19 (by decide) ?_
    obtain rfl := Option.some.inj hf
    exact j_iret hE hq rfl rfl dX4_add_20
  · refine j_iload hE dX4_add_11 0 rfl ?_
    refine j_sipush (v := 150) hE dX4_add_13 (by decide) ?_
    refine j_icmp_lt (tgt := 21) hE hf dX4_add_16 (by decide) (fun c2 hf => ?_) (fun c2 hf => ?_)
    · refine j_aload_n hE dX4_add_21 rfl 1 rfl ?_
      refine j_get (v := .ref (a 1)) hE lg_Notes_18 0 rfl 0 (wg_Notes_0 g a no_z) rfl dX4_add_22 ?_
      refine j_iload hE dX4_add_25 0 rfl ?_
      refine j_iload_n hE dX4_add_27 rfl 2 rfl ?_
      refine j_iast (ws' := ([n_Notes g a (up2 no_z 2 (Int32.toNatClampNeg (no_z 0 0)) x1)] : List va_W)) hE hf 0 rfl 1 (wg_Notes_1 g a no_z) (wa_Notes_1 g a no_z (Int32.toNatClampNeg (no_z 0 0)) x1) rfl dX4_add_28 (fun hf => ?_)
      refine j_aload_n hE dX4_add_29 rfl 1 rfl ?_
      refine j_get (v := .ref (a 2)) hE lg_Notes_22 0 rfl 0 (wg_Notes_0 g a (up2 no_z 2 (Int32.toNatClampNeg (no_z 0 0)) x1)) rfl dX4_add_30 ?_
      refine j_iload hE dX4_add_33 0 rfl ?_
      refine j_iload_n hE dX4_add_35 rfl 3 rfl ?_
      refine j_iast (ws' := ([n_Notes g a (up2 (up2 no_z 2 (Int32.toNatClampNeg (no_z 0 0)) x1) 3 (Int32.toNatClampNeg (no_z 0 0)) x2)] : List va_W)) hE hf 0 rfl 2 (wg_Notes_2 g a (up2 no_z 2 (Int32.toNatClampNeg (no_z 0 0)) x1)) (wa_Notes_2 g a (up2 no_z 2 (Int32.toNatClampNeg (no_z 0 0)) x1) (Int32.toNatClampNeg (no_z 0 0)) x2) rfl dX4_add_36 (fun hf => ?_)
      refine j_aload_n hE dX4_add_37 rfl 1 rfl ?_
      refine j_get (v := .ref (a 3)) hE lg_Notes_25 0 rfl 0 (wg_Notes_0 g a (up2 (up2 no_z 2 (Int32.toNatClampNeg (no_z 0 0)) x1) 3 (Int32.toNatClampNeg (no_z 0 0)) x2)) rfl dX4_add_38 ?_
      refine j_iload hE dX4_add_41 0 rfl ?_
      refine j_iload_n hE dX4_add_43 rfl 4 rfl ?_
      refine j_iast (ws' := ([n_Notes g a (up2 (up2 (up2 no_z 2 (Int32.toNatClampNeg (no_z 0 0)) x1) 3 (Int32.toNatClampNeg (no_z 0 0)) x2) 4 (Int32.toNatClampNeg (no_z 0 0)) x3)] : List va_W)) hE hf 0 rfl 3 (wg_Notes_3 g a (up2 (up2 no_z 2 (Int32.toNatClampNeg (no_z 0 0)) x1) 3 (Int32.toNatClampNeg (no_z 0 0)) x2)) (wa_Notes_3 g a (up2 (up2 no_z 2 (Int32.toNatClampNeg (no_z 0 0)) x1) 3 (Int32.toNatClampNeg (no_z 0 0)) x2) (Int32.toNatClampNeg (no_z 0 0)) x3) rfl dX4_add_44 (fun hf => ?_)
      refine j_aload_n hE dX4_add_45 rfl 1 rfl ?_
      refine j_get (v := .ref (a 4)) hE lg_Notes_28 0 rfl 0 (wg_Notes_0 g a (up2 (up2 (up2 no_z 2 (Int32.toNatClampNeg (no_z 0 0)) x1) 3 (Int32.toNatClampNeg (no_z 0 0)) x2) 4 (Int32.toNatClampNeg (no_z 0 0)) x3)) rfl dX4_add_46 ?_
      refine j_iload hE dX4_add_49 0 rfl ?_
      refine j_iload hE dX4_add_51 5 rfl ?_
      refine j_iast (ws' := ([n_Notes g a (up2 (up2 (up2 (up2 no_z 2 (Int32.toNatClampNeg (no_z 0 0)) x1) 3 (Int32.toNatClampNeg (no_z 0 0)) x2) 4 (Int32.toNatClampNeg (no_z 0 0)) x3) 5 (Int32.toNatClampNeg (no_z 0 0)) x4)] : List va_W)) hE hf 0 rfl 4 (wg_Notes_4 g a (up2 (up2 (up2 no_z 2 (Int32.toNatClampNeg (no_z 0 0)) x1) 3 (Int32.toNatClampNeg (no_z 0 0)) x2) 4 (Int32.toNatClampNeg (no_z 0 0)) x3)) (wa_Notes_4 g a (up2 (up2 (up2 no_z 2 (Int32.toNatClampNeg (no_z 0 0)) x1) 3 (Int32.toNatClampNeg (no_z 0 0)) x2) 4 (Int32.toNatClampNeg (no_z 0 0)) x3) (Int32.toNatClampNeg (no_z 0 0)) x4) rfl dX4_add_53 (fun hf => ?_)
      refine j_aload_n hE dX4_add_54 rfl 1 rfl ?_
      refine j_iload hE dX4_add_55 0 rfl ?_
      refine j_iconst (v := 1) hE dX4_add_57 (by decide) ?_
      refine j_iadd hE dX4_add_58 ?_
      refine j_put (v := .int ((no_z 0 0) + 1)) (ws' := ([n_Notes g a (up2 (up2 (up2 (up2 (up2 no_z 2 (Int32.toNatClampNeg (no_z 0 0)) x1) 3 (Int32.toNatClampNeg (no_z 0 0)) x2) 4 (Int32.toNatClampNeg (no_z 0 0)) x3) 5 (Int32.toNatClampNeg (no_z 0 0)) x4) 0 0 ((no_z 0 0) + 1))] : List va_W)) hE lp_Notes_9 0 rfl 0 (wg_Notes_0 g a (up2 (up2 (up2 (up2 no_z 2 (Int32.toNatClampNeg (no_z 0 0)) x1) 3 (Int32.toNatClampNeg (no_z 0 0)) x2) 4 (Int32.toNatClampNeg (no_z 0 0)) x3) 5 (Int32.toNatClampNeg (no_z 0 0)) x4)) rfl rfl (Nat.le_of_ble_eq_true rfl) (wp_Notes_0 g a (up2 (up2 (up2 (up2 no_z 2 (Int32.toNatClampNeg (no_z 0 0)) x1) 3 (Int32.toNatClampNeg (no_z 0 0)) x2) 4 (Int32.toNatClampNeg (no_z 0 0)) x3) 5 (Int32.toNatClampNeg (no_z 0 0)) x4) ((no_z 0 0) + 1)) rfl dX4_add_59 ?_
      refine j_aload_n hE dX4_add_62 rfl 1 rfl ?_
      refine j_get (v := .int (no_z 1 0)) hE lg_Notes_15 0 rfl 0 (wg_Notes_0 g a (up2 (up2 (up2 (up2 (up2 no_z 2 (Int32.toNatClampNeg (no_z 0 0)) x1) 3 (Int32.toNatClampNeg (no_z 0 0)) x2) 4 (Int32.toNatClampNeg (no_z 0 0)) x3) 5 (Int32.toNatClampNeg (no_z 0 0)) x4) 0 0 ((no_z 0 0) + 1))) rfl dX4_add_63 ?_
      refine j_iconst (v := (-1)) hE dX4_add_66 (by decide) ?_
      refine j_icmp_ne (tgt := 79) hE hf dX4_add_67 (by decide) (fun c3 hf => ?_) (fun c3 hf => ?_)
      · refine j_iload hE dX4_add_79 0 rfl ?_
        obtain rfl := Option.some.inj hf
        exact j_iret hE hq rfl rfl dX4_add_81
      · refine j_aload_n hE dX4_add_70 rfl 1 rfl ?_
        refine j_iload_n hE dX4_add_71 rfl 2 rfl ?_
        refine j_iload_n hE dX4_add_72 rfl 3 rfl ?_
        refine j_iload_n hE dX4_add_73 rfl 4 rfl ?_
        refine j_iload hE dX4_add_74 5 rfl ?_
        obtain ⟨q4, hc5, hf⟩ := bind_of hf
        refine j_callV (ws' := ([n_Notes g a q4] : List va_W)) (As := [.int x1, .int x2, .int x3, .int x4]) (rest := []) (st2 := []) hE (fun l => c_Notes_putLatest l g a (up2 (up2 (up2 (up2 (up2 no_z 2 (Int32.toNatClampNeg (no_z 0 0)) x1) 3 (Int32.toNatClampNeg (no_z 0 0)) x2) 4 (Int32.toNatClampNeg (no_z 0 0)) x3) 5 (Int32.toNatClampNeg (no_z 0 0)) x4) 0 0 ((no_z 0 0) + 1)) x1 x2 x3 x4 q4 hc5) cd_X4_putLatest cv_X4_putLatest ml_Notes_41 rfl rfl rfl (wg_Notes_0 _ _ _) ⟨⟨Nat.le_of_ble_eq_true rfl, Nat.le_of_ble_eq_true rfl⟩, ⟨Nat.zero_le _, Nat.zero_le _⟩, rfl, rfl⟩ [0] rfl rfl rfl (Nat.le_of_ble_eq_true rfl) rfl dX4_add_76 ?_
        refine j_iload hE dX4_add_79 0 rfl ?_
        obtain rfl := Option.some.inj hf
        exact j_iret hE hq rfl rfl dX4_add_81
    · refine j_iconst (v := (-1)) hE dX4_add_19 (by decide) ?_
      obtain rfl := Option.some.inj hf
      exact j_iret hE hq rfl rfl dX4_add_20
def rm_Notes_limitTo : Room := { frames := 3, cells := 0, slots := 0, locals := 67 }
def f_Notes_limitTo (no_z : jZ) (x1 : Int32) : Option (jZ) := (f_Notes_refresh (up2 no_z 1 0 x1)).bind fun q1 => some q1
set_option maxRecDepth 100000 in
theorem c_Notes_limitTo (l : Launch) (g : jG) (a : Nat → Nat) (no_z : jZ) (x1 : Int32) (res : jZ) (hf : f_Notes_limitTo no_z x1 = some res) : MC l g yX4_limitTo cX4_limitTo 2 (none : Option Jvm.ClassFile.FieldType) rm_Notes_limitTo [.ref (a 0), .int x1] (([n_Notes g a no_z] : List va_W)) none (([n_Notes g a res] : List va_W)) 0 0 := by
  refine MC_of (own := RX4) (lv := [(0, .ref (a 0)), (1, .int x1)]) (by decide) rfl (Nat.le_of_ble_eq_true rfl) rfl rfl (fun E hE hq => ?_)
  unfold f_Notes_limitTo at hf
  refine j_aload_n hE dX4_limitTo_0 rfl 0 rfl ?_
  refine j_iload_n hE dX4_limitTo_1 rfl 1 rfl ?_
  refine j_put (v := .int x1) (ws' := ([n_Notes g a (up2 no_z 1 0 x1)] : List va_W)) hE lp_Notes_15 0 rfl 0 (wg_Notes_0 g a no_z) rfl rfl (Nat.le_of_ble_eq_true rfl) (wp_Notes_1 g a no_z x1) rfl dX4_limitTo_2 ?_
  refine j_aload_n hE dX4_limitTo_5 rfl 0 rfl ?_
  obtain ⟨q1, hc2, hf⟩ := bind_of hf
  refine j_callV (ws' := ([n_Notes g a q1] : List va_W)) (As := []) (rest := []) (st2 := []) hE (fun l => c_Notes_refresh l g a (up2 no_z 1 0 x1) q1 hc2) cd_X4_refresh cv_X4_refresh ml_Notes_38 rfl rfl rfl (wg_Notes_0 _ _ _) ⟨⟨Nat.le_of_ble_eq_true rfl, Nat.le_of_ble_eq_true rfl⟩, ⟨Nat.zero_le _, Nat.zero_le _⟩, rfl, rfl⟩ [0] rfl rfl rfl (Nat.le_of_ble_eq_true rfl) rfl dX4_limitTo_6 ?_
  obtain rfl := Option.some.inj hf
  exact j_vret hE hq rfl rfl dX4_limitTo_9
def rm_Notes_at : Room := { frames := 0, cells := 0, slots := 0, locals := 0 }
def f_Notes_at_25 (no_z : jZ) (x1 : Int32) (x2 : Int32)  (s0 : Int32) : Option (Int32) := (if s0 = 0 then some (-1)
    else (ix ((x1 * 9) + x2) 108).bind fun _ => some (no_z 7 (Int32.toNatClampNeg ((x1 * 9) + x2))))
def f_Notes_at (no_z : jZ) (x1 : Int32) (x2 : Int32) : Option (Int32) := (if x1 < 0 then f_Notes_at_25 no_z x1 x2 0
    else (if 12 ≤ x1 then f_Notes_at_25 no_z x1 x2 0
    else (if x2 < 0 then f_Notes_at_25 no_z x1 x2 0
    else (if 9 ≤ x2 then f_Notes_at_25 no_z x1 x2 0
    else f_Notes_at_25 no_z x1 x2 1))))
set_option maxRecDepth 100000 in
theorem j_Notes_at_25 (E : jT) (g : jG) (a : Nat → Nat) (no_z : jZ) (x1 : Int32) (x2 : Int32) (res : Int32) (hE : jOk E g RX4 cX4_at 4 (some .int) rm_Notes_at) (hq : jEnd E g (some (.int res)) (([n_Notes g a no_z] : List va_W)) 0 0)  (s0 : Int32) (hf : f_Notes_at_25 no_z x1 x2 s0 = some res) : J E g 0 0 (([n_Notes g a no_z] : List va_W)) [(0, .ref (a 0)), (1, .int x1), (2, .int x2)] 25 [.int s0] := by
  unfold f_Notes_at_25 at hf
  refine j_istore_n (lv' := [(3, .int s0), (0, .ref (a 0)), (1, .int x1), (2, .int x2)]) hE dX4_at_25 rfl (by decide) rfl ?_
  refine j_iload_n hE dX4_at_26 rfl 0 rfl ?_
  refine j_if_eq (tgt := 44) hE hf dX4_at_27 (by decide) (fun c5 hf => ?_) (fun c5 hf => ?_)
  · refine j_iconst (v := (-1)) hE dX4_at_44 (by decide) ?_
    obtain rfl := Option.some.inj hf
    exact j_iret hE hq rfl rfl dX4_at_45
  · refine j_aload_n hE dX4_at_30 rfl 1 rfl ?_
    refine j_get (v := .ref (a 6)) hE lg_Notes_35 0 rfl 0 (wg_Notes_0 g a no_z) rfl dX4_at_31 ?_
    refine j_iload_n hE dX4_at_34 rfl 2 rfl ?_
    refine j_bipush (v := 9) hE dX4_at_35 (by decide) ?_
    refine j_imul hE dX4_at_37 ?_
    refine j_iload_n hE dX4_at_38 rfl 3 rfl ?_
    refine j_iadd hE dX4_at_39 ?_
    refine j_iald hE hf 0 rfl 6 (wg_Notes_6 g a no_z) dX4_at_40 (fun hf => ?_)
    refine j_goto (tgt := 45) hE dX4_at_41 (by decide) ?_
    obtain rfl := Option.some.inj hf
    exact j_iret hE hq rfl rfl dX4_at_45
set_option maxRecDepth 100000 in
theorem c_Notes_at (l : Launch) (g : jG) (a : Nat → Nat) (no_z : jZ) (x1 : Int32) (x2 : Int32) (res : Int32) (hf : f_Notes_at no_z x1 x2 = some res) : MC l g yX4_at cX4_at 4 (some .int) rm_Notes_at [.ref (a 0), .int x1, .int x2] (([n_Notes g a no_z] : List va_W)) (some (.int res)) (([n_Notes g a no_z] : List va_W)) 0 0 := by
  refine MC_of (own := RX4) (lv := [(0, .ref (a 0)), (1, .int x1), (2, .int x2)]) (by decide) rfl (Nat.le_of_ble_eq_true rfl) rfl rfl (fun E hE hq => ?_)
  unfold f_Notes_at at hf
  refine j_iload_n hE dX4_at_0 rfl 1 rfl ?_
  refine j_if_lt (tgt := 24) hE hf dX4_at_1 (by decide) (fun c1 hf => ?_) (fun c1 hf => ?_)
  · refine j_iconst (v := 0) hE dX4_at_24 (by decide) ?_
    exact j_Notes_at_25 E g a no_z x1 x2 res hE hq 0 hf
  · refine j_iload_n hE dX4_at_4 rfl 1 rfl ?_
    refine j_bipush (v := 12) hE dX4_at_5 (by decide) ?_
    refine j_icmp_ge (tgt := 24) hE hf dX4_at_7 (by decide) (fun c2 hf => ?_) (fun c2 hf => ?_)
    · refine j_iconst (v := 0) hE dX4_at_24 (by decide) ?_
      exact j_Notes_at_25 E g a no_z x1 x2 res hE hq 0 hf
    · refine j_iload_n hE dX4_at_10 rfl 2 rfl ?_
      refine j_if_lt (tgt := 24) hE hf dX4_at_11 (by decide) (fun c3 hf => ?_) (fun c3 hf => ?_)
      · refine j_iconst (v := 0) hE dX4_at_24 (by decide) ?_
        exact j_Notes_at_25 E g a no_z x1 x2 res hE hq 0 hf
      · refine j_iload_n hE dX4_at_14 rfl 2 rfl ?_
        refine j_bipush (v := 9) hE dX4_at_15 (by decide) ?_
        refine j_icmp_ge (tgt := 24) hE hf dX4_at_17 (by decide) (fun c4 hf => ?_) (fun c4 hf => ?_)
        · refine j_iconst (v := 0) hE dX4_at_24 (by decide) ?_
          exact j_Notes_at_25 E g a no_z x1 x2 res hE hq 0 hf
        · refine j_iconst (v := 1) hE dX4_at_20 (by decide) ?_
          refine j_goto (tgt := 25) hE dX4_at_21 (by decide) ?_
          exact j_Notes_at_25 E g a no_z x1 x2 res hE hq 1 hf
def rm_Notes_sumOf : Room := { frames := 1, cells := 0, slots := 0, locals := 23 }
def f_Notes_sumOf_6 (no_z : jZ) (x1 : Int32) (x2 : Int32) (x3 : Int32)  : Nat → Int32 → Int32 → Option (Int32)
  | 0, _, _ => none
  | n + 1, v4, v5 => (if x3 ≤ v5 then some v4
    else (if 9 ≤ v5 then some v4
    else (f_Notes_at no_z x1 (x2 + v5)).bind fun q3 => (if q3 = (-1) then some (-1)
    else f_Notes_sumOf_6 no_z x1 x2 x3 n (v4 + q3) (v5 + 1))))
def f_Notes_sumOf (no_z : jZ) (x1 : Int32) (x2 : Int32) (x3 : Int32) : Option (Int32) := f_Notes_sumOf_6 no_z x1 x2 x3 FU 0 0
set_option maxRecDepth 100000 in
theorem j_Notes_sumOf_6 (E : jT) (g : jG) (a : Nat → Nat) (no_z : jZ) (x1 : Int32) (x2 : Int32) (x3 : Int32) (res : Int32) (hE : jOk E g RX4 cX4_sumOf 7 (some .int) rm_Notes_sumOf) (hq : jEnd E g (some (.int res)) (([n_Notes g a no_z] : List va_W)) 0 0)  : ∀ (n : Nat) (v4 : Int32) (v5 : Int32), f_Notes_sumOf_6 no_z x1 x2 x3 n v4 v5 = some res → J E g 0 0 (([n_Notes g a no_z] : List va_W)) [(0, .ref (a 0)), (1, .int x1), (2, .int x2), (3, .int x3), (4, .int v4), (5, .int v5)] 6 [] := by
  intro n
  induction n with
  | zero =>
    intro v4 v5 hf
    rw [f_Notes_sumOf_6] at hf
    cases hf
  | succ n ih =>
    intro v4 v5 hf
    rw [f_Notes_sumOf_6] at hf
    refine j_iload hE dX4_sumOf_6 5 rfl ?_
    refine j_iload_n hE dX4_sumOf_8 rfl 3 rfl ?_
    refine j_icmp_ge (tgt := 51) hE hf dX4_sumOf_9 (by decide) (fun c1 hf => ?_) (fun c1 hf => ?_)
    · refine j_iload hE dX4_sumOf_51 4 rfl ?_
      obtain rfl := Option.some.inj hf
      exact j_iret hE hq rfl rfl dX4_sumOf_53
    · refine j_iload hE dX4_sumOf_12 5 rfl ?_
      refine j_bipush (v := 9) hE dX4_sumOf_14 (by decide) ?_
      refine j_icmp_ge (tgt := 51) hE hf dX4_sumOf_16 (by decide) (fun c2 hf => ?_) (fun c2 hf => ?_)
      · refine j_iload hE dX4_sumOf_51 4 rfl ?_
        obtain rfl := Option.some.inj hf
        exact j_iret hE hq rfl rfl dX4_sumOf_53
      · refine j_aload_n hE dX4_sumOf_19 rfl 0 rfl ?_
        refine j_iload_n hE dX4_sumOf_20 rfl 1 rfl ?_
        refine j_iload_n hE dX4_sumOf_21 rfl 2 rfl ?_
        refine j_iload hE dX4_sumOf_22 5 rfl ?_
        refine j_iadd hE dX4_sumOf_24 ?_
        obtain ⟨q3, hc4, hf⟩ := bind_of hf
        refine j_callV (ws' := ([n_Notes g a no_z] : List va_W)) (As := [.int x1, .int (x2 + v5)]) (rest := []) (st2 := [.int q3]) hE (fun l => c_Notes_at l g a no_z x1 (x2 + v5) q3 hc4) cd_X4_at cv_X4_at ml_Notes_49 rfl rfl rfl (wg_Notes_0 _ _ _) ⟨⟨Nat.le_of_ble_eq_true rfl, Nat.le_of_ble_eq_true rfl⟩, ⟨Nat.zero_le _, Nat.zero_le _⟩, rfl, rfl⟩ [0] rfl rfl rfl (Nat.le_of_ble_eq_true rfl) rfl dX4_sumOf_25 ?_
        refine j_istore (lv' := [(6, .int q3), (0, .ref (a 0)), (1, .int x1), (2, .int x2), (3, .int x3), (4, .int v4), (5, .int v5)]) hE dX4_sumOf_28 (by decide) rfl ?_
        refine j_iload hE dX4_sumOf_30 0 rfl ?_
        refine j_iconst (v := (-1)) hE dX4_sumOf_32 (by decide) ?_
        refine j_icmp_ne (tgt := 38) hE hf dX4_sumOf_33 (by decide) (fun c5 hf => ?_) (fun c5 hf => ?_)
        · refine j_iload hE dX4_sumOf_38 5 rfl ?_
          refine j_iload hE dX4_sumOf_40 0 rfl ?_
          refine j_iadd hE dX4_sumOf_42 ?_
          refine j_istore (lv' := [(4, .int (v4 + q3)), (6, .int q3), (0, .ref (a 0)), (1, .int x1), (2, .int x2), (3, .int x3), (5, .int v5)]) hE dX4_sumOf_43 (by decide) rfl ?_
          refine j_iinc (v := (v5 + 1)) (lv' := [(5, .int (v5 + 1)), (4, .int (v4 + q3)), (6, .int q3), (0, .ref (a 0)), (1, .int x1), (2, .int x2), (3, .int x3)]) hE dX4_sumOf_45 6 rfl rfl (by decide) rfl ?_
          refine j_goto (tgt := 6) hE dX4_sumOf_48 (by decide) ?_
          exact j_sub [3, 4, 5, 6, 1, 0] rfl (ih (v4 + q3) (v5 + 1) hf)
        · refine j_iconst (v := (-1)) hE dX4_sumOf_36 (by decide) ?_
          obtain rfl := Option.some.inj hf
          exact j_iret hE hq rfl rfl dX4_sumOf_37
set_option maxRecDepth 100000 in
theorem c_Notes_sumOf (l : Launch) (g : jG) (a : Nat → Nat) (no_z : jZ) (x1 : Int32) (x2 : Int32) (x3 : Int32) (res : Int32) (hf : f_Notes_sumOf no_z x1 x2 x3 = some res) : MC l g yX4_sumOf cX4_sumOf 7 (some .int) rm_Notes_sumOf [.ref (a 0), .int x1, .int x2, .int x3] (([n_Notes g a no_z] : List va_W)) (some (.int res)) (([n_Notes g a no_z] : List va_W)) 0 0 := by
  refine MC_of (own := RX4) (lv := [(0, .ref (a 0)), (1, .int x1), (2, .int x2), (3, .int x3)]) (by decide) rfl (Nat.le_of_ble_eq_true rfl) rfl rfl (fun E hE hq => ?_)
  unfold f_Notes_sumOf at hf
  refine j_iconst (v := 0) hE dX4_sumOf_0 (by decide) ?_
  refine j_istore (lv' := [(4, .int 0), (0, .ref (a 0)), (1, .int x1), (2, .int x2), (3, .int x3)]) hE dX4_sumOf_1 (by decide) rfl ?_
  refine j_iconst (v := 0) hE dX4_sumOf_3 (by decide) ?_
  refine j_istore (lv' := [(5, .int 0), (4, .int 0), (0, .ref (a 0)), (1, .int x1), (2, .int x2), (3, .int x3)]) hE dX4_sumOf_4 (by decide) rfl ?_
  exact j_sub [2, 3, 4, 5, 1, 0] rfl (j_Notes_sumOf_6 E g a no_z x1 x2 x3 res hE hq FU 0 0 hf)
def rm_Notes_latestYear : Room := { frames := 1, cells := 0, slots := 0, locals := 23 }
def f_Notes_latestYear_9 (no_z : jZ)  (k3 : Int32 → Option (Int32)) : Nat → Int32 → Int32 → Option (Int32)
  | 0, _, _ => none
  | n + 1, v1, v2 => (if 12 ≤ v2 then k3 (v1 + (-1))
    else (f_Notes_at no_z v2 v1).bind fun q3 => (if q3 = (-1) then f_Notes_latestYear_9 no_z k3 n v1 (v2 + 1)
    else some v1))
def f_Notes_latestYear_3 (no_z : jZ)   : Nat → Int32 → Option (Int32)
  | 0, _ => none
  | n + 1, v1 => (if v1 < 0 then some (-1)
    else f_Notes_latestYear_9 no_z (fun v1 => f_Notes_latestYear_3 no_z n v1) FU v1 0)
def f_Notes_latestYear (no_z : jZ)  : Option (Int32) := f_Notes_latestYear_3 no_z FU 8
set_option maxRecDepth 100000 in
theorem j_Notes_latestYear_9 (E : jT) (g : jG) (a : Nat → Nat) (no_z : jZ)  (res : Int32) (hE : jOk E g RX4 cX4_latestYear 3 (some .int) rm_Notes_latestYear) (hq : jEnd E g (some (.int res)) (([n_Notes g a no_z] : List va_W)) 0 0) (k3 : Int32 → Option (Int32)) (hk3 : ∀ (v1 : Int32), k3 v1 = some res → J E g 0 0 (([n_Notes g a no_z] : List va_W)) [(0, .ref (a 0)), (1, .int v1)] 3 []) : ∀ (n : Nat) (v1 : Int32) (v2 : Int32), f_Notes_latestYear_9 no_z k3 n v1 v2 = some res → J E g 0 0 (([n_Notes g a no_z] : List va_W)) [(0, .ref (a 0)), (1, .int v1), (2, .int v2)] 9 [] := by
  intro n
  induction n with
  | zero =>
    intro v1 v2 hf
    rw [f_Notes_latestYear_9] at hf
    cases hf
  | succ n ih =>
    intro v1 v2 hf
    rw [f_Notes_latestYear_9] at hf
    refine j_iload_n hE dX4_latestYear_9 rfl 2 rfl ?_
    refine j_bipush (v := 12) hE dX4_latestYear_10 (by decide) ?_
    refine j_icmp_ge (tgt := 33) hE hf dX4_latestYear_12 (by decide) (fun c2 hf => ?_) (fun c2 hf => ?_)
    · refine j_iinc (v := (v1 + (-1))) (lv' := [(1, .int (v1 + (-1))), (0, .ref (a 0)), (2, .int v2)]) hE dX4_latestYear_33 1 rfl rfl (by decide) rfl ?_
      refine j_goto (tgt := 3) hE dX4_latestYear_36 (by decide) ?_
      exact j_sub [1, 0] rfl (hk3 (v1 + (-1)) hf)
    · refine j_aload_n hE dX4_latestYear_15 rfl 0 rfl ?_
      refine j_iload_n hE dX4_latestYear_16 rfl 2 rfl ?_
      refine j_iload_n hE dX4_latestYear_17 rfl 1 rfl ?_
      obtain ⟨q3, hc4, hf⟩ := bind_of hf
      refine j_callV (ws' := ([n_Notes g a no_z] : List va_W)) (As := [.int v2, .int v1]) (rest := []) (st2 := [.int q3]) hE (fun l => c_Notes_at l g a no_z v2 v1 q3 hc4) cd_X4_at cv_X4_at ml_Notes_49 rfl rfl rfl (wg_Notes_0 _ _ _) ⟨⟨Nat.le_of_ble_eq_true rfl, Nat.le_of_ble_eq_true rfl⟩, ⟨Nat.zero_le _, Nat.zero_le _⟩, rfl, rfl⟩ [0] rfl rfl rfl (Nat.le_of_ble_eq_true rfl) rfl dX4_latestYear_18 ?_
      refine j_iconst (v := (-1)) hE dX4_latestYear_21 (by decide) ?_
      refine j_icmp_eq (tgt := 27) hE hf dX4_latestYear_22 (by decide) (fun c5 hf => ?_) (fun c5 hf => ?_)
      · refine j_iinc (v := (v2 + 1)) (lv' := [(2, .int (v2 + 1)), (0, .ref (a 0)), (1, .int v1)]) hE dX4_latestYear_27 2 rfl rfl (by decide) rfl ?_
        refine j_goto (tgt := 9) hE dX4_latestYear_30 (by decide) ?_
        exact j_sub [1, 2, 0] rfl (ih v1 (v2 + 1) hf)
      · refine j_iload_n hE dX4_latestYear_25 rfl 1 rfl ?_
        obtain rfl := Option.some.inj hf
        exact j_iret hE hq rfl rfl dX4_latestYear_26
set_option maxRecDepth 100000 in
theorem j_Notes_latestYear_3 (E : jT) (g : jG) (a : Nat → Nat) (no_z : jZ)  (res : Int32) (hE : jOk E g RX4 cX4_latestYear 3 (some .int) rm_Notes_latestYear) (hq : jEnd E g (some (.int res)) (([n_Notes g a no_z] : List va_W)) 0 0)  : ∀ (n : Nat) (v1 : Int32), f_Notes_latestYear_3 no_z n v1 = some res → J E g 0 0 (([n_Notes g a no_z] : List va_W)) [(0, .ref (a 0)), (1, .int v1)] 3 [] := by
  intro n
  induction n with
  | zero =>
    intro v1 hf
    rw [f_Notes_latestYear_3] at hf
    cases hf
  | succ n ih =>
    intro v1 hf
    rw [f_Notes_latestYear_3] at hf
    refine j_iload_n hE dX4_latestYear_3 rfl 1 rfl ?_
    refine j_if_lt (tgt := 39) hE hf dX4_latestYear_4 (by decide) (fun c1 hf => ?_) (fun c1 hf => ?_)
    · refine j_iconst (v := (-1)) hE dX4_latestYear_39 (by decide) ?_
      obtain rfl := Option.some.inj hf
      exact j_iret hE hq rfl rfl dX4_latestYear_40
    · refine j_iconst (v := 0) hE dX4_latestYear_7 (by decide) ?_
      refine j_istore_n (lv' := [(2, .int 0), (0, .ref (a 0)), (1, .int v1)]) hE dX4_latestYear_8 rfl (by decide) rfl ?_
      exact j_sub [1, 2, 0] rfl (j_Notes_latestYear_9 E g a no_z res hE hq (fun v1 => f_Notes_latestYear_3 no_z n v1) (fun v1 hf => ih v1 hf) FU v1 0 hf)
set_option maxRecDepth 100000 in
theorem c_Notes_latestYear (l : Launch) (g : jG) (a : Nat → Nat) (no_z : jZ)  (res : Int32) (hf : f_Notes_latestYear no_z = some res) : MC l g yX4_latestYear cX4_latestYear 3 (some .int) rm_Notes_latestYear [.ref (a 0)] (([n_Notes g a no_z] : List va_W)) (some (.int res)) (([n_Notes g a no_z] : List va_W)) 0 0 := by
  refine MC_of (own := RX4) (lv := [(0, .ref (a 0))]) (by decide) rfl (Nat.le_of_ble_eq_true rfl) rfl rfl (fun E hE hq => ?_)
  unfold f_Notes_latestYear at hf
  refine j_bipush (v := 8) hE dX4_latestYear_0 (by decide) ?_
  refine j_istore_n (lv' := [(1, .int 8), (0, .ref (a 0))]) hE dX4_latestYear_2 rfl (by decide) rfl ?_
  exact j_sub [1, 0] rfl (j_Notes_latestYear_3 E g a no_z res hE hq FU 8 hf)
def rm_Road_clear : Room := { frames := 4, cells := 0, slots := 0, locals := 87 }
def f_Road_clear_49    : Nat → jZ → jZ → jZ → jZ → Int32 → Option (jZ × jZ × jZ × jZ)
  | 0, _, _, _, _, _ => none
  | n + 1, ro_z, ki_z, ru_z, no_z, v1 => (if 12 ≤ v1 then some (ro_z, ki_z, ru_z, no_z)
    else (ix v1 12).bind fun _ => (ix v1 12).bind fun _ => (ix v1 12).bind fun _ => (ix v1 12).bind fun _ => (ix v1 12).bind fun _ => f_Road_clear_49  n (up2 (up2 (up2 (up2 (up2 ro_z 10 (Int32.toNatClampNeg v1) 0) 11 (Int32.toNatClampNeg v1) 0) 12 (Int32.toNatClampNeg v1) (-1)) 13 (Int32.toNatClampNeg v1) 0) 14 (Int32.toNatClampNeg v1) 0) ki_z ru_z no_z (v1 + 1))
def f_Road_clear (ro_z : jZ) (ki_z : jZ) (ru_z : jZ) (no_z : jZ)  : Option (jZ × jZ × jZ × jZ) := (f_Kinds_clear ki_z).bind fun q1 => (f_Notes_clear no_z).bind fun q3 => f_Road_clear_49 FU (up2 (up2 (up2 (up2 (up2 ro_z 3 0 0) 4 0 0) 5 0 5) 6 0 0) 7 0 0) q1 (up2 ru_z 0 0 0) q3 0
set_option maxRecDepth 100000 in
theorem j_Road_clear_49 (E : jT) (g : jG) (a : Nat → Nat) (ru_y : jY)  (res : jZ × jZ × jZ × jZ) (hE : jOk E g RX8 cX8_clear 2 (none : Option Jvm.ClassFile.FieldType) rm_Road_clear) (hq : jEnd E g none (([n_Road g a res.1, n_Kinds g (fun i => a (i + 8)) res.2.1, n_Rule g (fun i => a (i + 14)) res.2.2.1 ru_y, n_Notes g (fun i => a (i + 17)) res.2.2.2] : List va_W)) 0 0)  : ∀ (n : Nat) (ro_z : jZ) (ki_z : jZ) (ru_z : jZ) (no_z : jZ) (v1 : Int32), f_Road_clear_49 n ro_z ki_z ru_z no_z v1 = some res → J E g 0 0 (([n_Road g a ro_z, n_Kinds g (fun i => a (i + 8)) ki_z, n_Rule g (fun i => a (i + 14)) ru_z ru_y, n_Notes g (fun i => a (i + 17)) no_z] : List va_W)) [(0, .ref (a 0)), (1, .int v1)] 49 [] := by
  intro n
  induction n with
  | zero =>
    intro ro_z ki_z ru_z no_z v1 hf
    rw [f_Road_clear_49] at hf
    cases hf
  | succ n ih =>
    intro ro_z ki_z ru_z no_z v1 hf
    rw [f_Road_clear_49] at hf
    refine j_iload_n hE dX8_clear_49 rfl 1 rfl ?_
    refine j_bipush (v := 12) hE dX8_clear_50 (by decide) ?_
    refine j_icmp_ge (tgt := 96) hE hf dX8_clear_52 (by decide) (fun c5 hf => ?_) (fun c5 hf => ?_)
    · obtain rfl := Option.some.inj hf
      exact j_vret hE hq rfl rfl dX8_clear_96
    · refine j_aload_n hE dX8_clear_55 rfl 0 rfl ?_
      refine j_get (v := .ref (a 3)) hE lg_Road_56 0 rfl 0 (wg_Road_0 g a ro_z) rfl dX8_clear_56 ?_
      refine j_iload_n hE dX8_clear_59 rfl 1 rfl ?_
      refine j_iconst (v := 0) hE dX8_clear_60 (by decide) ?_
      refine j_zast (ws' := ([n_Road g a (up2 ro_z 10 (Int32.toNatClampNeg v1) 0), n_Kinds g (fun i => a (i + 8)) ki_z, n_Rule g (fun i => a (i + 14)) ru_z ru_y, n_Notes g (fun i => a (i + 17)) no_z] : List va_W)) hE hf 0 rfl 3 (wg_Road_3 g a ro_z) (wa_Road_3 g a ro_z (Int32.toNatClampNeg v1) 0) rfl dX8_clear_61 (fun hf => ?_)
      refine j_aload_n hE dX8_clear_62 rfl 0 rfl ?_
      refine j_get (v := .ref (a 4)) hE lg_Road_60 0 rfl 0 (wg_Road_0 g a (up2 ro_z 10 (Int32.toNatClampNeg v1) 0)) rfl dX8_clear_63 ?_
      refine j_iload_n hE dX8_clear_66 rfl 1 rfl ?_
      refine j_iconst (v := 0) hE dX8_clear_67 (by decide) ?_
      refine j_iast (ws' := ([n_Road g a (up2 (up2 ro_z 10 (Int32.toNatClampNeg v1) 0) 11 (Int32.toNatClampNeg v1) 0), n_Kinds g (fun i => a (i + 8)) ki_z, n_Rule g (fun i => a (i + 14)) ru_z ru_y, n_Notes g (fun i => a (i + 17)) no_z] : List va_W)) hE hf 0 rfl 4 (wg_Road_4 g a (up2 ro_z 10 (Int32.toNatClampNeg v1) 0)) (wa_Road_4 g a (up2 ro_z 10 (Int32.toNatClampNeg v1) 0) (Int32.toNatClampNeg v1) 0) rfl dX8_clear_68 (fun hf => ?_)
      refine j_aload_n hE dX8_clear_69 rfl 0 rfl ?_
      refine j_get (v := .ref (a 5)) hE lg_Road_63 0 rfl 0 (wg_Road_0 g a (up2 (up2 ro_z 10 (Int32.toNatClampNeg v1) 0) 11 (Int32.toNatClampNeg v1) 0)) rfl dX8_clear_70 ?_
      refine j_iload_n hE dX8_clear_73 rfl 1 rfl ?_
      refine j_iconst (v := (-1)) hE dX8_clear_74 (by decide) ?_
      refine j_iast (ws' := ([n_Road g a (up2 (up2 (up2 ro_z 10 (Int32.toNatClampNeg v1) 0) 11 (Int32.toNatClampNeg v1) 0) 12 (Int32.toNatClampNeg v1) (-1)), n_Kinds g (fun i => a (i + 8)) ki_z, n_Rule g (fun i => a (i + 14)) ru_z ru_y, n_Notes g (fun i => a (i + 17)) no_z] : List va_W)) hE hf 0 rfl 5 (wg_Road_5 g a (up2 (up2 ro_z 10 (Int32.toNatClampNeg v1) 0) 11 (Int32.toNatClampNeg v1) 0)) (wa_Road_5 g a (up2 (up2 ro_z 10 (Int32.toNatClampNeg v1) 0) 11 (Int32.toNatClampNeg v1) 0) (Int32.toNatClampNeg v1) (-1)) rfl dX8_clear_75 (fun hf => ?_)
      refine j_aload_n hE dX8_clear_76 rfl 0 rfl ?_
      refine j_get (v := .ref (a 6)) hE lg_Road_66 0 rfl 0 (wg_Road_0 g a (up2 (up2 (up2 ro_z 10 (Int32.toNatClampNeg v1) 0) 11 (Int32.toNatClampNeg v1) 0) 12 (Int32.toNatClampNeg v1) (-1))) rfl dX8_clear_77 ?_
      refine j_iload_n hE dX8_clear_80 rfl 1 rfl ?_
      refine j_iconst (v := 0) hE dX8_clear_81 (by decide) ?_
      refine j_iast (ws' := ([n_Road g a (up2 (up2 (up2 (up2 ro_z 10 (Int32.toNatClampNeg v1) 0) 11 (Int32.toNatClampNeg v1) 0) 12 (Int32.toNatClampNeg v1) (-1)) 13 (Int32.toNatClampNeg v1) 0), n_Kinds g (fun i => a (i + 8)) ki_z, n_Rule g (fun i => a (i + 14)) ru_z ru_y, n_Notes g (fun i => a (i + 17)) no_z] : List va_W)) hE hf 0 rfl 6 (wg_Road_6 g a (up2 (up2 (up2 ro_z 10 (Int32.toNatClampNeg v1) 0) 11 (Int32.toNatClampNeg v1) 0) 12 (Int32.toNatClampNeg v1) (-1))) (wa_Road_6 g a (up2 (up2 (up2 ro_z 10 (Int32.toNatClampNeg v1) 0) 11 (Int32.toNatClampNeg v1) 0) 12 (Int32.toNatClampNeg v1) (-1)) (Int32.toNatClampNeg v1) 0) rfl dX8_clear_82 (fun hf => ?_)
      refine j_aload_n hE dX8_clear_83 rfl 0 rfl ?_
      refine j_get (v := .ref (a 7)) hE lg_Road_69 0 rfl 0 (wg_Road_0 g a (up2 (up2 (up2 (up2 ro_z 10 (Int32.toNatClampNeg v1) 0) 11 (Int32.toNatClampNeg v1) 0) 12 (Int32.toNatClampNeg v1) (-1)) 13 (Int32.toNatClampNeg v1) 0)) rfl dX8_clear_84 ?_
      refine j_iload_n hE dX8_clear_87 rfl 1 rfl ?_
      refine j_iconst (v := 0) hE dX8_clear_88 (by decide) ?_
      refine j_iast (ws' := ([n_Road g a (up2 (up2 (up2 (up2 (up2 ro_z 10 (Int32.toNatClampNeg v1) 0) 11 (Int32.toNatClampNeg v1) 0) 12 (Int32.toNatClampNeg v1) (-1)) 13 (Int32.toNatClampNeg v1) 0) 14 (Int32.toNatClampNeg v1) 0), n_Kinds g (fun i => a (i + 8)) ki_z, n_Rule g (fun i => a (i + 14)) ru_z ru_y, n_Notes g (fun i => a (i + 17)) no_z] : List va_W)) hE hf 0 rfl 7 (wg_Road_7 g a (up2 (up2 (up2 (up2 ro_z 10 (Int32.toNatClampNeg v1) 0) 11 (Int32.toNatClampNeg v1) 0) 12 (Int32.toNatClampNeg v1) (-1)) 13 (Int32.toNatClampNeg v1) 0)) (wa_Road_7 g a (up2 (up2 (up2 (up2 ro_z 10 (Int32.toNatClampNeg v1) 0) 11 (Int32.toNatClampNeg v1) 0) 12 (Int32.toNatClampNeg v1) (-1)) 13 (Int32.toNatClampNeg v1) 0) (Int32.toNatClampNeg v1) 0) rfl dX8_clear_89 (fun hf => ?_)
      refine j_iinc (v := (v1 + 1)) (lv' := [(1, .int (v1 + 1)), (0, .ref (a 0))]) hE dX8_clear_90 1 rfl rfl (by decide) rfl ?_
      refine j_goto (tgt := 49) hE dX8_clear_93 (by decide) ?_
      exact j_sub [1, 0] rfl (ih (up2 (up2 (up2 (up2 (up2 ro_z 10 (Int32.toNatClampNeg v1) 0) 11 (Int32.toNatClampNeg v1) 0) 12 (Int32.toNatClampNeg v1) (-1)) 13 (Int32.toNatClampNeg v1) 0) 14 (Int32.toNatClampNeg v1) 0) ki_z ru_z no_z (v1 + 1) hf)
set_option maxRecDepth 100000 in
theorem c_Road_clear (l : Launch) (g : jG) (a : Nat → Nat) (ro_z : jZ) (ki_z : jZ) (ru_z : jZ) (ru_y : jY) (no_z : jZ)  (res : jZ × jZ × jZ × jZ) (hf : f_Road_clear ro_z ki_z ru_z no_z = some res) : MC l g yX8_clear cX8_clear 2 (none : Option Jvm.ClassFile.FieldType) rm_Road_clear [.ref (a 0)] (([n_Road g a ro_z, n_Kinds g (fun i => a (i + 8)) ki_z, n_Rule g (fun i => a (i + 14)) ru_z ru_y, n_Notes g (fun i => a (i + 17)) no_z] : List va_W)) none (([n_Road g a res.1, n_Kinds g (fun i => a (i + 8)) res.2.1, n_Rule g (fun i => a (i + 14)) res.2.2.1 ru_y, n_Notes g (fun i => a (i + 17)) res.2.2.2] : List va_W)) 0 0 := by
  refine MC_of (own := RX8) (lv := [(0, .ref (a 0))]) (by decide) rfl (Nat.le_of_ble_eq_true rfl) rfl rfl (fun E hE hq => ?_)
  unfold f_Road_clear at hf
  refine j_aload_n hE dX8_clear_0 rfl 0 rfl ?_
  refine j_get (v := .ref (a 8)) hE lg_Road_12 0 rfl 0 (wg_Road_0 g a ro_z) rfl dX8_clear_1 ?_
  obtain ⟨q1, hc2, hf⟩ := bind_of hf
  refine j_callV (ws' := ([n_Road g a ro_z, n_Kinds g (fun i => a (i + 8)) q1, n_Rule g (fun i => a (i + 14)) ru_z ru_y, n_Notes g (fun i => a (i + 17)) no_z] : List va_W)) (As := []) (rest := []) (st2 := []) hE (fun l => c_Kinds_clear l g (fun i => a (i + 8)) ki_z q1 hc2) cd_X2_clear cv_X2_clear ml_Road_72 rfl rfl rfl (wg_Kinds_0 _ _ _) ⟨⟨Nat.le_of_ble_eq_true rfl, Nat.le_of_ble_eq_true rfl⟩, ⟨Nat.zero_le _, Nat.zero_le _⟩, rfl, rfl⟩ [1] rfl rfl rfl (Nat.le_of_ble_eq_true rfl) rfl dX8_clear_4 ?_
  refine j_aload_n hE dX8_clear_7 rfl 0 rfl ?_
  refine j_get (v := .ref (a 14)) hE lg_Road_21 0 rfl 0 (wg_Road_0 g a ro_z) rfl dX8_clear_8 ?_
  refine j_iconst (v := 0) hE dX8_clear_11 (by decide) ?_
  refine j_put (v := .int 0) (ws' := ([n_Road g a ro_z, n_Kinds g (fun i => a (i + 8)) q1, n_Rule g (fun i => a (i + 14)) (up2 ru_z 0 0 0) ru_y, n_Notes g (fun i => a (i + 17)) no_z] : List va_W)) hE lp_Road_75 2 rfl 0 (wg_Rule_0 g (fun i => a (i + 14)) ru_z ru_y) rfl rfl (Nat.le_of_ble_eq_true rfl) (wp_Rule_0 g (fun i => a (i + 14)) ru_z ru_y 0) rfl dX8_clear_12 ?_
  refine j_aload_n hE dX8_clear_15 rfl 0 rfl ?_
  refine j_get (v := .ref (a 17)) hE lg_Road_28 0 rfl 0 (wg_Road_0 g a ro_z) rfl dX8_clear_16 ?_
  obtain ⟨q3, hc4, hf⟩ := bind_of hf
  refine j_callV (ws' := ([n_Road g a ro_z, n_Kinds g (fun i => a (i + 8)) q1, n_Rule g (fun i => a (i + 14)) (up2 ru_z 0 0 0) ru_y, n_Notes g (fun i => a (i + 17)) q3] : List va_W)) (As := []) (rest := []) (st2 := []) hE (fun l => c_Notes_clear l g (fun i => a (i + 17)) no_z q3 hc4) cd_X4_clear cv_X4_clear ml_Road_78 rfl rfl rfl (wg_Notes_0 _ _ _) ⟨⟨Nat.le_of_ble_eq_true rfl, Nat.le_of_ble_eq_true rfl⟩, ⟨Nat.zero_le _, Nat.zero_le _⟩, rfl, rfl⟩ [3] rfl rfl rfl (Nat.le_of_ble_eq_true rfl) rfl dX8_clear_19 ?_
  refine j_aload_n hE dX8_clear_22 rfl 0 rfl ?_
  refine j_iconst (v := 0) hE dX8_clear_23 (by decide) ?_
  refine j_put (v := .int 0) (ws' := ([n_Road g a (up2 ro_z 3 0 0), n_Kinds g (fun i => a (i + 8)) q1, n_Rule g (fun i => a (i + 14)) (up2 ru_z 0 0 0) ru_y, n_Notes g (fun i => a (i + 17)) q3] : List va_W)) hE lp_Road_32 0 rfl 0 (wg_Road_0 g a ro_z) rfl rfl (Nat.le_of_ble_eq_true rfl) (wp_Road_3 g a ro_z 0) rfl dX8_clear_24 ?_
  refine j_aload_n hE dX8_clear_27 rfl 0 rfl ?_
  refine j_iconst (v := 0) hE dX8_clear_28 (by decide) ?_
  refine j_put (v := .int 0) (ws' := ([n_Road g a (up2 (up2 ro_z 3 0 0) 4 0 0), n_Kinds g (fun i => a (i + 8)) q1, n_Rule g (fun i => a (i + 14)) (up2 ru_z 0 0 0) ru_y, n_Notes g (fun i => a (i + 17)) q3] : List va_W)) hE lp_Road_36 0 rfl 0 (wg_Road_0 g a (up2 ro_z 3 0 0)) (by decide +kernel) (by decide +kernel) (Nat.le_of_ble_eq_true rfl) (wp_Road_4 g a (up2 ro_z 3 0 0) 0) rfl dX8_clear_29 ?_
  refine j_aload_n hE dX8_clear_32 rfl 0 rfl ?_
  refine j_iconst (v := 5) hE dX8_clear_33 (by decide) ?_
  refine j_put (v := .int 5) (ws' := ([n_Road g a (up2 (up2 (up2 ro_z 3 0 0) 4 0 0) 5 0 5), n_Kinds g (fun i => a (i + 8)) q1, n_Rule g (fun i => a (i + 14)) (up2 ru_z 0 0 0) ru_y, n_Notes g (fun i => a (i + 17)) q3] : List va_W)) hE lp_Road_40 0 rfl 0 (wg_Road_0 g a (up2 (up2 ro_z 3 0 0) 4 0 0)) rfl rfl (Nat.le_of_ble_eq_true rfl) (wp_Road_5 g a (up2 (up2 ro_z 3 0 0) 4 0 0) 5) rfl dX8_clear_34 ?_
  refine j_aload_n hE dX8_clear_37 rfl 0 rfl ?_
  refine j_iconst (v := 0) hE dX8_clear_38 (by decide) ?_
  refine j_put (v := .int 0) (ws' := ([n_Road g a (up2 (up2 (up2 (up2 ro_z 3 0 0) 4 0 0) 5 0 5) 6 0 0), n_Kinds g (fun i => a (i + 8)) q1, n_Rule g (fun i => a (i + 14)) (up2 ru_z 0 0 0) ru_y, n_Notes g (fun i => a (i + 17)) q3] : List va_W)) hE lp_Road_43 0 rfl 0 (wg_Road_0 g a (up2 (up2 (up2 ro_z 3 0 0) 4 0 0) 5 0 5)) rfl rfl (Nat.le_of_ble_eq_true rfl) (wp_Road_6 g a (up2 (up2 (up2 ro_z 3 0 0) 4 0 0) 5 0 5) 0) rfl dX8_clear_39 ?_
  refine j_aload_n hE dX8_clear_42 rfl 0 rfl ?_
  refine j_iconst (v := 0) hE dX8_clear_43 (by decide) ?_
  refine j_put (v := .int 0) (ws' := ([n_Road g a (up2 (up2 (up2 (up2 (up2 ro_z 3 0 0) 4 0 0) 5 0 5) 6 0 0) 7 0 0), n_Kinds g (fun i => a (i + 8)) q1, n_Rule g (fun i => a (i + 14)) (up2 ru_z 0 0 0) ru_y, n_Notes g (fun i => a (i + 17)) q3] : List va_W)) hE lp_Road_46 0 rfl 0 (wg_Road_0 g a (up2 (up2 (up2 (up2 ro_z 3 0 0) 4 0 0) 5 0 5) 6 0 0)) rfl rfl (Nat.le_of_ble_eq_true rfl) (wp_Road_7 g a (up2 (up2 (up2 (up2 ro_z 3 0 0) 4 0 0) 5 0 5) 6 0 0) 0) rfl dX8_clear_44 ?_
  refine j_iconst (v := 0) hE dX8_clear_47 (by decide) ?_
  refine j_istore_n (lv' := [(1, .int 0), (0, .ref (a 0))]) hE dX8_clear_48 rfl (by decide) rfl ?_
  exact j_sub [1, 0] rfl (j_Road_clear_49 E g a ru_y res hE hq FU (up2 (up2 (up2 (up2 (up2 ro_z 3 0 0) 4 0 0) 5 0 5) 6 0 0) 7 0 0) q1 (up2 ru_z 0 0 0) q3 0 hf)
def rm_Road_has : Room := { frames := 0, cells := 0, slots := 0, locals := 0 }
def f_Road_has (ro_z : jZ) (x1 : Int32) : Option (Int32) := (if x1 < 0 then some 0
    else (if (ro_z 7 0) ≤ x1 then some 0
    else (if 12 ≤ x1 then some 0
    else some 1)))
set_option maxRecDepth 100000 in
theorem c_Road_has (l : Launch) (g : jG) (a : Nat → Nat) (ro_z : jZ) (ki_z : jZ) (ru_z : jZ) (ru_y : jY) (no_z : jZ) (x1 : Int32) (res : Int32) (hf : f_Road_has ro_z x1 = some res) : MC l g yX8_has cX8_has 2 (some .boolean) rm_Road_has [.ref (a 0), .int x1] (([n_Road g a ro_z, n_Kinds g (fun i => a (i + 8)) ki_z, n_Rule g (fun i => a (i + 14)) ru_z ru_y, n_Notes g (fun i => a (i + 17)) no_z] : List va_W)) (some (.int res)) (([n_Road g a ro_z, n_Kinds g (fun i => a (i + 8)) ki_z, n_Rule g (fun i => a (i + 14)) ru_z ru_y, n_Notes g (fun i => a (i + 17)) no_z] : List va_W)) 0 0 := by
  refine MC_of (own := RX8) (lv := [(0, .ref (a 0)), (1, .int x1)]) (by decide) rfl (Nat.le_of_ble_eq_true rfl) rfl rfl (fun E hE hq => ?_)
  unfold f_Road_has at hf
  refine j_iload_n hE dX8_has_0 rfl 1 rfl ?_
  refine j_if_lt (tgt := 22) hE hf dX8_has_1 (by decide) (fun c1 hf => ?_) (fun c1 hf => ?_)
  · refine j_iconst (v := 0) hE dX8_has_22 (by decide) ?_
    obtain rfl := Option.some.inj hf
    exact j_zret_c hE (Or.inl rfl) hq rfl rfl dX8_has_23
  · refine j_iload_n hE dX8_has_4 rfl 1 rfl ?_
    refine j_aload_n hE dX8_has_5 rfl 0 rfl ?_
    refine j_get (v := .int (ro_z 7 0)) hE lg_Road_46 0 rfl 0 (wg_Road_0 g a ro_z) rfl dX8_has_6 ?_
    refine j_icmp_ge (tgt := 22) hE hf dX8_has_9 (by decide) (fun c2 hf => ?_) (fun c2 hf => ?_)
    · refine j_iconst (v := 0) hE dX8_has_22 (by decide) ?_
      obtain rfl := Option.some.inj hf
      exact j_zret_c hE (Or.inl rfl) hq rfl rfl dX8_has_23
    · refine j_iload_n hE dX8_has_12 rfl 1 rfl ?_
      refine j_bipush (v := 12) hE dX8_has_13 (by decide) ?_
      refine j_icmp_ge (tgt := 22) hE hf dX8_has_15 (by decide) (fun c3 hf => ?_) (fun c3 hf => ?_)
      · refine j_iconst (v := 0) hE dX8_has_22 (by decide) ?_
        obtain rfl := Option.some.inj hf
        exact j_zret_c hE (Or.inl rfl) hq rfl rfl dX8_has_23
      · refine j_iconst (v := 1) hE dX8_has_18 (by decide) ?_
        refine j_goto (tgt := 23) hE dX8_has_19 (by decide) ?_
        obtain rfl := Option.some.inj hf
        exact j_zret_c hE (Or.inr rfl) hq rfl rfl dX8_has_23
def rm_Road_hasNoBoxBy : Room := { frames := 1, cells := 0, slots := 0, locals := 21 }
def f_Road_hasNoBoxBy (ro_z : jZ) (x1 : Int32) (x2 : Int32) : Option (Int32) := (f_Road_has ro_z x1).bind fun q1 => (if q1 = 0 then some 0
    else (ix x1 12).bind fun _ => (if (ro_z 11 (Int32.toNatClampNeg x1)) = 0 then some 1
    else (ix x1 12).bind fun _ => (if (ro_z 11 (Int32.toNatClampNeg x1)) ≤ x2 then some 0
    else some 1)))
set_option maxRecDepth 100000 in
theorem c_Road_hasNoBoxBy (l : Launch) (g : jG) (a : Nat → Nat) (ro_z : jZ) (ki_z : jZ) (ru_z : jZ) (ru_y : jY) (no_z : jZ) (x1 : Int32) (x2 : Int32) (res : Int32) (hf : f_Road_hasNoBoxBy ro_z x1 x2 = some res) : MC l g yX8_hasNoBoxBy cX8_hasNoBoxBy 3 (some .boolean) rm_Road_hasNoBoxBy [.ref (a 0), .int x1, .int x2] (([n_Road g a ro_z, n_Kinds g (fun i => a (i + 8)) ki_z, n_Rule g (fun i => a (i + 14)) ru_z ru_y, n_Notes g (fun i => a (i + 17)) no_z] : List va_W)) (some (.int res)) (([n_Road g a ro_z, n_Kinds g (fun i => a (i + 8)) ki_z, n_Rule g (fun i => a (i + 14)) ru_z ru_y, n_Notes g (fun i => a (i + 17)) no_z] : List va_W)) 0 0 := by
  refine MC_of (own := RX8) (lv := [(0, .ref (a 0)), (1, .int x1), (2, .int x2)]) (by decide) rfl (Nat.le_of_ble_eq_true rfl) rfl rfl (fun E hE hq => ?_)
  unfold f_Road_hasNoBoxBy at hf
  refine j_aload_n hE dX8_hasNoBoxBy_0 rfl 0 rfl ?_
  refine j_iload_n hE dX8_hasNoBoxBy_1 rfl 1 rfl ?_
  obtain ⟨q1, hc2, hf⟩ := bind_of hf
  refine j_callV (ws' := ([n_Road g a ro_z, n_Kinds g (fun i => a (i + 8)) ki_z, n_Rule g (fun i => a (i + 14)) ru_z ru_y, n_Notes g (fun i => a (i + 17)) no_z] : List va_W)) (As := [.int x1]) (rest := []) (st2 := [.int q1]) hE (fun l => c_Road_has l g a ro_z ki_z ru_z ru_y no_z x1 q1 hc2) cd_X8_has cv_X8_has ml_Road_79 rfl rfl rfl (wg_Road_0 _ _ _) ⟨⟨Nat.le_of_ble_eq_true rfl, Nat.le_of_ble_eq_true rfl⟩, ⟨Nat.zero_le _, Nat.zero_le _⟩, rfl, rfl⟩ [0, 1, 2, 3] rfl rfl rfl (Nat.le_of_ble_eq_true rfl) rfl dX8_hasNoBoxBy_2 ?_
  refine j_if_eq (tgt := 31) hE hf dX8_hasNoBoxBy_5 (by decide) (fun c3 hf => ?_) (fun c3 hf => ?_)
  · refine j_iconst (v := 0) hE dX8_hasNoBoxBy_31 (by decide) ?_
    obtain rfl := Option.some.inj hf
    exact j_zret_c hE (Or.inl rfl) hq rfl rfl dX8_hasNoBoxBy_32
  · refine j_aload_n hE dX8_hasNoBoxBy_8 rfl 0 rfl ?_
    refine j_get (v := .ref (a 4)) hE lg_Road_60 0 rfl 0 (wg_Road_0 g a ro_z) rfl dX8_hasNoBoxBy_9 ?_
    refine j_iload_n hE dX8_hasNoBoxBy_12 rfl 1 rfl ?_
    refine j_iald hE hf 0 rfl 4 (wg_Road_4 g a ro_z) dX8_hasNoBoxBy_13 (fun hf => ?_)
    refine j_if_eq (tgt := 27) hE hf dX8_hasNoBoxBy_14 (by decide) (fun c5 hf => ?_) (fun c5 hf => ?_)
    · refine j_iconst (v := 1) hE dX8_hasNoBoxBy_27 (by decide) ?_
      refine j_goto (tgt := 32) hE dX8_hasNoBoxBy_28 (by decide) ?_
      obtain rfl := Option.some.inj hf
      exact j_zret_c hE (Or.inr rfl) hq rfl rfl dX8_hasNoBoxBy_32
    · refine j_aload_n hE dX8_hasNoBoxBy_17 rfl 0 rfl ?_
      refine j_get (v := .ref (a 4)) hE lg_Road_60 0 rfl 0 (wg_Road_0 g a ro_z) rfl dX8_hasNoBoxBy_18 ?_
      refine j_iload_n hE dX8_hasNoBoxBy_21 rfl 1 rfl ?_
      refine j_iald hE hf 0 rfl 4 (wg_Road_4 g a ro_z) dX8_hasNoBoxBy_22 (fun hf => ?_)
      refine j_iload_n hE dX8_hasNoBoxBy_23 rfl 2 rfl ?_
      refine j_icmp_le (tgt := 31) hE hf dX8_hasNoBoxBy_24 (by decide) (fun c7 hf => ?_) (fun c7 hf => ?_)
      · refine j_iconst (v := 0) hE dX8_hasNoBoxBy_31 (by decide) ?_
        obtain rfl := Option.some.inj hf
        exact j_zret_c hE (Or.inl rfl) hq rfl rfl dX8_hasNoBoxBy_32
      · refine j_iconst (v := 1) hE dX8_hasNoBoxBy_27 (by decide) ?_
        refine j_goto (tgt := 32) hE dX8_hasNoBoxBy_28 (by decide) ?_
        obtain rfl := Option.some.inj hf
        exact j_zret_c hE (Or.inr rfl) hq rfl rfl dX8_hasNoBoxBy_32
def rm_Road_takenIn : Room := { frames := 4, cells := 0, slots := 0, locals := 103 }
def f_Road_takenIn_80 (ro_z : jZ) (no_z : jZ) (x1 : Int32) (k4 : jZ → jY → Int32 → Int32 → Option (jZ × jY × Int32)) (ru_z : jZ) (ru_y : jY) (v2 : Int32) (v3 : Int32) (v4 : Int32) (v5 : Int32) (v6 : Int32) (s0 : Int32) : Option (jZ × jY × Int32) := (if s0 = 0 then k4 ru_z ru_y v2 (v3 + 1)
    else (ix v3 12).bind fun _ => (f_Rule_takes ru_z ru_y v4 v5 v6 (ro_z 9 (Int32.toNatClampNeg v3))).bind fun q16 => (if q16.2.2 = 0 then k4 q16.1 q16.2.1 v2 (v3 + 1)
    else k4 q16.1 q16.2.1 (v2 ||| (1 <<< (v3 &&& 31))) (v3 + 1)))
def f_Road_takenIn_4 (ro_z : jZ) (no_z : jZ) (x1 : Int32)  : Nat → jZ → jY → Int32 → Int32 → Option (jZ × jY × Int32)
  | 0, _, _, _, _ => none
  | n + 1, ru_z, ru_y, v2, v3 => (if 12 ≤ v3 then some (ru_z, ru_y, v2)
    else (f_Road_has ro_z v3).bind fun q2 => (if q2 = 0 then some (ru_z, ru_y, v2)
    else (f_Notes_at no_z v3 (x1 - 3)).bind fun q5 => (f_Notes_at no_z v3 (x1 - 2)).bind fun q7 => (f_Notes_at no_z v3 (x1 - 1)).bind fun q9 => (if q5 = (-1) then f_Road_takenIn_80 ro_z no_z x1 (fun ru_z ru_y v2 v3 => f_Road_takenIn_4 ro_z no_z x1 n ru_z ru_y v2 v3) ru_z ru_y v2 v3 q5 q7 q9 0
    else (if q7 = (-1) then f_Road_takenIn_80 ro_z no_z x1 (fun ru_z ru_y v2 v3 => f_Road_takenIn_4 ro_z no_z x1 n ru_z ru_y v2 v3) ru_z ru_y v2 v3 q5 q7 q9 0
    else (if q9 = (-1) then f_Road_takenIn_80 ro_z no_z x1 (fun ru_z ru_y v2 v3 => f_Road_takenIn_4 ro_z no_z x1 n ru_z ru_y v2 v3) ru_z ru_y v2 v3 q5 q7 q9 0
    else f_Road_takenIn_80 ro_z no_z x1 (fun ru_z ru_y v2 v3 => f_Road_takenIn_4 ro_z no_z x1 n ru_z ru_y v2 v3) ru_z ru_y v2 v3 q5 q7 q9 1)))))
def f_Road_takenIn (ro_z : jZ) (ru_z : jZ) (ru_y : jY) (no_z : jZ) (x1 : Int32) : Option (jZ × jY × Int32) := f_Road_takenIn_4 ro_z no_z x1 FU ru_z ru_y 0 0
set_option maxRecDepth 100000 in
theorem j_Road_takenIn_80 (E : jT) (g : jG) (a : Nat → Nat) (ro_z : jZ) (ki_z : jZ) (no_z : jZ) (x1 : Int32) (res : jZ × jY × Int32) (hE : jOk E g RX8 cX8_takenIn 8 (some .int) rm_Road_takenIn) (hq : jEnd E g (some (.int res.2.2)) (([n_Road g a ro_z, n_Kinds g (fun i => a (i + 8)) ki_z, n_Rule g (fun i => a (i + 14)) res.1 res.2.1, n_Notes g (fun i => a (i + 17)) no_z] : List va_W)) 0 0) (k4 : jZ → jY → Int32 → Int32 → Option (jZ × jY × Int32)) (hk4 : ∀ (ru_z : jZ) (ru_y : jY) (v2 : Int32) (v3 : Int32), k4 ru_z ru_y v2 v3 = some res → J E g 0 0 (([n_Road g a ro_z, n_Kinds g (fun i => a (i + 8)) ki_z, n_Rule g (fun i => a (i + 14)) ru_z ru_y, n_Notes g (fun i => a (i + 17)) no_z] : List va_W)) [(0, .ref (a 0)), (1, .int x1), (2, .int v2), (3, .int v3)] 4 []) (ru_z : jZ) (ru_y : jY) (v2 : Int32) (v3 : Int32) (v4 : Int32) (v5 : Int32) (v6 : Int32) (s0 : Int32) (hf : f_Road_takenIn_80 ro_z no_z x1 k4 ru_z ru_y v2 v3 v4 v5 v6 s0 = some res) : J E g 0 0 (([n_Road g a ro_z, n_Kinds g (fun i => a (i + 8)) ki_z, n_Rule g (fun i => a (i + 14)) ru_z ru_y, n_Notes g (fun i => a (i + 17)) no_z] : List va_W)) [(0, .ref (a 0)), (1, .int x1), (2, .int v2), (3, .int v3), (4, .int v4), (5, .int v5), (6, .int v6)] 80 [.int s0] := by
  unfold f_Road_takenIn_80 at hf
  refine j_istore (lv' := [(7, .int s0), (0, .ref (a 0)), (1, .int x1), (2, .int v2), (3, .int v3), (4, .int v4), (5, .int v5), (6, .int v6)]) hE dX8_takenIn_80 (by decide) rfl ?_
  refine j_iload hE dX8_takenIn_82 0 rfl ?_
  refine j_if_eq (tgt := 115) hE hf dX8_takenIn_84 (by decide) (fun c14 hf => ?_) (fun c14 hf => ?_)
  · refine j_iinc (v := (v3 + 1)) (lv' := [(3, .int (v3 + 1)), (7, .int s0), (0, .ref (a 0)), (1, .int x1), (2, .int v2), (4, .int v4), (5, .int v5), (6, .int v6)]) hE dX8_takenIn_115 4 rfl rfl (by decide) rfl ?_
    refine j_goto (tgt := 4) hE dX8_takenIn_118 (by decide) ?_
    exact j_sub [2, 3, 4, 0] rfl (hk4 ru_z ru_y v2 (v3 + 1) hf)
  · refine j_aload_n hE dX8_takenIn_87 rfl 1 rfl ?_
    refine j_get (v := .ref (a 14)) hE lg_Road_21 0 rfl 0 (wg_Road_0 g a ro_z) rfl dX8_takenIn_88 ?_
    refine j_iload hE dX8_takenIn_91 5 rfl ?_
    refine j_iload hE dX8_takenIn_93 6 rfl ?_
    refine j_iload hE dX8_takenIn_95 7 rfl ?_
    refine j_aload_n hE dX8_takenIn_97 rfl 1 rfl ?_
    refine j_get (v := .ref (a 2)) hE lg_Road_53 0 rfl 0 (wg_Road_0 g a ro_z) rfl dX8_takenIn_98 ?_
    refine j_iload_n hE dX8_takenIn_101 rfl 4 rfl ?_
    refine j_iald hE hf 0 rfl 2 (wg_Road_2 g a ro_z) dX8_takenIn_102 (fun hf => ?_)
    obtain ⟨q16, hc17, hf⟩ := bind_of hf
    refine j_callV (ws' := ([n_Road g a ro_z, n_Kinds g (fun i => a (i + 8)) ki_z, n_Rule g (fun i => a (i + 14)) q16.1 q16.2.1, n_Notes g (fun i => a (i + 17)) no_z] : List va_W)) (As := [.int v4, .int v5, .int v6, .int (ro_z 9 (Int32.toNatClampNeg v3))]) (rest := []) (st2 := [.int q16.2.2]) hE (fun l => c_Rule_takes l g (fun i => a (i + 14)) ru_z ru_y v4 v5 v6 (ro_z 9 (Int32.toNatClampNeg v3)) q16 hc17) cd_X9_takes cv_X9_takes ml_Road_87 rfl rfl rfl (wg_Rule_0 _ _ _ _) ⟨⟨Nat.le_of_ble_eq_true rfl, Nat.le_of_ble_eq_true rfl⟩, ⟨Nat.zero_le _, Nat.zero_le _⟩, rfl, rfl⟩ [2] rfl rfl rfl (Nat.le_of_ble_eq_true rfl) rfl dX8_takenIn_103 ?_
    refine j_if_eq (tgt := 115) hE hf dX8_takenIn_106 (by decide) (fun c18 hf => ?_) (fun c18 hf => ?_)
    · refine j_iinc (v := (v3 + 1)) (lv' := [(3, .int (v3 + 1)), (7, .int s0), (0, .ref (a 0)), (1, .int x1), (2, .int v2), (4, .int v4), (5, .int v5), (6, .int v6)]) hE dX8_takenIn_115 4 rfl rfl (by decide) rfl ?_
      refine j_goto (tgt := 4) hE dX8_takenIn_118 (by decide) ?_
      exact j_sub [2, 3, 4, 0] rfl (hk4 q16.1 q16.2.1 v2 (v3 + 1) hf)
    · refine j_iload_n hE dX8_takenIn_109 rfl 3 rfl ?_
      refine j_iconst (v := 1) hE dX8_takenIn_110 (by decide) ?_
      refine j_iload_n hE dX8_takenIn_111 rfl 4 rfl ?_
      refine j_ishl hE dX8_takenIn_112 ?_
      refine j_ior hE dX8_takenIn_113 ?_
      refine j_istore_n (lv' := [(2, .int (v2 ||| (1 <<< (v3 &&& 31)))), (7, .int s0), (0, .ref (a 0)), (1, .int x1), (3, .int v3), (4, .int v4), (5, .int v5), (6, .int v6)]) hE dX8_takenIn_114 rfl (by decide) rfl ?_
      refine j_iinc (v := (v3 + 1)) (lv' := [(3, .int (v3 + 1)), (2, .int (v2 ||| (1 <<< (v3 &&& 31)))), (7, .int s0), (0, .ref (a 0)), (1, .int x1), (4, .int v4), (5, .int v5), (6, .int v6)]) hE dX8_takenIn_115 4 rfl rfl (by decide) rfl ?_
      refine j_goto (tgt := 4) hE dX8_takenIn_118 (by decide) ?_
      exact j_sub [3, 4, 1, 0] rfl (hk4 q16.1 q16.2.1 (v2 ||| (1 <<< (v3 &&& 31))) (v3 + 1) hf)
set_option maxRecDepth 100000 in
theorem j_Road_takenIn_4 (E : jT) (g : jG) (a : Nat → Nat) (ro_z : jZ) (ki_z : jZ) (no_z : jZ) (x1 : Int32) (res : jZ × jY × Int32) (hE : jOk E g RX8 cX8_takenIn 8 (some .int) rm_Road_takenIn) (hq : jEnd E g (some (.int res.2.2)) (([n_Road g a ro_z, n_Kinds g (fun i => a (i + 8)) ki_z, n_Rule g (fun i => a (i + 14)) res.1 res.2.1, n_Notes g (fun i => a (i + 17)) no_z] : List va_W)) 0 0)  : ∀ (n : Nat) (ru_z : jZ) (ru_y : jY) (v2 : Int32) (v3 : Int32), f_Road_takenIn_4 ro_z no_z x1 n ru_z ru_y v2 v3 = some res → J E g 0 0 (([n_Road g a ro_z, n_Kinds g (fun i => a (i + 8)) ki_z, n_Rule g (fun i => a (i + 14)) ru_z ru_y, n_Notes g (fun i => a (i + 17)) no_z] : List va_W)) [(0, .ref (a 0)), (1, .int x1), (2, .int v2), (3, .int v3)] 4 [] := by
  intro n
  induction n with
  | zero =>
    intro ru_z ru_y v2 v3 hf
    rw [f_Road_takenIn_4] at hf
    cases hf
  | succ n ih =>
    intro ru_z ru_y v2 v3 hf
    rw [f_Road_takenIn_4] at hf
    refine j_iload_n hE dX8_takenIn_4 rfl 3 rfl ?_
    refine j_bipush (v := 12) hE dX8_takenIn_5 (by decide) ?_
    refine j_icmp_ge (tgt := 121) hE hf dX8_takenIn_7 (by decide) (fun c1 hf => ?_) (fun c1 hf => ?_)
    · refine j_iload_n hE dX8_takenIn_121 rfl 2 rfl ?_
      obtain rfl := Option.some.inj hf
      exact j_iret hE hq rfl rfl dX8_takenIn_122
    · refine j_aload_n hE dX8_takenIn_10 rfl 0 rfl ?_
      refine j_iload_n hE dX8_takenIn_11 rfl 3 rfl ?_
      obtain ⟨q2, hc3, hf⟩ := bind_of hf
      refine j_callV (ws' := ([n_Road g a ro_z, n_Kinds g (fun i => a (i + 8)) ki_z, n_Rule g (fun i => a (i + 14)) ru_z ru_y, n_Notes g (fun i => a (i + 17)) no_z] : List va_W)) (As := [.int v3]) (rest := []) (st2 := [.int q2]) hE (fun l => c_Road_has l g a ro_z ki_z ru_z ru_y no_z v3 q2 hc3) cd_X8_has cv_X8_has ml_Road_79 rfl rfl rfl (wg_Road_0 _ _ _) ⟨⟨Nat.le_of_ble_eq_true rfl, Nat.le_of_ble_eq_true rfl⟩, ⟨Nat.zero_le _, Nat.zero_le _⟩, rfl, rfl⟩ [0, 1, 2, 3] rfl rfl rfl (Nat.le_of_ble_eq_true rfl) rfl dX8_takenIn_12 ?_
      refine j_if_eq (tgt := 121) hE hf dX8_takenIn_15 (by decide) (fun c4 hf => ?_) (fun c4 hf => ?_)
      · refine j_iload_n hE dX8_takenIn_121 rfl 2 rfl ?_
        obtain rfl := Option.some.inj hf
        exact j_iret hE hq rfl rfl dX8_takenIn_122
      · refine j_aload_n hE dX8_takenIn_18 rfl 0 rfl ?_
        refine j_get (v := .ref (a 17)) hE lg_Road_28 0 rfl 0 (wg_Road_0 g a ro_z) rfl dX8_takenIn_19 ?_
        refine j_iload_n hE dX8_takenIn_22 rfl 3 rfl ?_
        refine j_iload_n hE dX8_takenIn_23 rfl 1 rfl ?_
        refine j_iconst (v := 3) hE dX8_takenIn_24 (by decide) ?_
        refine j_isub hE dX8_takenIn_25 ?_
        obtain ⟨q5, hc6, hf⟩ := bind_of hf
        refine j_callV (ws' := ([n_Road g a ro_z, n_Kinds g (fun i => a (i + 8)) ki_z, n_Rule g (fun i => a (i + 14)) ru_z ru_y, n_Notes g (fun i => a (i + 17)) no_z] : List va_W)) (As := [.int v3, .int (x1 - 3)]) (rest := []) (st2 := [.int q5]) hE (fun l => c_Notes_at l g (fun i => a (i + 17)) no_z v3 (x1 - 3) q5 hc6) cd_X4_at cv_X4_at ml_Road_83 rfl rfl rfl (wg_Notes_0 _ _ _) ⟨⟨Nat.le_of_ble_eq_true rfl, Nat.le_of_ble_eq_true rfl⟩, ⟨Nat.zero_le _, Nat.zero_le _⟩, rfl, rfl⟩ [3] rfl rfl rfl (Nat.le_of_ble_eq_true rfl) rfl dX8_takenIn_26 ?_
        refine j_istore (lv' := [(4, .int q5), (0, .ref (a 0)), (1, .int x1), (2, .int v2), (3, .int v3)]) hE dX8_takenIn_29 (by decide) rfl ?_
        refine j_aload_n hE dX8_takenIn_31 rfl 1 rfl ?_
        refine j_get (v := .ref (a 17)) hE lg_Road_28 0 rfl 0 (wg_Road_0 g a ro_z) rfl dX8_takenIn_32 ?_
        refine j_iload_n hE dX8_takenIn_35 rfl 4 rfl ?_
        refine j_iload_n hE dX8_takenIn_36 rfl 2 rfl ?_
        refine j_iconst (v := 2) hE dX8_takenIn_37 (by decide) ?_
        refine j_isub hE dX8_takenIn_38 ?_
        obtain ⟨q7, hc8, hf⟩ := bind_of hf
        refine j_callV (ws' := ([n_Road g a ro_z, n_Kinds g (fun i => a (i + 8)) ki_z, n_Rule g (fun i => a (i + 14)) ru_z ru_y, n_Notes g (fun i => a (i + 17)) no_z] : List va_W)) (As := [.int v3, .int (x1 - 2)]) (rest := []) (st2 := [.int q7]) hE (fun l => c_Notes_at l g (fun i => a (i + 17)) no_z v3 (x1 - 2) q7 hc8) cd_X4_at cv_X4_at ml_Road_83 rfl rfl rfl (wg_Notes_0 _ _ _) ⟨⟨Nat.le_of_ble_eq_true rfl, Nat.le_of_ble_eq_true rfl⟩, ⟨Nat.zero_le _, Nat.zero_le _⟩, rfl, rfl⟩ [3] rfl rfl rfl (Nat.le_of_ble_eq_true rfl) rfl dX8_takenIn_39 ?_
        refine j_istore (lv' := [(5, .int q7), (4, .int q5), (0, .ref (a 0)), (1, .int x1), (2, .int v2), (3, .int v3)]) hE dX8_takenIn_42 (by decide) rfl ?_
        refine j_aload_n hE dX8_takenIn_44 rfl 2 rfl ?_
        refine j_get (v := .ref (a 17)) hE lg_Road_28 0 rfl 0 (wg_Road_0 g a ro_z) rfl dX8_takenIn_45 ?_
        refine j_iload_n hE dX8_takenIn_48 rfl 5 rfl ?_
        refine j_iload_n hE dX8_takenIn_49 rfl 3 rfl ?_
        refine j_iconst (v := 1) hE dX8_takenIn_50 (by decide) ?_
        refine j_isub hE dX8_takenIn_51 ?_
        obtain ⟨q9, hc10, hf⟩ := bind_of hf
        refine j_callV (ws' := ([n_Road g a ro_z, n_Kinds g (fun i => a (i + 8)) ki_z, n_Rule g (fun i => a (i + 14)) ru_z ru_y, n_Notes g (fun i => a (i + 17)) no_z] : List va_W)) (As := [.int v3, .int (x1 - 1)]) (rest := []) (st2 := [.int q9]) hE (fun l => c_Notes_at l g (fun i => a (i + 17)) no_z v3 (x1 - 1) q9 hc10) cd_X4_at cv_X4_at ml_Road_83 rfl rfl rfl (wg_Notes_0 _ _ _) ⟨⟨Nat.le_of_ble_eq_true rfl, Nat.le_of_ble_eq_true rfl⟩, ⟨Nat.zero_le _, Nat.zero_le _⟩, rfl, rfl⟩ [3] rfl rfl rfl (Nat.le_of_ble_eq_true rfl) rfl dX8_takenIn_52 ?_
        refine j_istore (lv' := [(6, .int q9), (5, .int q7), (4, .int q5), (0, .ref (a 0)), (1, .int x1), (2, .int v2), (3, .int v3)]) hE dX8_takenIn_55 (by decide) rfl ?_
        refine j_iload hE dX8_takenIn_57 2 rfl ?_
        refine j_iconst (v := (-1)) hE dX8_takenIn_59 (by decide) ?_
        refine j_icmp_eq (tgt := 79) hE hf dX8_takenIn_60 (by decide) (fun c11 hf => ?_) (fun c11 hf => ?_)
        · refine j_iconst (v := 0) hE dX8_takenIn_79 (by decide) ?_
          exact j_sub [3, 4, 5, 6, 2, 1, 0] rfl (j_Road_takenIn_80 E g a ro_z ki_z no_z x1 res hE hq (fun ru_z ru_y v2 v3 => f_Road_takenIn_4 ro_z no_z x1 n ru_z ru_y v2 v3) (fun ru_z ru_y v2 v3 hf => ih ru_z ru_y v2 v3 hf) ru_z ru_y v2 v3 q5 q7 q9 0 hf)
        · refine j_iload hE dX8_takenIn_63 1 rfl ?_
          refine j_iconst (v := (-1)) hE dX8_takenIn_65 (by decide) ?_
          refine j_icmp_eq (tgt := 79) hE hf dX8_takenIn_66 (by decide) (fun c12 hf => ?_) (fun c12 hf => ?_)
          · refine j_iconst (v := 0) hE dX8_takenIn_79 (by decide) ?_
            exact j_sub [3, 4, 5, 6, 2, 1, 0] rfl (j_Road_takenIn_80 E g a ro_z ki_z no_z x1 res hE hq (fun ru_z ru_y v2 v3 => f_Road_takenIn_4 ro_z no_z x1 n ru_z ru_y v2 v3) (fun ru_z ru_y v2 v3 hf => ih ru_z ru_y v2 v3 hf) ru_z ru_y v2 v3 q5 q7 q9 0 hf)
          · refine j_iload hE dX8_takenIn_69 0 rfl ?_
            refine j_iconst (v := (-1)) hE dX8_takenIn_71 (by decide) ?_
            refine j_icmp_eq (tgt := 79) hE hf dX8_takenIn_72 (by decide) (fun c13 hf => ?_) (fun c13 hf => ?_)
            · refine j_iconst (v := 0) hE dX8_takenIn_79 (by decide) ?_
              exact j_sub [3, 4, 5, 6, 2, 1, 0] rfl (j_Road_takenIn_80 E g a ro_z ki_z no_z x1 res hE hq (fun ru_z ru_y v2 v3 => f_Road_takenIn_4 ro_z no_z x1 n ru_z ru_y v2 v3) (fun ru_z ru_y v2 v3 hf => ih ru_z ru_y v2 v3 hf) ru_z ru_y v2 v3 q5 q7 q9 0 hf)
            · refine j_iconst (v := 1) hE dX8_takenIn_75 (by decide) ?_
              refine j_goto (tgt := 80) hE dX8_takenIn_76 (by decide) ?_
              exact j_sub [3, 4, 5, 6, 2, 1, 0] rfl (j_Road_takenIn_80 E g a ro_z ki_z no_z x1 res hE hq (fun ru_z ru_y v2 v3 => f_Road_takenIn_4 ro_z no_z x1 n ru_z ru_y v2 v3) (fun ru_z ru_y v2 v3 hf => ih ru_z ru_y v2 v3 hf) ru_z ru_y v2 v3 q5 q7 q9 1 hf)
set_option maxRecDepth 100000 in
theorem c_Road_takenIn (l : Launch) (g : jG) (a : Nat → Nat) (ro_z : jZ) (ki_z : jZ) (ru_z : jZ) (ru_y : jY) (no_z : jZ) (x1 : Int32) (res : jZ × jY × Int32) (hf : f_Road_takenIn ro_z ru_z ru_y no_z x1 = some res) : MC l g yX8_takenIn cX8_takenIn 8 (some .int) rm_Road_takenIn [.ref (a 0), .int x1] (([n_Road g a ro_z, n_Kinds g (fun i => a (i + 8)) ki_z, n_Rule g (fun i => a (i + 14)) ru_z ru_y, n_Notes g (fun i => a (i + 17)) no_z] : List va_W)) (some (.int res.2.2)) (([n_Road g a ro_z, n_Kinds g (fun i => a (i + 8)) ki_z, n_Rule g (fun i => a (i + 14)) res.1 res.2.1, n_Notes g (fun i => a (i + 17)) no_z] : List va_W)) 0 0 := by
  refine MC_of (own := RX8) (lv := [(0, .ref (a 0)), (1, .int x1)]) (by decide) rfl (Nat.le_of_ble_eq_true rfl) rfl rfl (fun E hE hq => ?_)
  unfold f_Road_takenIn at hf
  refine j_iconst (v := 0) hE dX8_takenIn_0 (by decide) ?_
  refine j_istore_n (lv' := [(2, .int 0), (0, .ref (a 0)), (1, .int x1)]) hE dX8_takenIn_1 rfl (by decide) rfl ?_
  refine j_iconst (v := 0) hE dX8_takenIn_2 (by decide) ?_
  refine j_istore_n (lv' := [(3, .int 0), (2, .int 0), (0, .ref (a 0)), (1, .int x1)]) hE dX8_takenIn_3 rfl (by decide) rfl ?_
  exact j_sub [2, 3, 1, 0] rfl (j_Road_takenIn_4 E g a ro_z ki_z no_z x1 res hE hq FU ru_z ru_y 0 0 hf)
def rm_Odds_weigh : Room := { frames := 1, cells := 0, slots := 0, locals := 23 }
def f_Odds_weigh_27 (ki_z : jZ) (no_z : jZ) (x2 : Int32) (x3 : Int32) (x4 : Int32) (x5 : Int32)  : Nat → Int64 → Int32 → Option (Int64)
  | 0, _, _ => none
  | n + 1, v6, v8 => (if x5 < v8 then some v6
    else (if 9 ≤ v8 then some v6
    else (f_Notes_at no_z x3 v8).bind fun q6 => (if q6 = (-1) then f_Odds_weigh_27 ki_z no_z x2 x3 x4 x5 n v6 (v8 + 1)
    else (f_Kinds_howManyAre ki_z x2 q6).bind fun q9 => f_Odds_weigh_27 ki_z no_z x2 x3 x4 x5 n (v6 * (Int32.toInt64 q9)) (v8 + 1))))
def f_Odds_weigh (ki_z : jZ) (no_z : jZ) (x2 : Int32) (x3 : Int32) (x4 : Int32) (x5 : Int32) : Option (Int64) := (if x2 < 0 then some 0
    else (if x2 < 5 then (ix x2 5).bind fun _ => f_Odds_weigh_27 ki_z no_z x2 x3 x4 x5 FU (Int32.toInt64 (ki_z 3 (Int32.toNatClampNeg x2))) x4
    else some 0))
set_option maxRecDepth 100000 in
theorem j_Odds_weigh_27 (E : jT) (g : jG) (a : Nat → Nat) (b : Nat → Nat) (od_z : jZ) (od_y : jY) (ro_z : jZ) (ki_z : jZ) (ru_z : jZ) (ru_y : jY) (no_z : jZ) (x2 : Int32) (x3 : Int32) (x4 : Int32) (x5 : Int32) (res : Int64) (hE : jOk E g RX5 cX5_weigh 10 (some .long) rm_Odds_weigh) (hq : jEnd E g (some (.long res)) (([n_Odds g a od_z od_y, n_Road g b ro_z, n_Kinds g (fun i => b (i + 8)) ki_z, n_Rule g (fun i => b (i + 14)) ru_z ru_y, n_Notes g (fun i => b (i + 17)) no_z] : List va_W)) 0 0)  : ∀ (n : Nat) (v6 : Int64) (v8 : Int32), f_Odds_weigh_27 ki_z no_z x2 x3 x4 x5 n v6 v8 = some res → J E g 0 0 (([n_Odds g a od_z od_y, n_Road g b ro_z, n_Kinds g (fun i => b (i + 8)) ki_z, n_Rule g (fun i => b (i + 14)) ru_z ru_y, n_Notes g (fun i => b (i + 17)) no_z] : List va_W)) [(1, .ref (b 0)), (2, .int x2), (3, .int x3), (5, .int x5), (6, .long v6), (8, .int v8)] 27 [] := by
  intro n
  induction n with
  | zero =>
    intro v6 v8 hf
    rw [f_Odds_weigh_27] at hf
    cases hf
  | succ n ih =>
    intro v6 v8 hf
    rw [f_Odds_weigh_27] at hf
    refine j_iload hE dX5_weigh_27 5 rfl ?_
    refine j_iload hE dX5_weigh_29 3 rfl ?_
    refine j_icmp_gt (tgt := 81) hE hf dX5_weigh_31 (by decide) (fun c4 hf => ?_) (fun c4 hf => ?_)
    · refine j_lload hE dX5_weigh_81 4 rfl ?_
      obtain rfl := Option.some.inj hf
      exact j_lret hE hq rfl rfl dX5_weigh_83
    · refine j_iload hE dX5_weigh_34 5 rfl ?_
      refine j_bipush (v := 9) hE dX5_weigh_36 (by decide) ?_
      refine j_icmp_ge (tgt := 81) hE hf dX5_weigh_38 (by decide) (fun c5 hf => ?_) (fun c5 hf => ?_)
      · refine j_lload hE dX5_weigh_81 4 rfl ?_
        obtain rfl := Option.some.inj hf
        exact j_lret hE hq rfl rfl dX5_weigh_83
      · refine j_aload_n hE dX5_weigh_41 rfl 0 rfl ?_
        refine j_get (v := .ref (b 17)) hE lg_Odds_44 1 rfl 0 (wg_Road_0 g b ro_z) rfl dX5_weigh_42 ?_
        refine j_iload_n hE dX5_weigh_45 rfl 2 rfl ?_
        refine j_iload hE dX5_weigh_46 5 rfl ?_
        obtain ⟨q6, hc7, hf⟩ := bind_of hf
        refine j_callV (ws' := ([n_Odds g a od_z od_y, n_Road g b ro_z, n_Kinds g (fun i => b (i + 8)) ki_z, n_Rule g (fun i => b (i + 14)) ru_z ru_y, n_Notes g (fun i => b (i + 17)) no_z] : List va_W)) (As := [.int x3, .int v8]) (rest := []) (st2 := [.int q6]) hE (fun l => c_Notes_at l g (fun i => b (i + 17)) no_z x3 v8 q6 hc7) cd_X4_at cv_X4_at ml_Odds_48 rfl rfl rfl (wg_Notes_0 _ _ _) ⟨⟨Nat.le_of_ble_eq_true rfl, Nat.le_of_ble_eq_true rfl⟩, ⟨Nat.zero_le _, Nat.zero_le _⟩, rfl, rfl⟩ [4] rfl rfl rfl (Nat.le_of_ble_eq_true rfl) rfl dX5_weigh_48 ?_
        refine j_istore (lv' := [(9, .int q6), (1, .ref (b 0)), (2, .int x2), (3, .int x3), (5, .int x5), (6, .long v6), (8, .int v8)]) hE dX5_weigh_51 (by decide) rfl ?_
        refine j_iload hE dX5_weigh_53 0 rfl ?_
        refine j_iconst (v := (-1)) hE dX5_weigh_55 (by decide) ?_
        refine j_icmp_eq (tgt := 75) hE hf dX5_weigh_56 (by decide) (fun c8 hf => ?_) (fun c8 hf => ?_)
        · refine j_iinc (v := (v8 + 1)) (lv' := [(8, .int (v8 + 1)), (9, .int q6), (1, .ref (b 0)), (2, .int x2), (3, .int x3), (5, .int x5), (6, .long v6)]) hE dX5_weigh_75 6 rfl rfl (by decide) rfl ?_
          refine j_goto (tgt := 27) hE dX5_weigh_78 (by decide) ?_
          exact j_sub [2, 3, 4, 5, 6, 0] rfl (ih v6 (v8 + 1) hf)
        · refine j_lload hE dX5_weigh_59 5 rfl ?_
          refine j_aload_n hE dX5_weigh_61 rfl 1 rfl ?_
          refine j_get (v := .ref (b 8)) hE lg_Odds_32 1 rfl 0 (wg_Road_0 g b ro_z) rfl dX5_weigh_62 ?_
          refine j_iload_n hE dX5_weigh_65 rfl 2 rfl ?_
          refine j_iload hE dX5_weigh_66 0 rfl ?_
          obtain ⟨q9, hc10, hf⟩ := bind_of hf
          refine j_callV (ws' := ([n_Odds g a od_z od_y, n_Road g b ro_z, n_Kinds g (fun i => b (i + 8)) ki_z, n_Rule g (fun i => b (i + 14)) ru_z ru_y, n_Notes g (fun i => b (i + 17)) no_z] : List va_W)) (As := [.int x2, .int q6]) (rest := [.long v6]) (st2 := [.int q9, .long v6]) hE (fun l => c_Kinds_howManyAre l g (fun i => b (i + 8)) ki_z x2 q6 q9 hc10) cd_X2_howManyAre cv_X2_howManyAre ml_Odds_54 rfl rfl rfl (wg_Kinds_0 _ _ _) ⟨⟨Nat.le_of_ble_eq_true rfl, Nat.le_of_ble_eq_true rfl⟩, ⟨Nat.zero_le _, Nat.zero_le _⟩, rfl, rfl⟩ [2] rfl rfl rfl (Nat.le_of_ble_eq_true rfl) rfl dX5_weigh_68 ?_
          refine j_i2l hE dX5_weigh_71 ?_
          refine j_lmul hE dX5_weigh_72 ?_
          refine j_lstore (lv' := [(6, .long (v6 * (Int32.toInt64 q9))), (9, .int q6), (1, .ref (b 0)), (2, .int x2), (3, .int x3), (5, .int x5), (8, .int v8)]) hE dX5_weigh_73 (by decide) rfl ?_
          refine j_iinc (v := (v8 + 1)) (lv' := [(8, .int (v8 + 1)), (6, .long (v6 * (Int32.toInt64 q9))), (9, .int q6), (1, .ref (b 0)), (2, .int x2), (3, .int x3), (5, .int x5)]) hE dX5_weigh_75 6 rfl rfl (by decide) rfl ?_
          refine j_goto (tgt := 27) hE dX5_weigh_78 (by decide) ?_
          exact j_sub [3, 4, 5, 6, 1, 0] rfl (ih (v6 * (Int32.toInt64 q9)) (v8 + 1) hf)
set_option maxRecDepth 100000 in
theorem c_Odds_weigh (l : Launch) (g : jG) (a : Nat → Nat) (b : Nat → Nat) (od_z : jZ) (od_y : jY) (ro_z : jZ) (ki_z : jZ) (ru_z : jZ) (ru_y : jY) (no_z : jZ) (x2 : Int32) (x3 : Int32) (x4 : Int32) (x5 : Int32) (res : Int64) (hf : f_Odds_weigh ki_z no_z x2 x3 x4 x5 = some res) : MC l g yX5_weigh cX5_weigh 10 (some .long) rm_Odds_weigh [.ref (a 0), .ref (b 0), .int x2, .int x3, .int x4, .int x5] (([n_Odds g a od_z od_y, n_Road g b ro_z, n_Kinds g (fun i => b (i + 8)) ki_z, n_Rule g (fun i => b (i + 14)) ru_z ru_y, n_Notes g (fun i => b (i + 17)) no_z] : List va_W)) (some (.long res)) (([n_Odds g a od_z od_y, n_Road g b ro_z, n_Kinds g (fun i => b (i + 8)) ki_z, n_Rule g (fun i => b (i + 14)) ru_z ru_y, n_Notes g (fun i => b (i + 17)) no_z] : List va_W)) 0 0 := by
  refine MC_of (own := RX5) (lv := [(0, .ref (a 0)), (1, .ref (b 0)), (2, .int x2), (3, .int x3), (4, .int x4), (5, .int x5)]) (by decide) rfl (Nat.le_of_ble_eq_true rfl) rfl rfl (fun E hE hq => ?_)
  unfold f_Odds_weigh at hf
  refine j_iload_n hE dX5_weigh_0 rfl 2 rfl ?_
  refine j_if_lt (tgt := 9) hE hf dX5_weigh_1 (by decide) (fun c1 hf => ?_) (fun c1 hf => ?_)
  · refine j_lconst (v := 0) hE dX5_weigh_9 (by decide) ?_
    obtain rfl := Option.some.inj hf
    exact j_lret hE hq rfl rfl dX5_weigh_10
  · refine j_iload_n hE dX5_weigh_4 rfl 2 rfl ?_
    refine j_iconst (v := 5) hE dX5_weigh_5 (by decide) ?_
    refine j_icmp_lt (tgt := 11) hE hf dX5_weigh_6 (by decide) (fun c2 hf => ?_) (fun c2 hf => ?_)
    · refine j_aload_n hE dX5_weigh_11 rfl 1 rfl ?_
      refine j_get (v := .ref (b 8)) hE lg_Odds_32 1 rfl 0 (wg_Road_0 g b ro_z) rfl dX5_weigh_12 ?_
      refine j_get (v := .ref (b 10)) hE lg_Odds_38 2 rfl 0 (wg_Kinds_0 g (fun i => b (i + 8)) ki_z) rfl dX5_weigh_15 ?_
      refine j_iload_n hE dX5_weigh_18 rfl 2 rfl ?_
      refine j_iald hE hf 2 rfl 2 (wg_Kinds_2 g (fun i => b (i + 8)) ki_z) dX5_weigh_19 (fun hf => ?_)
      refine j_i2l hE dX5_weigh_20 ?_
      refine j_lstore (lv' := [(6, .long (Int32.toInt64 (ki_z 3 (Int32.toNatClampNeg x2)))), (0, .ref (a 0)), (1, .ref (b 0)), (2, .int x2), (3, .int x3), (4, .int x4), (5, .int x5)]) hE dX5_weigh_21 (by decide) rfl ?_
      refine j_iload hE dX5_weigh_23 5 rfl ?_
      refine j_istore (lv' := [(8, .int x4), (6, .long (Int32.toInt64 (ki_z 3 (Int32.toNatClampNeg x2)))), (0, .ref (a 0)), (1, .ref (b 0)), (2, .int x2), (3, .int x3), (4, .int x4), (5, .int x5)]) hE dX5_weigh_25 (by decide) rfl ?_
      exact j_sub [3, 4, 5, 7, 1, 0] rfl (j_Odds_weigh_27 E g a b od_z od_y ro_z ki_z ru_z ru_y no_z x2 x3 x4 x5 res hE hq FU (Int32.toInt64 (ki_z 3 (Int32.toNatClampNeg x2))) x4 hf)
    · refine j_lconst (v := 0) hE dX5_weigh_9 (by decide) ?_
      obtain rfl := Option.some.inj hf
      exact j_lret hE hq rfl rfl dX5_weigh_10
def rm_Odds_weighAllOdds_likelies : Room := { frames := 2, cells := 0, slots := 0, locals := 52 }
def f_Odds_weighAllOdds_likelies_6 (ki_z : jZ) (no_z : jZ) (x3 : Int32) (x4 : Int32) (x5 : Int32)  : Nat → jY → Int64 → Int32 → Option (jY × Int64)
  | 0, _, _, _ => none
  | n + 1, od_y, v6, v8 => (if 5 ≤ v8 then some (od_y, v6)
    else (if (ki_z 0 0) ≤ v8 then (ix v8 5).bind fun _ => (ix v8 5).bind fun _ => f_Odds_weighAllOdds_likelies_6 ki_z no_z x3 x4 x5 n (up2 od_y 0 (Int32.toNatClampNeg v8) 0) (v6 + ((up2 od_y 0 (Int32.toNatClampNeg v8) 0) 0 (Int32.toNatClampNeg v8))) (v8 + 1)
    else (f_Odds_weigh ki_z no_z v8 x3 x4 x5).bind fun q4 => (ix v8 5).bind fun _ => (ix v8 5).bind fun _ => f_Odds_weighAllOdds_likelies_6 ki_z no_z x3 x4 x5 n (up2 od_y 0 (Int32.toNatClampNeg v8) q4) (v6 + ((up2 od_y 0 (Int32.toNatClampNeg v8) q4) 0 (Int32.toNatClampNeg v8))) (v8 + 1)))
def f_Odds_weighAllOdds_likelies (od_y : jY) (ki_z : jZ) (no_z : jZ) (x3 : Int32) (x4 : Int32) (x5 : Int32) : Option (jY × Int64) := f_Odds_weighAllOdds_likelies_6 ki_z no_z x3 x4 x5 FU od_y 0 0
set_option maxRecDepth 100000 in
theorem j_Odds_weighAllOdds_likelies_6 (E : jT) (g : jG) (a : Nat → Nat) (b : Nat → Nat) (od_z : jZ) (ro_z : jZ) (ki_z : jZ) (ru_z : jZ) (ru_y : jY) (no_z : jZ) (x3 : Int32) (x4 : Int32) (x5 : Int32) (res : jY × Int64) (hE : jOk E g RX5 cX5_weighAll 9 (some .long) rm_Odds_weighAllOdds_likelies) (hq : jEnd E g (some (.long res.2)) (([n_Odds g a od_z res.1, n_Road g b ro_z, n_Kinds g (fun i => b (i + 8)) ki_z, n_Rule g (fun i => b (i + 14)) ru_z ru_y, n_Notes g (fun i => b (i + 17)) no_z] : List va_W)) 0 0)  : ∀ (n : Nat) (od_y : jY) (v6 : Int64) (v8 : Int32), f_Odds_weighAllOdds_likelies_6 ki_z no_z x3 x4 x5 n od_y v6 v8 = some res → J E g 0 0 (([n_Odds g a od_z od_y, n_Road g b ro_z, n_Kinds g (fun i => b (i + 8)) ki_z, n_Rule g (fun i => b (i + 14)) ru_z ru_y, n_Notes g (fun i => b (i + 17)) no_z] : List va_W)) [(0, .ref (a 0)), (1, .ref (a 1)), (2, .ref (b 0)), (3, .int x3), (4, .int x4), (5, .int x5), (6, .long v6), (8, .int v8)] 6 [] := by
  intro n
  induction n with
  | zero =>
    intro od_y v6 v8 hf
    rw [f_Odds_weighAllOdds_likelies_6] at hf
    cases hf
  | succ n ih =>
    intro od_y v6 v8 hf
    rw [f_Odds_weighAllOdds_likelies_6] at hf
    refine j_iload hE dX5_weighAll_6 7 rfl ?_
    refine j_aload_n hE dX5_weighAll_8 rfl 1 rfl ?_
    refine j_alen (v := 5) (t0 := 2) hE 0 rfl 1 (wg_Odds_1 g a od_z od_y) rfl rfl dX5_weighAll_9 ?_
    refine j_icmp_ge (tgt := 60) hE hf dX5_weighAll_10 (by decide) (fun c1 hf => ?_) (fun c1 hf => ?_)
    · refine j_lload hE dX5_weighAll_60 6 rfl ?_
      obtain rfl := Option.some.inj hf
      exact j_lret hE hq rfl rfl dX5_weighAll_62
    · refine j_aload_n hE dX5_weighAll_13 rfl 1 rfl ?_
      refine j_iload hE dX5_weighAll_14 7 rfl ?_
      refine j_iload hE dX5_weighAll_16 7 rfl ?_
      refine j_aload_n hE dX5_weighAll_18 rfl 2 rfl ?_
      refine j_get (v := .ref (b 8)) hE lg_Odds_32 1 rfl 0 (wg_Road_0 g b ro_z) rfl dX5_weighAll_19 ?_
      refine j_get (v := .int (ki_z 0 0)) hE lg_Odds_86 2 rfl 0 (wg_Kinds_0 g (fun i => b (i + 8)) ki_z) rfl dX5_weighAll_22 ?_
      refine j_icmp_ge (tgt := 43) hE hf dX5_weighAll_25 (by decide) (fun c2 hf => ?_) (fun c2 hf => ?_)
      · refine j_lconst (v := 0) hE dX5_weighAll_43 (by decide) ?_
        refine j_last (ws' := ([n_Odds g a od_z (up2 od_y 0 (Int32.toNatClampNeg v8) 0), n_Road g b ro_z, n_Kinds g (fun i => b (i + 8)) ki_z, n_Rule g (fun i => b (i + 14)) ru_z ru_y, n_Notes g (fun i => b (i + 17)) no_z] : List va_W)) hE hf 0 rfl 1 (wg_Odds_1 g a od_z od_y) (wa_Odds_1 g a od_z od_y (Int32.toNatClampNeg v8) 0) rfl dX5_weighAll_44 (fun hf => ?_)
        refine j_lload hE dX5_weighAll_45 6 rfl ?_
        refine j_aload_n hE dX5_weighAll_47 rfl 1 rfl ?_
        refine j_iload hE dX5_weighAll_48 7 rfl ?_
        refine j_lald hE hf 0 rfl 1 (wg_Odds_1 g a od_z (up2 od_y 0 (Int32.toNatClampNeg v8) 0)) dX5_weighAll_50 (fun hf => ?_)
        refine j_ladd hE dX5_weighAll_51 ?_
        refine j_lstore (lv' := [(6, .long (v6 + ((up2 od_y 0 (Int32.toNatClampNeg v8) 0) 0 (Int32.toNatClampNeg v8)))), (0, .ref (a 0)), (1, .ref (a 1)), (2, .ref (b 0)), (3, .int x3), (4, .int x4), (5, .int x5), (8, .int v8)]) hE dX5_weighAll_52 (by decide) rfl ?_
        refine j_iinc (v := (v8 + 1)) (lv' := [(8, .int (v8 + 1)), (6, .long (v6 + ((up2 od_y 0 (Int32.toNatClampNeg v8) 0) 0 (Int32.toNatClampNeg v8)))), (0, .ref (a 0)), (1, .ref (a 1)), (2, .ref (b 0)), (3, .int x3), (4, .int x4), (5, .int x5)]) hE dX5_weighAll_54 7 rfl rfl (by decide) rfl ?_
        refine j_goto (tgt := 6) hE dX5_weighAll_57 (by decide) ?_
        exact j_sub [2, 3, 4, 5, 6, 7, 1, 0] rfl (ih (up2 od_y 0 (Int32.toNatClampNeg v8) 0) (v6 + ((up2 od_y 0 (Int32.toNatClampNeg v8) 0) 0 (Int32.toNatClampNeg v8))) (v8 + 1) hf)
      · refine j_aload_n hE dX5_weighAll_28 rfl 0 rfl ?_
        refine j_aload_n hE dX5_weighAll_29 rfl 2 rfl ?_
        refine j_iload hE dX5_weighAll_30 7 rfl ?_
        refine j_iload_n hE dX5_weighAll_32 rfl 3 rfl ?_
        refine j_iload hE dX5_weighAll_33 4 rfl ?_
        refine j_iload hE dX5_weighAll_35 5 rfl ?_
        obtain ⟨q4, hc5, hf⟩ := bind_of hf
        refine j_callV (ws' := ([n_Odds g a od_z od_y, n_Road g b ro_z, n_Kinds g (fun i => b (i + 8)) ki_z, n_Rule g (fun i => b (i + 14)) ru_z ru_y, n_Notes g (fun i => b (i + 17)) no_z] : List va_W)) (As := [.ref (b 0), .int v8, .int x3, .int x4, .int x5]) (rest := [.int v8, .ref (a 1)]) (st2 := [.long q4, .int v8, .ref (a 1)]) hE (fun l => c_Odds_weigh l g a b od_z od_y ro_z ki_z ru_z ru_y no_z v8 x3 x4 x5 q4 hc5) cd_X5_weigh cv_X5_weigh ml_Odds_89 rfl rfl rfl (wg_Odds_0 _ _ _ _) ⟨⟨Nat.le_of_ble_eq_true rfl, Nat.le_of_ble_eq_true rfl⟩, ⟨Nat.zero_le _, Nat.zero_le _⟩, rfl, rfl⟩ [0, 1, 2, 3, 4] rfl rfl rfl (Nat.le_of_ble_eq_true rfl) rfl dX5_weighAll_37 ?_
        refine j_goto (tgt := 44) hE dX5_weighAll_40 (by decide) ?_
        refine j_last (ws' := ([n_Odds g a od_z (up2 od_y 0 (Int32.toNatClampNeg v8) q4), n_Road g b ro_z, n_Kinds g (fun i => b (i + 8)) ki_z, n_Rule g (fun i => b (i + 14)) ru_z ru_y, n_Notes g (fun i => b (i + 17)) no_z] : List va_W)) hE hf 0 rfl 1 (wg_Odds_1 g a od_z od_y) (wa_Odds_1 g a od_z od_y (Int32.toNatClampNeg v8) q4) rfl dX5_weighAll_44 (fun hf => ?_)
        refine j_lload hE dX5_weighAll_45 6 rfl ?_
        refine j_aload_n hE dX5_weighAll_47 rfl 1 rfl ?_
        refine j_iload hE dX5_weighAll_48 7 rfl ?_
        refine j_lald hE hf 0 rfl 1 (wg_Odds_1 g a od_z (up2 od_y 0 (Int32.toNatClampNeg v8) q4)) dX5_weighAll_50 (fun hf => ?_)
        refine j_ladd hE dX5_weighAll_51 ?_
        refine j_lstore (lv' := [(6, .long (v6 + ((up2 od_y 0 (Int32.toNatClampNeg v8) q4) 0 (Int32.toNatClampNeg v8)))), (0, .ref (a 0)), (1, .ref (a 1)), (2, .ref (b 0)), (3, .int x3), (4, .int x4), (5, .int x5), (8, .int v8)]) hE dX5_weighAll_52 (by decide) rfl ?_
        refine j_iinc (v := (v8 + 1)) (lv' := [(8, .int (v8 + 1)), (6, .long (v6 + ((up2 od_y 0 (Int32.toNatClampNeg v8) q4) 0 (Int32.toNatClampNeg v8)))), (0, .ref (a 0)), (1, .ref (a 1)), (2, .ref (b 0)), (3, .int x3), (4, .int x4), (5, .int x5)]) hE dX5_weighAll_54 7 rfl rfl (by decide) rfl ?_
        refine j_goto (tgt := 6) hE dX5_weighAll_57 (by decide) ?_
        exact j_sub [2, 3, 4, 5, 6, 7, 1, 0] rfl (ih (up2 od_y 0 (Int32.toNatClampNeg v8) q4) (v6 + ((up2 od_y 0 (Int32.toNatClampNeg v8) q4) 0 (Int32.toNatClampNeg v8))) (v8 + 1) hf)
set_option maxRecDepth 100000 in
theorem c_Odds_weighAllOdds_likelies (l : Launch) (g : jG) (a : Nat → Nat) (b : Nat → Nat) (od_z : jZ) (od_y : jY) (ro_z : jZ) (ki_z : jZ) (ru_z : jZ) (ru_y : jY) (no_z : jZ) (x3 : Int32) (x4 : Int32) (x5 : Int32) (res : jY × Int64) (hf : f_Odds_weighAllOdds_likelies od_y ki_z no_z x3 x4 x5 = some res) : MC l g yX5_weighAll cX5_weighAll 9 (some .long) rm_Odds_weighAllOdds_likelies [.ref (a 0), .ref (a 1), .ref (b 0), .int x3, .int x4, .int x5] (([n_Odds g a od_z od_y, n_Road g b ro_z, n_Kinds g (fun i => b (i + 8)) ki_z, n_Rule g (fun i => b (i + 14)) ru_z ru_y, n_Notes g (fun i => b (i + 17)) no_z] : List va_W)) (some (.long res.2)) (([n_Odds g a od_z res.1, n_Road g b ro_z, n_Kinds g (fun i => b (i + 8)) ki_z, n_Rule g (fun i => b (i + 14)) ru_z ru_y, n_Notes g (fun i => b (i + 17)) no_z] : List va_W)) 0 0 := by
  refine MC_of (own := RX5) (lv := [(0, .ref (a 0)), (1, .ref (a 1)), (2, .ref (b 0)), (3, .int x3), (4, .int x4), (5, .int x5)]) (by decide) rfl (Nat.le_of_ble_eq_true rfl) rfl rfl (fun E hE hq => ?_)
  unfold f_Odds_weighAllOdds_likelies at hf
  refine j_lconst (v := 0) hE dX5_weighAll_0 (by decide) ?_
  refine j_lstore (lv' := [(6, .long 0), (0, .ref (a 0)), (1, .ref (a 1)), (2, .ref (b 0)), (3, .int x3), (4, .int x4), (5, .int x5)]) hE dX5_weighAll_1 (by decide) rfl ?_
  refine j_iconst (v := 0) hE dX5_weighAll_3 (by decide) ?_
  refine j_istore (lv' := [(8, .int 0), (6, .long 0), (0, .ref (a 0)), (1, .ref (a 1)), (2, .ref (b 0)), (3, .int x3), (4, .int x4), (5, .int x5)]) hE dX5_weighAll_4 (by decide) rfl ?_
  exact j_sub [2, 3, 4, 5, 6, 7, 1, 0] rfl (j_Odds_weighAllOdds_likelies_6 E g a b od_z ro_z ki_z ru_z ru_y no_z x3 x4 x5 res hE hq FU od_y 0 0 hf)
def rm_Odds_reduce : Room := { frames := 0, cells := 0, slots := 0, locals := 0 }
def f_Odds_reduce_78  (x1 : Int64) (x3 : Int64)  (od_y : jY) (v5 : Int64) (s0 : Int64) : Option (jY) := (if (lg_cmp x3 0) ≤ 0 then some (up2 (up2 od_y 2 0 s0) 3 0 0)
    else (if (lg_cmp v5 0) = 0 then some (up2 (up2 od_y 2 0 s0) 3 0 0)
    else (nzl v5).bind fun _ => some (up2 (up2 od_y 2 0 s0) 3 0 (x3 / v5))))
def f_Odds_reduce_56  (x1 : Int64) (x3 : Int64)  (od_y : jY) (v5 : Int64) : Option (jY) := (if (lg_cmp x3 0) ≤ 0 then f_Odds_reduce_78 x1 x3 od_y v5 0
    else (if (lg_cmp v5 0) = 0 then f_Odds_reduce_78 x1 x3 od_y v5 0
    else (nzl v5).bind fun _ => f_Odds_reduce_78 x1 x3 od_y v5 (x1 / v5)))
def f_Odds_reduce_20  (x1 : Int64) (x3 : Int64)  : Nat → jY → Int64 → Int64 → Int32 → Option (jY)
  | 0, _, _, _, _ => none
  | n + 1, od_y, v5, v7, v9 => (if 200 ≤ v9 then f_Odds_reduce_56 x1 x3 od_y v5
    else (if (lg_cmp v7 0) = 0 then f_Odds_reduce_56 x1 x3 od_y v5
    else (nzl v7).bind fun _ => f_Odds_reduce_20 x1 x3 n od_y v7 (v5 - v5 / v7 * v7) (v9 + 1)))
def f_Odds_reduce (od_y : jY) (x1 : Int64) (x3 : Int64) : Option (jY) := (if 0 ≤ (lg_cmp x1 0) then f_Odds_reduce_20 x1 x3 FU od_y x3 x1 0
    else f_Odds_reduce_20 x1 x3 FU od_y x3 (-x1) 0)
set_option maxRecDepth 100000 in
theorem j_Odds_reduce_78 (E : jT) (g : jG) (a : Nat → Nat) (od_z : jZ) (x1 : Int64) (x3 : Int64) (res : jY) (hE : jOk E g RX5 cX5_reduce 12 (none : Option Jvm.ClassFile.FieldType) rm_Odds_reduce) (hq : jEnd E g none (([n_Odds g a od_z res] : List va_W)) 0 0)  (od_y : jY) (v5 : Int64) (s0 : Int64) (hf : f_Odds_reduce_78 x1 x3 od_y v5 s0 = some res) : J E g 0 0 (([n_Odds g a od_z od_y] : List va_W)) [(0, .ref (a 0)), (3, .long x3), (5, .long v5)] 78 [.long s0, .ref (a 0)] := by
  unfold f_Odds_reduce_78 at hf
  refine j_put (v := .long s0) (ws' := ([n_Odds g a od_z (up2 od_y 2 0 s0)] : List va_W)) hE lp_Odds_18 0 rfl 0 (wg_Odds_0 g a od_z od_y) rfl rfl (Nat.le_of_ble_eq_true rfl) (wp_Odds_2 g a od_z od_y s0) rfl dX5_reduce_78 ?_
  refine j_aload_n hE dX5_reduce_81 rfl 0 rfl ?_
  refine j_lload_n hE dX5_reduce_82 rfl 1 rfl ?_
  refine j_lconst (v := 0) hE dX5_reduce_83 (by decide) ?_
  refine j_lcmp hE dX5_reduce_84 ?_
  refine j_if_le (tgt := 95) hE hf dX5_reduce_85 (by decide) (fun c6 hf => ?_) (fun c6 hf => ?_)
  · refine j_lconst (v := 0) hE dX5_reduce_95 (by decide) ?_
    refine j_goto (tgt := 103) hE dX5_reduce_96 (by decide) ?_
    refine j_put (v := .long 0) (ws' := ([n_Odds g a od_z (up2 (up2 od_y 2 0 s0) 3 0 0)] : List va_W)) hE lp_Odds_22 0 rfl 0 (wg_Odds_0 g a od_z (up2 od_y 2 0 s0)) rfl rfl (Nat.le_of_ble_eq_true rfl) (wp_Odds_3 g a od_z (up2 od_y 2 0 s0) 0) rfl dX5_reduce_103 ?_
    obtain rfl := Option.some.inj hf
    exact j_vret hE hq rfl rfl dX5_reduce_106
  · refine j_lload hE dX5_reduce_88 2 rfl ?_
    refine j_lconst (v := 0) hE dX5_reduce_90 (by decide) ?_
    refine j_lcmp hE dX5_reduce_91 ?_
    refine j_if_ne (tgt := 99) hE hf dX5_reduce_92 (by decide) (fun c7 hf => ?_) (fun c7 hf => ?_)
    · refine j_lload_n hE dX5_reduce_99 rfl 1 rfl ?_
      refine j_lload hE dX5_reduce_100 2 rfl ?_
      refine j_ldiv hE hf dX5_reduce_102 (fun hf => ?_)
      refine j_put (v := .long (x3 / v5)) (ws' := ([n_Odds g a od_z (up2 (up2 od_y 2 0 s0) 3 0 (x3 / v5))] : List va_W)) hE lp_Odds_22 0 rfl 0 (wg_Odds_0 g a od_z (up2 od_y 2 0 s0)) rfl rfl (Nat.le_of_ble_eq_true rfl) (wp_Odds_3 g a od_z (up2 od_y 2 0 s0) (x3 / v5)) rfl dX5_reduce_103 ?_
      obtain rfl := Option.some.inj hf
      exact j_vret hE hq rfl rfl dX5_reduce_106
    · refine j_lconst (v := 0) hE dX5_reduce_95 (by decide) ?_
      refine j_goto (tgt := 103) hE dX5_reduce_96 (by decide) ?_
      refine j_put (v := .long 0) (ws' := ([n_Odds g a od_z (up2 (up2 od_y 2 0 s0) 3 0 0)] : List va_W)) hE lp_Odds_22 0 rfl 0 (wg_Odds_0 g a od_z (up2 od_y 2 0 s0)) rfl rfl (Nat.le_of_ble_eq_true rfl) (wp_Odds_3 g a od_z (up2 od_y 2 0 s0) 0) rfl dX5_reduce_103 ?_
      obtain rfl := Option.some.inj hf
      exact j_vret hE hq rfl rfl dX5_reduce_106
set_option maxRecDepth 100000 in
theorem j_Odds_reduce_56 (E : jT) (g : jG) (a : Nat → Nat) (od_z : jZ) (x1 : Int64) (x3 : Int64) (res : jY) (hE : jOk E g RX5 cX5_reduce 12 (none : Option Jvm.ClassFile.FieldType) rm_Odds_reduce) (hq : jEnd E g none (([n_Odds g a od_z res] : List va_W)) 0 0)  (od_y : jY) (v5 : Int64) (hf : f_Odds_reduce_56 x1 x3 od_y v5 = some res) : J E g 0 0 (([n_Odds g a od_z od_y] : List va_W)) [(0, .ref (a 0)), (1, .long x1), (3, .long x3), (5, .long v5)] 56 [] := by
  unfold f_Odds_reduce_56 at hf
  refine j_aload_n hE dX5_reduce_56 rfl 0 rfl ?_
  refine j_lload_n hE dX5_reduce_57 rfl 2 rfl ?_
  refine j_lconst (v := 0) hE dX5_reduce_58 (by decide) ?_
  refine j_lcmp hE dX5_reduce_59 ?_
  refine j_if_le (tgt := 70) hE hf dX5_reduce_60 (by decide) (fun c4 hf => ?_) (fun c4 hf => ?_)
  · refine j_lconst (v := 0) hE dX5_reduce_70 (by decide) ?_
    refine j_goto (tgt := 78) hE dX5_reduce_71 (by decide) ?_
    exact j_sub [0, 2, 3] rfl (j_Odds_reduce_78 E g a od_z x1 x3 res hE hq od_y v5 0 hf)
  · refine j_lload hE dX5_reduce_63 3 rfl ?_
    refine j_lconst (v := 0) hE dX5_reduce_65 (by decide) ?_
    refine j_lcmp hE dX5_reduce_66 ?_
    refine j_if_ne (tgt := 74) hE hf dX5_reduce_67 (by decide) (fun c5 hf => ?_) (fun c5 hf => ?_)
    · refine j_lload_n hE dX5_reduce_74 rfl 1 rfl ?_
      refine j_lload hE dX5_reduce_75 3 rfl ?_
      refine j_ldiv hE hf dX5_reduce_77 (fun hf => ?_)
      exact j_sub [0, 2, 3] rfl (j_Odds_reduce_78 E g a od_z x1 x3 res hE hq od_y v5 (x1 / v5) hf)
    · refine j_lconst (v := 0) hE dX5_reduce_70 (by decide) ?_
      refine j_goto (tgt := 78) hE dX5_reduce_71 (by decide) ?_
      exact j_sub [0, 2, 3] rfl (j_Odds_reduce_78 E g a od_z x1 x3 res hE hq od_y v5 0 hf)
set_option maxRecDepth 100000 in
theorem j_Odds_reduce_20 (E : jT) (g : jG) (a : Nat → Nat) (od_z : jZ) (x1 : Int64) (x3 : Int64) (res : jY) (hE : jOk E g RX5 cX5_reduce 12 (none : Option Jvm.ClassFile.FieldType) rm_Odds_reduce) (hq : jEnd E g none (([n_Odds g a od_z res] : List va_W)) 0 0)  : ∀ (n : Nat) (od_y : jY) (v5 : Int64) (v7 : Int64) (v9 : Int32), f_Odds_reduce_20 x1 x3 n od_y v5 v7 v9 = some res → J E g 0 0 (([n_Odds g a od_z od_y] : List va_W)) [(0, .ref (a 0)), (1, .long x1), (3, .long x3), (5, .long v5), (7, .long v7), (9, .int v9)] 20 [] := by
  intro n
  induction n with
  | zero =>
    intro od_y v5 v7 v9 hf
    rw [f_Odds_reduce_20] at hf
    cases hf
  | succ n ih =>
    intro od_y v5 v7 v9 hf
    rw [f_Odds_reduce_20] at hf
    refine j_iload hE dX5_reduce_20 5 rfl ?_
    refine j_sipush (v := 200) hE dX5_reduce_22 (by decide) ?_
    refine j_icmp_ge (tgt := 56) hE hf dX5_reduce_25 (by decide) (fun c2 hf => ?_) (fun c2 hf => ?_)
    · exact j_sub [0, 1, 2, 3] rfl (j_Odds_reduce_56 E g a od_z x1 x3 res hE hq od_y v5 hf)
    · refine j_lload hE dX5_reduce_28 4 rfl ?_
      refine j_lconst (v := 0) hE dX5_reduce_30 (by decide) ?_
      refine j_lcmp hE dX5_reduce_31 ?_
      refine j_if_eq (tgt := 56) hE hf dX5_reduce_32 (by decide) (fun c3 hf => ?_) (fun c3 hf => ?_)
      · exact j_sub [0, 1, 2, 3] rfl (j_Odds_reduce_56 E g a od_z x1 x3 res hE hq od_y v5 hf)
      · refine j_lload hE dX5_reduce_35 3 rfl ?_
        refine j_lload hE dX5_reduce_37 4 rfl ?_
        refine j_lrem hE hf dX5_reduce_39 (fun hf => ?_)
        refine j_lstore (lv' := [(10, .long (v5 - v5 / v7 * v7)), (0, .ref (a 0)), (1, .long x1), (3, .long x3), (5, .long v5), (7, .long v7), (9, .int v9)]) hE dX5_reduce_40 (by decide) rfl ?_
        refine j_lload hE dX5_reduce_42 5 rfl ?_
        refine j_lstore (lv' := [(5, .long v7), (10, .long (v5 - v5 / v7 * v7)), (0, .ref (a 0)), (1, .long x1), (3, .long x3), (7, .long v7), (9, .int v9)]) hE dX5_reduce_44 (by decide) rfl ?_
        refine j_lload hE dX5_reduce_46 1 rfl ?_
        refine j_lstore (lv' := [(7, .long (v5 - v5 / v7 * v7)), (5, .long v7), (10, .long (v5 - v5 / v7 * v7)), (0, .ref (a 0)), (1, .long x1), (3, .long x3), (9, .int v9)]) hE dX5_reduce_48 (by decide) rfl ?_
        refine j_iinc (v := (v9 + 1)) (lv' := [(9, .int (v9 + 1)), (7, .long (v5 - v5 / v7 * v7)), (5, .long v7), (10, .long (v5 - v5 / v7 * v7)), (0, .ref (a 0)), (1, .long x1), (3, .long x3)]) hE dX5_reduce_50 6 rfl rfl (by decide) rfl ?_
        refine j_goto (tgt := 20) hE dX5_reduce_53 (by decide) ?_
        exact j_sub [4, 5, 6, 2, 1, 0] rfl (ih od_y v7 (v5 - v5 / v7 * v7) (v9 + 1) hf)
set_option maxRecDepth 100000 in
theorem c_Odds_reduce (l : Launch) (g : jG) (a : Nat → Nat) (od_z : jZ) (od_y : jY) (x1 : Int64) (x3 : Int64) (res : jY) (hf : f_Odds_reduce od_y x1 x3 = some res) : MC l g yX5_reduce cX5_reduce 12 (none : Option Jvm.ClassFile.FieldType) rm_Odds_reduce [.ref (a 0), .long x1, .long x3] (([n_Odds g a od_z od_y] : List va_W)) none (([n_Odds g a od_z res] : List va_W)) 0 0 := by
  refine MC_of (own := RX5) (lv := [(0, .ref (a 0)), (1, .long x1), (3, .long x3)]) (by decide) rfl (Nat.le_of_ble_eq_true rfl) rfl rfl (fun E hE hq => ?_)
  unfold f_Odds_reduce at hf
  refine j_lload_n hE dX5_reduce_0 rfl 2 rfl ?_
  refine j_lstore (lv' := [(5, .long x3), (0, .ref (a 0)), (1, .long x1), (3, .long x3)]) hE dX5_reduce_1 (by decide) rfl ?_
  refine j_lload_n hE dX5_reduce_3 rfl 2 rfl ?_
  refine j_lconst (v := 0) hE dX5_reduce_4 (by decide) ?_
  refine j_lcmp hE dX5_reduce_5 ?_
  refine j_if_ge (tgt := 14) hE hf dX5_reduce_6 (by decide) (fun c1 hf => ?_) (fun c1 hf => ?_)
  · refine j_lload_n hE dX5_reduce_14 rfl 2 rfl ?_
    refine j_lstore (lv' := [(7, .long x1), (5, .long x3), (0, .ref (a 0)), (1, .long x1), (3, .long x3)]) hE dX5_reduce_15 (by decide) rfl ?_
    refine j_iconst (v := 0) hE dX5_reduce_17 (by decide) ?_
    refine j_istore (lv' := [(9, .int 0), (7, .long x1), (5, .long x3), (0, .ref (a 0)), (1, .long x1), (3, .long x3)]) hE dX5_reduce_18 (by decide) rfl ?_
    exact j_sub [3, 4, 5, 2, 1, 0] rfl (j_Odds_reduce_20 E g a od_z x1 x3 res hE hq FU od_y x3 x1 0 hf)
  · refine j_lload_n hE dX5_reduce_9 rfl 2 rfl ?_
    refine j_lneg hE dX5_reduce_10 ?_
    refine j_goto (tgt := 15) hE dX5_reduce_11 (by decide) ?_
    refine j_lstore (lv' := [(7, .long (-x1)), (5, .long x3), (0, .ref (a 0)), (1, .long x1), (3, .long x3)]) hE dX5_reduce_15 (by decide) rfl ?_
    refine j_iconst (v := 0) hE dX5_reduce_17 (by decide) ?_
    refine j_istore (lv' := [(9, .int 0), (7, .long (-x1)), (5, .long x3), (0, .ref (a 0)), (1, .long x1), (3, .long x3)]) hE dX5_reduce_18 (by decide) rfl ?_
    exact j_sub [3, 4, 5, 2, 1, 0] rfl (j_Odds_reduce_20 E g a od_z x1 x3 res hE hq FU od_y x3 (-x1) 0 hf)
def rm_Odds_seekRate : Room := { frames := 3, cells := 0, slots := 0, locals := 80 }
def f_Odds_seekRate_21 (ki_z : jZ) (no_z : jZ) (x2 : Int32) (x3 : Int32) (x4 : Int32)  : Nat → jY → Int64 → Int64 → Int32 → Option (jY)
  | 0, _, _, _, _ => none
  | n + 1, od_y, v5, v7, v9 => (if 5 ≤ v9 then (f_Odds_reduce od_y v7 (10 * v5)).bind fun q4 => some q4
    else (ix v9 5).bind fun _ => (ix v9 5).bind fun _ => f_Odds_seekRate_21 ki_z no_z x2 x3 x4 n od_y v5 (v7 + ((od_y 0 (Int32.toNatClampNeg v9)) * (Int32.toInt64 (ki_z 4 (Int32.toNatClampNeg v9))))) (v9 + 1))
def f_Odds_seekRate (od_y : jY) (ki_z : jZ) (no_z : jZ) (x2 : Int32) (x3 : Int32) (x4 : Int32) : Option (jY) := (f_Odds_weighAllOdds_likelies od_y ki_z no_z x2 x3 x4).bind fun q1 => f_Odds_seekRate_21 ki_z no_z x2 x3 x4 FU q1.1 q1.2 0 0
set_option maxRecDepth 100000 in
theorem j_Odds_seekRate_21 (E : jT) (g : jG) (a : Nat → Nat) (b : Nat → Nat) (od_z : jZ) (ro_z : jZ) (ki_z : jZ) (ru_z : jZ) (ru_y : jY) (no_z : jZ) (x2 : Int32) (x3 : Int32) (x4 : Int32) (res : jY) (hE : jOk E g RX5 cX5_seekRate 10 (none : Option Jvm.ClassFile.FieldType) rm_Odds_seekRate) (hq : jEnd E g none (([n_Odds g a od_z res, n_Road g b ro_z, n_Kinds g (fun i => b (i + 8)) ki_z, n_Rule g (fun i => b (i + 14)) ru_z ru_y, n_Notes g (fun i => b (i + 17)) no_z] : List va_W)) 0 0)  : ∀ (n : Nat) (od_y : jY) (v5 : Int64) (v7 : Int64) (v9 : Int32), f_Odds_seekRate_21 ki_z no_z x2 x3 x4 n od_y v5 v7 v9 = some res → J E g 0 0 (([n_Odds g a od_z od_y, n_Road g b ro_z, n_Kinds g (fun i => b (i + 8)) ki_z, n_Rule g (fun i => b (i + 14)) ru_z ru_y, n_Notes g (fun i => b (i + 17)) no_z] : List va_W)) [(0, .ref (a 0)), (1, .ref (b 0)), (5, .long v5), (7, .long v7), (9, .int v9)] 21 [] := by
  intro n
  induction n with
  | zero =>
    intro od_y v5 v7 v9 hf
    rw [f_Odds_seekRate_21] at hf
    cases hf
  | succ n ih =>
    intro od_y v5 v7 v9 hf
    rw [f_Odds_seekRate_21] at hf
    refine j_iload hE dX5_seekRate_21 4 rfl ?_
    refine j_iconst (v := 5) hE dX5_seekRate_23 (by decide) ?_
    refine j_icmp_ge (tgt := 57) hE hf dX5_seekRate_24 (by decide) (fun c3 hf => ?_) (fun c3 hf => ?_)
    · refine j_aload_n hE dX5_seekRate_57 rfl 0 rfl ?_
      refine j_lload hE dX5_seekRate_58 3 rfl ?_
      refine j_ldc2 hE co_Odds_64 dX5_seekRate_60 ?_
      refine j_lload hE dX5_seekRate_63 2 rfl ?_
      refine j_lmul hE dX5_seekRate_65 ?_
      obtain ⟨q4, hc5, hf⟩ := bind_of hf
      refine j_callV (ws' := ([n_Odds g a od_z q4, n_Road g b ro_z, n_Kinds g (fun i => b (i + 8)) ki_z, n_Rule g (fun i => b (i + 14)) ru_z ru_y, n_Notes g (fun i => b (i + 17)) no_z] : List va_W)) (As := [.long v7, .long (10 * v5)]) (rest := []) (st2 := []) hE (fun l => c_Odds_reduce l g a od_z od_y v7 (10 * v5) q4 hc5) cd_X5_reduce cv_X5_reduce ml_Odds_66 rfl rfl rfl (wg_Odds_0 _ _ _ _) ⟨⟨Nat.le_of_ble_eq_true rfl, Nat.le_of_ble_eq_true rfl⟩, ⟨Nat.zero_le _, Nat.zero_le _⟩, rfl, rfl⟩ [0] rfl rfl rfl (Nat.le_of_ble_eq_true rfl) rfl dX5_seekRate_66 ?_
      obtain rfl := Option.some.inj hf
      exact j_vret hE hq rfl rfl dX5_seekRate_69
    · refine j_lload hE dX5_seekRate_27 3 rfl ?_
      refine j_aload_n hE dX5_seekRate_29 rfl 0 rfl ?_
      refine j_get (v := .ref (a 1)) hE lg_Odds_9 0 rfl 0 (wg_Odds_0 g a od_z od_y) rfl dX5_seekRate_30 ?_
      refine j_iload hE dX5_seekRate_33 4 rfl ?_
      refine j_lald hE hf 0 rfl 1 (wg_Odds_1 g a od_z od_y) dX5_seekRate_35 (fun hf => ?_)
      refine j_aload_n hE dX5_seekRate_36 rfl 1 rfl ?_
      refine j_get (v := .ref (b 8)) hE lg_Odds_32 1 rfl 0 (wg_Road_0 g b ro_z) rfl dX5_seekRate_37 ?_
      refine j_get (v := .ref (b 11)) hE lg_Odds_61 2 rfl 0 (wg_Kinds_0 g (fun i => b (i + 8)) ki_z) rfl dX5_seekRate_40 ?_
      refine j_iload hE dX5_seekRate_43 4 rfl ?_
      refine j_iald hE hf 2 rfl 3 (wg_Kinds_3 g (fun i => b (i + 8)) ki_z) dX5_seekRate_45 (fun hf => ?_)
      refine j_i2l hE dX5_seekRate_46 ?_
      refine j_lmul hE dX5_seekRate_47 ?_
      refine j_ladd hE dX5_seekRate_48 ?_
      refine j_lstore (lv' := [(7, .long (v7 + ((od_y 0 (Int32.toNatClampNeg v9)) * (Int32.toInt64 (ki_z 4 (Int32.toNatClampNeg v9)))))), (0, .ref (a 0)), (1, .ref (b 0)), (5, .long v5), (9, .int v9)]) hE dX5_seekRate_49 (by decide) rfl ?_
      refine j_iinc (v := (v9 + 1)) (lv' := [(9, .int (v9 + 1)), (7, .long (v7 + ((od_y 0 (Int32.toNatClampNeg v9)) * (Int32.toInt64 (ki_z 4 (Int32.toNatClampNeg v9)))))), (0, .ref (a 0)), (1, .ref (b 0)), (5, .long v5)]) hE dX5_seekRate_51 4 rfl rfl (by decide) rfl ?_
      refine j_goto (tgt := 21) hE dX5_seekRate_54 (by decide) ?_
      exact j_sub [2, 3, 4, 1, 0] rfl (ih od_y v5 (v7 + ((od_y 0 (Int32.toNatClampNeg v9)) * (Int32.toInt64 (ki_z 4 (Int32.toNatClampNeg v9))))) (v9 + 1) hf)
set_option maxRecDepth 100000 in
theorem c_Odds_seekRate (l : Launch) (g : jG) (a : Nat → Nat) (b : Nat → Nat) (od_z : jZ) (od_y : jY) (ro_z : jZ) (ki_z : jZ) (ru_z : jZ) (ru_y : jY) (no_z : jZ) (x2 : Int32) (x3 : Int32) (x4 : Int32) (res : jY) (hf : f_Odds_seekRate od_y ki_z no_z x2 x3 x4 = some res) : MC l g yX5_seekRate cX5_seekRate 10 (none : Option Jvm.ClassFile.FieldType) rm_Odds_seekRate [.ref (a 0), .ref (b 0), .int x2, .int x3, .int x4] (([n_Odds g a od_z od_y, n_Road g b ro_z, n_Kinds g (fun i => b (i + 8)) ki_z, n_Rule g (fun i => b (i + 14)) ru_z ru_y, n_Notes g (fun i => b (i + 17)) no_z] : List va_W)) none (([n_Odds g a od_z res, n_Road g b ro_z, n_Kinds g (fun i => b (i + 8)) ki_z, n_Rule g (fun i => b (i + 14)) ru_z ru_y, n_Notes g (fun i => b (i + 17)) no_z] : List va_W)) 0 0 := by
  refine MC_of (own := RX5) (lv := [(0, .ref (a 0)), (1, .ref (b 0)), (2, .int x2), (3, .int x3), (4, .int x4)]) (by decide) rfl (Nat.le_of_ble_eq_true rfl) rfl rfl (fun E hE hq => ?_)
  unfold f_Odds_seekRate at hf
  refine j_aload_n hE dX5_seekRate_0 rfl 0 rfl ?_
  refine j_aload_n hE dX5_seekRate_1 rfl 0 rfl ?_
  refine j_get (v := .ref (a 1)) hE lg_Odds_9 0 rfl 0 (wg_Odds_0 g a od_z od_y) rfl dX5_seekRate_2 ?_
  refine j_aload_n hE dX5_seekRate_5 rfl 1 rfl ?_
  refine j_iload_n hE dX5_seekRate_6 rfl 2 rfl ?_
  refine j_iload_n hE dX5_seekRate_7 rfl 3 rfl ?_
  refine j_iload hE dX5_seekRate_8 4 rfl ?_
  obtain ⟨q1, hc2, hf⟩ := bind_of hf
  refine j_callV (ws' := ([n_Odds g a od_z q1.1, n_Road g b ro_z, n_Kinds g (fun i => b (i + 8)) ki_z, n_Rule g (fun i => b (i + 14)) ru_z ru_y, n_Notes g (fun i => b (i + 17)) no_z] : List va_W)) (As := [.ref (a 1), .ref (b 0), .int x2, .int x3, .int x4]) (rest := []) (st2 := [.long q1.2]) hE (fun l => c_Odds_weighAllOdds_likelies l g a b od_z od_y ro_z ki_z ru_z ru_y no_z x2 x3 x4 q1 hc2) cd_X5_weighAll cv_X5_weighAll ml_Odds_57 rfl rfl rfl (wg_Odds_0 _ _ _ _) ⟨⟨Nat.le_of_ble_eq_true rfl, Nat.le_of_ble_eq_true rfl⟩, ⟨Nat.zero_le _, Nat.zero_le _⟩, rfl, rfl⟩ [0, 1, 2, 3, 4] rfl rfl rfl (Nat.le_of_ble_eq_true rfl) rfl dX5_seekRate_10 ?_
  refine j_lstore (lv' := [(5, .long q1.2), (0, .ref (a 0)), (1, .ref (b 0)), (2, .int x2), (3, .int x3), (4, .int x4)]) hE dX5_seekRate_13 (by decide) rfl ?_
  refine j_lconst (v := 0) hE dX5_seekRate_15 (by decide) ?_
  refine j_lstore (lv' := [(7, .long 0), (5, .long q1.2), (0, .ref (a 0)), (1, .ref (b 0)), (2, .int x2), (3, .int x3), (4, .int x4)]) hE dX5_seekRate_16 (by decide) rfl ?_
  refine j_iconst (v := 0) hE dX5_seekRate_18 (by decide) ?_
  refine j_istore (lv' := [(9, .int 0), (7, .long 0), (5, .long q1.2), (0, .ref (a 0)), (1, .ref (b 0)), (2, .int x2), (3, .int x3), (4, .int x4)]) hE dX5_seekRate_19 (by decide) rfl ?_
  exact j_sub [3, 4, 2, 1, 0] rfl (j_Odds_seekRate_21 E g a b od_z ro_z ki_z ru_z ru_y no_z x2 x3 x4 res hE hq FU q1.1 q1.2 0 0 hf)
def rm_Odds_mostLikely : Room := { frames := 0, cells := 0, slots := 0, locals := 0 }
def f_Odds_mostLikely_4 (od_y : jY)   : Nat → Int32 → Int32 → Option (Int32)
  | 0, _, _ => none
  | n + 1, v1, v2 => (if 5 ≤ v2 then some v1
    else (ix v2 5).bind fun _ => (ix v1 5).bind fun _ => (if (lg_cmp (od_y 0 (Int32.toNatClampNeg v2)) (od_y 0 (Int32.toNatClampNeg v1))) ≤ 0 then f_Odds_mostLikely_4 od_y n v1 (v2 + 1)
    else f_Odds_mostLikely_4 od_y n v2 (v2 + 1)))
def f_Odds_mostLikely (od_y : jY)  : Option (Int32) := f_Odds_mostLikely_4 od_y FU 0 1
set_option maxRecDepth 100000 in
theorem j_Odds_mostLikely_4 (E : jT) (g : jG) (a : Nat → Nat) (od_z : jZ) (od_y : jY)  (res : Int32) (hE : jOk E g RX5 cX5_mostLikely 3 (some .int) rm_Odds_mostLikely) (hq : jEnd E g (some (.int res)) (([n_Odds g a od_z od_y] : List va_W)) 0 0)  : ∀ (n : Nat) (v1 : Int32) (v2 : Int32), f_Odds_mostLikely_4 od_y n v1 v2 = some res → J E g 0 0 (([n_Odds g a od_z od_y] : List va_W)) [(0, .ref (a 0)), (1, .int v1), (2, .int v2)] 4 [] := by
  intro n
  induction n with
  | zero =>
    intro v1 v2 hf
    rw [f_Odds_mostLikely_4] at hf
    cases hf
  | succ n ih =>
    intro v1 v2 hf
    rw [f_Odds_mostLikely_4] at hf
    refine j_iload_n hE dX5_mostLikely_4 rfl 2 rfl ?_
    refine j_iconst (v := 5) hE dX5_mostLikely_5 (by decide) ?_
    refine j_icmp_ge (tgt := 33) hE hf dX5_mostLikely_6 (by decide) (fun c1 hf => ?_) (fun c1 hf => ?_)
    · refine j_iload_n hE dX5_mostLikely_33 rfl 1 rfl ?_
      obtain rfl := Option.some.inj hf
      exact j_iret hE hq rfl rfl dX5_mostLikely_34
    · refine j_aload_n hE dX5_mostLikely_9 rfl 0 rfl ?_
      refine j_get (v := .ref (a 1)) hE lg_Odds_9 0 rfl 0 (wg_Odds_0 g a od_z od_y) rfl dX5_mostLikely_10 ?_
      refine j_iload_n hE dX5_mostLikely_13 rfl 2 rfl ?_
      refine j_lald hE hf 0 rfl 1 (wg_Odds_1 g a od_z od_y) dX5_mostLikely_14 (fun hf => ?_)
      refine j_aload_n hE dX5_mostLikely_15 rfl 0 rfl ?_
      refine j_get (v := .ref (a 1)) hE lg_Odds_9 0 rfl 0 (wg_Odds_0 g a od_z od_y) rfl dX5_mostLikely_16 ?_
      refine j_iload_n hE dX5_mostLikely_19 rfl 1 rfl ?_
      refine j_lald hE hf 0 rfl 1 (wg_Odds_1 g a od_z od_y) dX5_mostLikely_20 (fun hf => ?_)
      refine j_lcmp hE dX5_mostLikely_21 ?_
      refine j_if_le (tgt := 27) hE hf dX5_mostLikely_22 (by decide) (fun c4 hf => ?_) (fun c4 hf => ?_)
      · refine j_iinc (v := (v2 + 1)) (lv' := [(2, .int (v2 + 1)), (0, .ref (a 0)), (1, .int v1)]) hE dX5_mostLikely_27 2 rfl rfl (by decide) rfl ?_
        refine j_goto (tgt := 4) hE dX5_mostLikely_30 (by decide) ?_
        exact j_sub [1, 2, 0] rfl (ih v1 (v2 + 1) hf)
      · refine j_iload_n hE dX5_mostLikely_25 rfl 2 rfl ?_
        refine j_istore_n (lv' := [(1, .int v2), (0, .ref (a 0)), (2, .int v2)]) hE dX5_mostLikely_26 rfl (by decide) rfl ?_
        refine j_iinc (v := (v2 + 1)) (lv' := [(2, .int (v2 + 1)), (1, .int v2), (0, .ref (a 0))]) hE dX5_mostLikely_27 2 rfl rfl (by decide) rfl ?_
        refine j_goto (tgt := 4) hE dX5_mostLikely_30 (by decide) ?_
        exact j_sub [2, 1, 0] rfl (ih v2 (v2 + 1) hf)
set_option maxRecDepth 100000 in
theorem c_Odds_mostLikely (l : Launch) (g : jG) (a : Nat → Nat) (od_z : jZ) (od_y : jY)  (res : Int32) (hf : f_Odds_mostLikely od_y = some res) : MC l g yX5_mostLikely cX5_mostLikely 3 (some .int) rm_Odds_mostLikely [.ref (a 0)] (([n_Odds g a od_z od_y] : List va_W)) (some (.int res)) (([n_Odds g a od_z od_y] : List va_W)) 0 0 := by
  refine MC_of (own := RX5) (lv := [(0, .ref (a 0))]) (by decide) rfl (Nat.le_of_ble_eq_true rfl) rfl rfl (fun E hE hq => ?_)
  unfold f_Odds_mostLikely at hf
  refine j_iconst (v := 0) hE dX5_mostLikely_0 (by decide) ?_
  refine j_istore_n (lv' := [(1, .int 0), (0, .ref (a 0))]) hE dX5_mostLikely_1 rfl (by decide) rfl ?_
  refine j_iconst (v := 1) hE dX5_mostLikely_2 (by decide) ?_
  refine j_istore_n (lv' := [(2, .int 1), (1, .int 0), (0, .ref (a 0))]) hE dX5_mostLikely_3 rfl (by decide) rfl ?_
  exact j_sub [2, 1, 0] rfl (j_Odds_mostLikely_4 E g a od_z od_y res hE hq FU 0 1 hf)
def rm_Odds_seekSpan : Room := { frames := 3, cells := 0, slots := 0, locals := 80 }
def f_Odds_seekSpan_107 (ki_z : jZ) (no_z : jZ) (x2 : Int32) (x3 : Int32) (x4 : Int32) (k24 : jZ → jY → Int64 → Int64 → Int32 → Int32 → Option (jZ × jY × Int32)) (od_z : jZ) (od_y : jY) (v5 : Int64) (v7 : Int64) (v10 : Int32) (v11 : Int32) (s0 : Int32) : Option (jZ × jY × Int32) := (ix v11 5).bind fun _ => (ix v11 5).bind fun _ => k24 (up2 od_z 5 0 s0) (up2 od_y 0 (Int32.toNatClampNeg v11) 0) v5 (v7 + (od_y 0 (Int32.toNatClampNeg v11))) 1 (v10 + 1)
def f_Odds_seekSpan_24 (ki_z : jZ) (no_z : jZ) (x2 : Int32) (x3 : Int32) (x4 : Int32)  : Nat → jZ → jY → Int64 → Int64 → Int32 → Int32 → Option (jZ × jY × Int32)
  | 0, _, _, _, _, _, _ => none
  | n + 1, od_z, od_y, v5, v7, v9, v10 => (if 5 ≤ v10 then (bz v9).bind fun _ => some (od_z, od_y, v9)
    else (if 0 ≤ (lg_cmp (20 * v7) (19 * v5)) then (bz v9).bind fun _ => some (od_z, od_y, v9)
    else (f_Odds_mostLikely od_y).bind fun q7 => (ix q7 5).bind fun _ => (if v9 = 0 then (if v9 = 0 then f_Odds_seekSpan_107 ki_z no_z x2 x3 x4 (fun od_z od_y v5 v7 v9 v10 => f_Odds_seekSpan_24 ki_z no_z x2 x3 x4 n od_z od_y v5 v7 v9 v10) (up2 od_z 4 0 (ki_z 4 (Int32.toNatClampNeg q7))) od_y v5 v7 v10 q7 (ki_z 4 (Int32.toNatClampNeg q7))
    else f_Odds_seekSpan_107 ki_z no_z x2 x3 x4 (fun od_z od_y v5 v7 v9 v10 => f_Odds_seekSpan_24 ki_z no_z x2 x3 x4 n od_z od_y v5 v7 v9 v10) (up2 od_z 4 0 (ki_z 4 (Int32.toNatClampNeg q7))) od_y v5 v7 v10 q7 (if (od_z 5 0) < (ki_z 4 (Int32.toNatClampNeg q7)) then (ki_z 4 (Int32.toNatClampNeg q7)) else (od_z 5 0)))
    else (if v9 = 0 then f_Odds_seekSpan_107 ki_z no_z x2 x3 x4 (fun od_z od_y v5 v7 v9 v10 => f_Odds_seekSpan_24 ki_z no_z x2 x3 x4 n od_z od_y v5 v7 v9 v10) (up2 od_z 4 0 (if (ki_z 4 (Int32.toNatClampNeg q7)) < (od_z 4 0) then (ki_z 4 (Int32.toNatClampNeg q7)) else (od_z 4 0))) od_y v5 v7 v10 q7 (ki_z 4 (Int32.toNatClampNeg q7))
    else f_Odds_seekSpan_107 ki_z no_z x2 x3 x4 (fun od_z od_y v5 v7 v9 v10 => f_Odds_seekSpan_24 ki_z no_z x2 x3 x4 n od_z od_y v5 v7 v9 v10) (up2 od_z 4 0 (if (ki_z 4 (Int32.toNatClampNeg q7)) < (od_z 4 0) then (ki_z 4 (Int32.toNatClampNeg q7)) else (od_z 4 0))) od_y v5 v7 v10 q7 (if (od_z 5 0) < (ki_z 4 (Int32.toNatClampNeg q7)) then (ki_z 4 (Int32.toNatClampNeg q7)) else (od_z 5 0))))))
def f_Odds_seekSpan (od_z : jZ) (od_y : jY) (ki_z : jZ) (no_z : jZ) (x2 : Int32) (x3 : Int32) (x4 : Int32) : Option (jZ × jY × Int32) := (f_Odds_weighAllOdds_likelies od_y ki_z no_z x2 x3 x4).bind fun q1 => f_Odds_seekSpan_24 ki_z no_z x2 x3 x4 FU od_z q1.1 q1.2 0 0 0
set_option maxRecDepth 100000 in
theorem j_Odds_seekSpan_107 (E : jT) (g : jG) (a : Nat → Nat) (b : Nat → Nat) (ro_z : jZ) (ki_z : jZ) (ru_z : jZ) (ru_y : jY) (no_z : jZ) (x2 : Int32) (x3 : Int32) (x4 : Int32) (res : jZ × jY × Int32) (hE : jOk E g RX5 cX5_seekSpan 13 (some .boolean) rm_Odds_seekSpan) (hq : jEnd E g (some (.int res.2.2)) (([n_Odds g a res.1 res.2.1, n_Road g b ro_z, n_Kinds g (fun i => b (i + 8)) ki_z, n_Rule g (fun i => b (i + 14)) ru_z ru_y, n_Notes g (fun i => b (i + 17)) no_z] : List va_W)) 0 0) (k24 : jZ → jY → Int64 → Int64 → Int32 → Int32 → Option (jZ × jY × Int32)) (hk24 : ∀ (od_z : jZ) (od_y : jY) (v5 : Int64) (v7 : Int64) (v9 : Int32) (v10 : Int32), k24 od_z od_y v5 v7 v9 v10 = some res → J E g 0 0 (([n_Odds g a od_z od_y, n_Road g b ro_z, n_Kinds g (fun i => b (i + 8)) ki_z, n_Rule g (fun i => b (i + 14)) ru_z ru_y, n_Notes g (fun i => b (i + 17)) no_z] : List va_W)) [(0, .ref (a 0)), (1, .ref (b 0)), (5, .long v5), (7, .long v7), (9, .int v9), (10, .int v10)] 24 []) (od_z : jZ) (od_y : jY) (v5 : Int64) (v7 : Int64) (v10 : Int32) (v11 : Int32) (s0 : Int32) (hf : f_Odds_seekSpan_107 ki_z no_z x2 x3 x4 k24 od_z od_y v5 v7 v10 v11 s0 = some res) : J E g 0 0 (([n_Odds g a od_z od_y, n_Road g b ro_z, n_Kinds g (fun i => b (i + 8)) ki_z, n_Rule g (fun i => b (i + 14)) ru_z ru_y, n_Notes g (fun i => b (i + 17)) no_z] : List va_W)) [(0, .ref (a 0)), (1, .ref (b 0)), (5, .long v5), (7, .long v7), (10, .int v10), (11, .int v11)] 107 [.int s0, .ref (a 0)] := by
  unfold f_Odds_seekSpan_107 at hf
  refine j_put (v := .int s0) (ws' := ([n_Odds g a (up2 od_z 5 0 s0) od_y, n_Road g b ro_z, n_Kinds g (fun i => b (i + 8)) ki_z, n_Rule g (fun i => b (i + 14)) ru_z ru_y, n_Notes g (fun i => b (i + 17)) no_z] : List va_W)) hE lp_Odds_29 0 rfl 0 (wg_Odds_0 g a od_z od_y) rfl rfl (Nat.le_of_ble_eq_true rfl) (wp_Odds_5 g a od_z od_y s0) rfl dX5_seekSpan_107 ?_
  refine j_iconst (v := 1) hE dX5_seekSpan_110 (by decide) ?_
  refine j_istore (lv' := [(9, .int 1), (0, .ref (a 0)), (1, .ref (b 0)), (5, .long v5), (7, .long v7), (10, .int v10), (11, .int v11)]) hE dX5_seekSpan_111 (by decide) rfl ?_
  refine j_lload hE dX5_seekSpan_113 4 rfl ?_
  refine j_aload_n hE dX5_seekSpan_115 rfl 1 rfl ?_
  refine j_get (v := .ref (a 1)) hE lg_Odds_9 0 rfl 0 (wg_Odds_0 g a (up2 od_z 5 0 s0) od_y) rfl dX5_seekSpan_116 ?_
  refine j_iload hE dX5_seekSpan_119 6 rfl ?_
  refine j_lald hE hf 0 rfl 1 (wg_Odds_1 g a (up2 od_z 5 0 s0) od_y) dX5_seekSpan_121 (fun hf => ?_)
  refine j_ladd hE dX5_seekSpan_122 ?_
  refine j_lstore (lv' := [(7, .long (v7 + (od_y 0 (Int32.toNatClampNeg v11)))), (9, .int 1), (0, .ref (a 0)), (1, .ref (b 0)), (5, .long v5), (10, .int v10), (11, .int v11)]) hE dX5_seekSpan_123 (by decide) rfl ?_
  refine j_aload_n hE dX5_seekSpan_125 rfl 2 rfl ?_
  refine j_get (v := .ref (a 1)) hE lg_Odds_9 0 rfl 0 (wg_Odds_0 g a (up2 od_z 5 0 s0) od_y) rfl dX5_seekSpan_126 ?_
  refine j_iload hE dX5_seekSpan_129 6 rfl ?_
  refine j_lconst (v := 0) hE dX5_seekSpan_131 (by decide) ?_
  refine j_last (ws' := ([n_Odds g a (up2 od_z 5 0 s0) (up2 od_y 0 (Int32.toNatClampNeg v11) 0), n_Road g b ro_z, n_Kinds g (fun i => b (i + 8)) ki_z, n_Rule g (fun i => b (i + 14)) ru_z ru_y, n_Notes g (fun i => b (i + 17)) no_z] : List va_W)) hE hf 0 rfl 1 (wg_Odds_1 g a (up2 od_z 5 0 s0) od_y) (wa_Odds_1 g a (up2 od_z 5 0 s0) od_y (Int32.toNatClampNeg v11) 0) rfl dX5_seekSpan_132 (fun hf => ?_)
  refine j_iinc (v := (v10 + 1)) (lv' := [(10, .int (v10 + 1)), (7, .long (v7 + (od_y 0 (Int32.toNatClampNeg v11)))), (9, .int 1), (0, .ref (a 0)), (1, .ref (b 0)), (5, .long v5), (11, .int v11)]) hE dX5_seekSpan_133 5 rfl rfl (by decide) rfl ?_
  refine j_goto (tgt := 24) hE dX5_seekSpan_136 (by decide) ?_
  exact j_sub [3, 4, 5, 1, 2, 0] rfl (hk24 (up2 od_z 5 0 s0) (up2 od_y 0 (Int32.toNatClampNeg v11) 0) v5 (v7 + (od_y 0 (Int32.toNatClampNeg v11))) 1 (v10 + 1) hf)
set_option maxRecDepth 100000 in
theorem j_Odds_seekSpan_24 (E : jT) (g : jG) (a : Nat → Nat) (b : Nat → Nat) (ro_z : jZ) (ki_z : jZ) (ru_z : jZ) (ru_y : jY) (no_z : jZ) (x2 : Int32) (x3 : Int32) (x4 : Int32) (res : jZ × jY × Int32) (hE : jOk E g RX5 cX5_seekSpan 13 (some .boolean) rm_Odds_seekSpan) (hq : jEnd E g (some (.int res.2.2)) (([n_Odds g a res.1 res.2.1, n_Road g b ro_z, n_Kinds g (fun i => b (i + 8)) ki_z, n_Rule g (fun i => b (i + 14)) ru_z ru_y, n_Notes g (fun i => b (i + 17)) no_z] : List va_W)) 0 0)  : ∀ (n : Nat) (od_z : jZ) (od_y : jY) (v5 : Int64) (v7 : Int64) (v9 : Int32) (v10 : Int32), f_Odds_seekSpan_24 ki_z no_z x2 x3 x4 n od_z od_y v5 v7 v9 v10 = some res → J E g 0 0 (([n_Odds g a od_z od_y, n_Road g b ro_z, n_Kinds g (fun i => b (i + 8)) ki_z, n_Rule g (fun i => b (i + 14)) ru_z ru_y, n_Notes g (fun i => b (i + 17)) no_z] : List va_W)) [(0, .ref (a 0)), (1, .ref (b 0)), (5, .long v5), (7, .long v7), (9, .int v9), (10, .int v10)] 24 [] := by
  intro n
  induction n with
  | zero =>
    intro od_z od_y v5 v7 v9 v10 hf
    rw [f_Odds_seekSpan_24] at hf
    cases hf
  | succ n ih =>
    intro od_z od_y v5 v7 v9 v10 hf
    rw [f_Odds_seekSpan_24] at hf
    refine j_iload hE dX5_seekSpan_24 5 rfl ?_
    refine j_iconst (v := 5) hE dX5_seekSpan_26 (by decide) ?_
    refine j_icmp_ge (tgt := 139) hE hf dX5_seekSpan_27 (by decide) (fun c3 hf => ?_) (fun c3 hf => ?_)
    · refine j_iload hE dX5_seekSpan_139 4 rfl ?_
      obtain ⟨b4, hf⟩ := bz_of hf
      obtain rfl := Option.some.inj hf
      exact j_zret_c hE b4 hq rfl rfl dX5_seekSpan_141
    · refine j_ldc2 hE co_Odds_70 dX5_seekSpan_30 ?_
      refine j_lload hE dX5_seekSpan_33 3 rfl ?_
      refine j_lmul hE dX5_seekSpan_35 ?_
      refine j_ldc2 hE co_Odds_72 dX5_seekSpan_36 ?_
      refine j_lload hE dX5_seekSpan_39 2 rfl ?_
      refine j_lmul hE dX5_seekSpan_41 ?_
      refine j_lcmp hE dX5_seekSpan_42 ?_
      refine j_if_ge (tgt := 139) hE hf dX5_seekSpan_43 (by decide) (fun c5 hf => ?_) (fun c5 hf => ?_)
      · refine j_iload hE dX5_seekSpan_139 4 rfl ?_
        obtain ⟨b6, hf⟩ := bz_of hf
        obtain rfl := Option.some.inj hf
        exact j_zret_c hE b6 hq rfl rfl dX5_seekSpan_141
      · refine j_aload_n hE dX5_seekSpan_46 rfl 0 rfl ?_
        obtain ⟨q7, hc8, hf⟩ := bind_of hf
        refine j_callV (ws' := ([n_Odds g a od_z od_y, n_Road g b ro_z, n_Kinds g (fun i => b (i + 8)) ki_z, n_Rule g (fun i => b (i + 14)) ru_z ru_y, n_Notes g (fun i => b (i + 17)) no_z] : List va_W)) (As := []) (rest := []) (st2 := [.int q7]) hE (fun l => c_Odds_mostLikely l g a od_z od_y q7 hc8) cd_X5_mostLikely cv_X5_mostLikely ml_Odds_74 rfl rfl rfl (wg_Odds_0 _ _ _ _) ⟨⟨Nat.le_of_ble_eq_true rfl, Nat.le_of_ble_eq_true rfl⟩, ⟨Nat.zero_le _, Nat.zero_le _⟩, rfl, rfl⟩ [0] rfl rfl rfl (Nat.le_of_ble_eq_true rfl) rfl dX5_seekSpan_47 ?_
        refine j_istore (lv' := [(11, .int q7), (0, .ref (a 0)), (1, .ref (b 0)), (5, .long v5), (7, .long v7), (9, .int v9), (10, .int v10)]) hE dX5_seekSpan_50 (by decide) rfl ?_
        refine j_aload_n hE dX5_seekSpan_52 rfl 2 rfl ?_
        refine j_get (v := .ref (b 8)) hE lg_Odds_32 1 rfl 0 (wg_Road_0 g b ro_z) rfl dX5_seekSpan_53 ?_
        refine j_get (v := .ref (b 11)) hE lg_Odds_61 2 rfl 0 (wg_Kinds_0 g (fun i => b (i + 8)) ki_z) rfl dX5_seekSpan_56 ?_
        refine j_iload hE dX5_seekSpan_59 0 rfl ?_
        refine j_iald hE hf 2 rfl 3 (wg_Kinds_3 g (fun i => b (i + 8)) ki_z) dX5_seekSpan_61 (fun hf => ?_)
        refine j_istore (lv' := [(12, .int (ki_z 4 (Int32.toNatClampNeg q7))), (11, .int q7), (0, .ref (a 0)), (1, .ref (b 0)), (5, .long v5), (7, .long v7), (9, .int v9), (10, .int v10)]) hE dX5_seekSpan_62 (by decide) rfl ?_
        refine j_aload_n hE dX5_seekSpan_64 rfl 2 rfl ?_
        refine j_iload hE dX5_seekSpan_65 6 rfl ?_
        refine j_if_eq (tgt := 82) hE hf dX5_seekSpan_67 (by decide) (fun c10 hf => ?_) (fun c10 hf => ?_)
        · refine j_iload hE dX5_seekSpan_82 0 rfl ?_
          refine j_put (v := .int (ki_z 4 (Int32.toNatClampNeg q7))) (ws' := ([n_Odds g a (up2 od_z 4 0 (ki_z 4 (Int32.toNatClampNeg q7))) od_y, n_Road g b ro_z, n_Kinds g (fun i => b (i + 8)) ki_z, n_Rule g (fun i => b (i + 14)) ru_z ru_y, n_Notes g (fun i => b (i + 17)) no_z] : List va_W)) hE lp_Odds_25 0 rfl 0 (wg_Odds_0 g a od_z od_y) rfl rfl (Nat.le_of_ble_eq_true rfl) (wp_Odds_4 g a od_z od_y (ki_z 4 (Int32.toNatClampNeg q7))) rfl dX5_seekSpan_84 ?_
          refine j_aload_n hE dX5_seekSpan_87 rfl 2 rfl ?_
          refine j_iload hE dX5_seekSpan_88 6 rfl ?_
          refine j_if_eq (tgt := 105) hE hf dX5_seekSpan_90 (by decide) (fun c11 hf => ?_) (fun c11 hf => ?_)
          · refine j_iload hE dX5_seekSpan_105 0 rfl ?_
            exact j_sub [2, 3, 4, 5, 7, 1] rfl (j_Odds_seekSpan_107 E g a b ro_z ki_z ru_z ru_y no_z x2 x3 x4 res hE hq (fun od_z od_y v5 v7 v9 v10 => f_Odds_seekSpan_24 ki_z no_z x2 x3 x4 n od_z od_y v5 v7 v9 v10) (fun od_z od_y v5 v7 v9 v10 hf => ih od_z od_y v5 v7 v9 v10 hf) (up2 od_z 4 0 (ki_z 4 (Int32.toNatClampNeg q7))) od_y v5 v7 v10 q7 (ki_z 4 (Int32.toNatClampNeg q7)) hf)
          · refine j_aload_n hE dX5_seekSpan_93 rfl 2 rfl ?_
            refine j_get (v := .int (od_z 5 0)) hE lg_Odds_29 0 rfl 0 (wg_Odds_0 g a (up2 od_z 4 0 (ki_z 4 (Int32.toNatClampNeg q7))) od_y) rfl dX5_seekSpan_94 ?_
            refine j_iload hE dX5_seekSpan_97 0 rfl ?_
            refine j_mmax hE fm_mmax ml_Odds_83 ⟨⟨Nat.le_of_ble_eq_true rfl, Nat.le_of_ble_eq_true rfl⟩, Nat.zero_le _, Nat.zero_le _⟩ dX5_seekSpan_99 ?_
            refine j_goto (tgt := 107) hE dX5_seekSpan_102 (by decide) ?_
            exact j_sub [2, 3, 4, 5, 7, 1] rfl (j_Odds_seekSpan_107 E g a b ro_z ki_z ru_z ru_y no_z x2 x3 x4 res hE hq (fun od_z od_y v5 v7 v9 v10 => f_Odds_seekSpan_24 ki_z no_z x2 x3 x4 n od_z od_y v5 v7 v9 v10) (fun od_z od_y v5 v7 v9 v10 hf => ih od_z od_y v5 v7 v9 v10 hf) (up2 od_z 4 0 (ki_z 4 (Int32.toNatClampNeg q7))) od_y v5 v7 v10 q7 (if (od_z 5 0) < (ki_z 4 (Int32.toNatClampNeg q7)) then (ki_z 4 (Int32.toNatClampNeg q7)) else (od_z 5 0)) hf)
        · refine j_aload_n hE dX5_seekSpan_70 rfl 2 rfl ?_
          refine j_get (v := .int (od_z 4 0)) hE lg_Odds_25 0 rfl 0 (wg_Odds_0 g a od_z od_y) rfl dX5_seekSpan_71 ?_
          refine j_iload hE dX5_seekSpan_74 0 rfl ?_
          refine j_mmin hE fm_mmin ml_Odds_78 ⟨⟨Nat.le_of_ble_eq_true rfl, Nat.le_of_ble_eq_true rfl⟩, Nat.zero_le _, Nat.zero_le _⟩ dX5_seekSpan_76 ?_
          refine j_goto (tgt := 84) hE dX5_seekSpan_79 (by decide) ?_
          refine j_put (v := .int (if (ki_z 4 (Int32.toNatClampNeg q7)) < (od_z 4 0) then (ki_z 4 (Int32.toNatClampNeg q7)) else (od_z 4 0))) (ws' := ([n_Odds g a (up2 od_z 4 0 (if (ki_z 4 (Int32.toNatClampNeg q7)) < (od_z 4 0) then (ki_z 4 (Int32.toNatClampNeg q7)) else (od_z 4 0))) od_y, n_Road g b ro_z, n_Kinds g (fun i => b (i + 8)) ki_z, n_Rule g (fun i => b (i + 14)) ru_z ru_y, n_Notes g (fun i => b (i + 17)) no_z] : List va_W)) hE lp_Odds_25 0 rfl 0 (wg_Odds_0 g a od_z od_y) rfl rfl (Nat.le_of_ble_eq_true rfl) (wp_Odds_4 g a od_z od_y (if (ki_z 4 (Int32.toNatClampNeg q7)) < (od_z 4 0) then (ki_z 4 (Int32.toNatClampNeg q7)) else (od_z 4 0))) rfl dX5_seekSpan_84 ?_
          refine j_aload_n hE dX5_seekSpan_87 rfl 2 rfl ?_
          refine j_iload hE dX5_seekSpan_88 6 rfl ?_
          refine j_if_eq (tgt := 105) hE hf dX5_seekSpan_90 (by decide) (fun c12 hf => ?_) (fun c12 hf => ?_)
          · refine j_iload hE dX5_seekSpan_105 0 rfl ?_
            exact j_sub [2, 3, 4, 5, 7, 1] rfl (j_Odds_seekSpan_107 E g a b ro_z ki_z ru_z ru_y no_z x2 x3 x4 res hE hq (fun od_z od_y v5 v7 v9 v10 => f_Odds_seekSpan_24 ki_z no_z x2 x3 x4 n od_z od_y v5 v7 v9 v10) (fun od_z od_y v5 v7 v9 v10 hf => ih od_z od_y v5 v7 v9 v10 hf) (up2 od_z 4 0 (if (ki_z 4 (Int32.toNatClampNeg q7)) < (od_z 4 0) then (ki_z 4 (Int32.toNatClampNeg q7)) else (od_z 4 0))) od_y v5 v7 v10 q7 (ki_z 4 (Int32.toNatClampNeg q7)) hf)
          · refine j_aload_n hE dX5_seekSpan_93 rfl 2 rfl ?_
            refine j_get (v := .int (od_z 5 0)) hE lg_Odds_29 0 rfl 0 (wg_Odds_0 g a (up2 od_z 4 0 (if (ki_z 4 (Int32.toNatClampNeg q7)) < (od_z 4 0) then (ki_z 4 (Int32.toNatClampNeg q7)) else (od_z 4 0))) od_y) rfl dX5_seekSpan_94 ?_
            refine j_iload hE dX5_seekSpan_97 0 rfl ?_
            refine j_mmax hE fm_mmax ml_Odds_83 ⟨⟨Nat.le_of_ble_eq_true rfl, Nat.le_of_ble_eq_true rfl⟩, Nat.zero_le _, Nat.zero_le _⟩ dX5_seekSpan_99 ?_
            refine j_goto (tgt := 107) hE dX5_seekSpan_102 (by decide) ?_
            exact j_sub [2, 3, 4, 5, 7, 1] rfl (j_Odds_seekSpan_107 E g a b ro_z ki_z ru_z ru_y no_z x2 x3 x4 res hE hq (fun od_z od_y v5 v7 v9 v10 => f_Odds_seekSpan_24 ki_z no_z x2 x3 x4 n od_z od_y v5 v7 v9 v10) (fun od_z od_y v5 v7 v9 v10 hf => ih od_z od_y v5 v7 v9 v10 hf) (up2 od_z 4 0 (if (ki_z 4 (Int32.toNatClampNeg q7)) < (od_z 4 0) then (ki_z 4 (Int32.toNatClampNeg q7)) else (od_z 4 0))) od_y v5 v7 v10 q7 (if (od_z 5 0) < (ki_z 4 (Int32.toNatClampNeg q7)) then (ki_z 4 (Int32.toNatClampNeg q7)) else (od_z 5 0)) hf)
set_option maxRecDepth 100000 in
theorem c_Odds_seekSpan (l : Launch) (g : jG) (a : Nat → Nat) (b : Nat → Nat) (od_z : jZ) (od_y : jY) (ro_z : jZ) (ki_z : jZ) (ru_z : jZ) (ru_y : jY) (no_z : jZ) (x2 : Int32) (x3 : Int32) (x4 : Int32) (res : jZ × jY × Int32) (hf : f_Odds_seekSpan od_z od_y ki_z no_z x2 x3 x4 = some res) : MC l g yX5_seekSpan cX5_seekSpan 13 (some .boolean) rm_Odds_seekSpan [.ref (a 0), .ref (b 0), .int x2, .int x3, .int x4] (([n_Odds g a od_z od_y, n_Road g b ro_z, n_Kinds g (fun i => b (i + 8)) ki_z, n_Rule g (fun i => b (i + 14)) ru_z ru_y, n_Notes g (fun i => b (i + 17)) no_z] : List va_W)) (some (.int res.2.2)) (([n_Odds g a res.1 res.2.1, n_Road g b ro_z, n_Kinds g (fun i => b (i + 8)) ki_z, n_Rule g (fun i => b (i + 14)) ru_z ru_y, n_Notes g (fun i => b (i + 17)) no_z] : List va_W)) 0 0 := by
  refine MC_of (own := RX5) (lv := [(0, .ref (a 0)), (1, .ref (b 0)), (2, .int x2), (3, .int x3), (4, .int x4)]) (by decide) rfl (Nat.le_of_ble_eq_true rfl) rfl rfl (fun E hE hq => ?_)
  unfold f_Odds_seekSpan at hf
  refine j_aload_n hE dX5_seekSpan_0 rfl 0 rfl ?_
  refine j_aload_n hE dX5_seekSpan_1 rfl 0 rfl ?_
  refine j_get (v := .ref (a 1)) hE lg_Odds_9 0 rfl 0 (wg_Odds_0 g a od_z od_y) rfl dX5_seekSpan_2 ?_
  refine j_aload_n hE dX5_seekSpan_5 rfl 1 rfl ?_
  refine j_iload_n hE dX5_seekSpan_6 rfl 2 rfl ?_
  refine j_iload_n hE dX5_seekSpan_7 rfl 3 rfl ?_
  refine j_iload hE dX5_seekSpan_8 4 rfl ?_
  obtain ⟨q1, hc2, hf⟩ := bind_of hf
  refine j_callV (ws' := ([n_Odds g a od_z q1.1, n_Road g b ro_z, n_Kinds g (fun i => b (i + 8)) ki_z, n_Rule g (fun i => b (i + 14)) ru_z ru_y, n_Notes g (fun i => b (i + 17)) no_z] : List va_W)) (As := [.ref (a 1), .ref (b 0), .int x2, .int x3, .int x4]) (rest := []) (st2 := [.long q1.2]) hE (fun l => c_Odds_weighAllOdds_likelies l g a b od_z od_y ro_z ki_z ru_z ru_y no_z x2 x3 x4 q1 hc2) cd_X5_weighAll cv_X5_weighAll ml_Odds_57 rfl rfl rfl (wg_Odds_0 _ _ _ _) ⟨⟨Nat.le_of_ble_eq_true rfl, Nat.le_of_ble_eq_true rfl⟩, ⟨Nat.zero_le _, Nat.zero_le _⟩, rfl, rfl⟩ [0, 1, 2, 3, 4] rfl rfl rfl (Nat.le_of_ble_eq_true rfl) rfl dX5_seekSpan_10 ?_
  refine j_lstore (lv' := [(5, .long q1.2), (0, .ref (a 0)), (1, .ref (b 0)), (2, .int x2), (3, .int x3), (4, .int x4)]) hE dX5_seekSpan_13 (by decide) rfl ?_
  refine j_lconst (v := 0) hE dX5_seekSpan_15 (by decide) ?_
  refine j_lstore (lv' := [(7, .long 0), (5, .long q1.2), (0, .ref (a 0)), (1, .ref (b 0)), (2, .int x2), (3, .int x3), (4, .int x4)]) hE dX5_seekSpan_16 (by decide) rfl ?_
  refine j_iconst (v := 0) hE dX5_seekSpan_18 (by decide) ?_
  refine j_istore (lv' := [(9, .int 0), (7, .long 0), (5, .long q1.2), (0, .ref (a 0)), (1, .ref (b 0)), (2, .int x2), (3, .int x3), (4, .int x4)]) hE dX5_seekSpan_19 (by decide) rfl ?_
  refine j_iconst (v := 0) hE dX5_seekSpan_21 (by decide) ?_
  refine j_istore (lv' := [(10, .int 0), (9, .int 0), (7, .long 0), (5, .long q1.2), (0, .ref (a 0)), (1, .ref (b 0)), (2, .int x2), (3, .int x3), (4, .int x4)]) hE dX5_seekSpan_22 (by decide) rfl ?_
  exact j_sub [4, 5, 3, 2, 1, 0] rfl (j_Odds_seekSpan_24 E g a b ro_z ki_z ru_z ru_y no_z x2 x3 x4 res hE hq FU od_z q1.1 q1.2 0 0 0 hf)
def rm_Odds_weighAllOdds_others : Room := { frames := 2, cells := 0, slots := 0, locals := 52 }
def f_Odds_weighAllOdds_others_6 (ki_z : jZ) (no_z : jZ) (x3 : Int32) (x4 : Int32) (x5 : Int32)  : Nat → jY → Int64 → Int32 → Option (jY × Int64)
  | 0, _, _, _ => none
  | n + 1, od_y, v6, v8 => (if 5 ≤ v8 then some (od_y, v6)
    else (if (ki_z 0 0) ≤ v8 then (ix v8 5).bind fun _ => (ix v8 5).bind fun _ => f_Odds_weighAllOdds_others_6 ki_z no_z x3 x4 x5 n (up2 od_y 1 (Int32.toNatClampNeg v8) 0) (v6 + ((up2 od_y 1 (Int32.toNatClampNeg v8) 0) 1 (Int32.toNatClampNeg v8))) (v8 + 1)
    else (f_Odds_weigh ki_z no_z v8 x3 x4 x5).bind fun q4 => (ix v8 5).bind fun _ => (ix v8 5).bind fun _ => f_Odds_weighAllOdds_others_6 ki_z no_z x3 x4 x5 n (up2 od_y 1 (Int32.toNatClampNeg v8) q4) (v6 + ((up2 od_y 1 (Int32.toNatClampNeg v8) q4) 1 (Int32.toNatClampNeg v8))) (v8 + 1)))
def f_Odds_weighAllOdds_others (od_y : jY) (ki_z : jZ) (no_z : jZ) (x3 : Int32) (x4 : Int32) (x5 : Int32) : Option (jY × Int64) := f_Odds_weighAllOdds_others_6 ki_z no_z x3 x4 x5 FU od_y 0 0
set_option maxRecDepth 100000 in
theorem j_Odds_weighAllOdds_others_6 (E : jT) (g : jG) (a : Nat → Nat) (b : Nat → Nat) (od_z : jZ) (ro_z : jZ) (ki_z : jZ) (ru_z : jZ) (ru_y : jY) (no_z : jZ) (x3 : Int32) (x4 : Int32) (x5 : Int32) (res : jY × Int64) (hE : jOk E g RX5 cX5_weighAll 9 (some .long) rm_Odds_weighAllOdds_others) (hq : jEnd E g (some (.long res.2)) (([n_Odds g a od_z res.1, n_Road g b ro_z, n_Kinds g (fun i => b (i + 8)) ki_z, n_Rule g (fun i => b (i + 14)) ru_z ru_y, n_Notes g (fun i => b (i + 17)) no_z] : List va_W)) 0 0)  : ∀ (n : Nat) (od_y : jY) (v6 : Int64) (v8 : Int32), f_Odds_weighAllOdds_others_6 ki_z no_z x3 x4 x5 n od_y v6 v8 = some res → J E g 0 0 (([n_Odds g a od_z od_y, n_Road g b ro_z, n_Kinds g (fun i => b (i + 8)) ki_z, n_Rule g (fun i => b (i + 14)) ru_z ru_y, n_Notes g (fun i => b (i + 17)) no_z] : List va_W)) [(0, .ref (a 0)), (1, .ref (a 2)), (2, .ref (b 0)), (3, .int x3), (4, .int x4), (5, .int x5), (6, .long v6), (8, .int v8)] 6 [] := by
  intro n
  induction n with
  | zero =>
    intro od_y v6 v8 hf
    rw [f_Odds_weighAllOdds_others_6] at hf
    cases hf
  | succ n ih =>
    intro od_y v6 v8 hf
    rw [f_Odds_weighAllOdds_others_6] at hf
    refine j_iload hE dX5_weighAll_6 7 rfl ?_
    refine j_aload_n hE dX5_weighAll_8 rfl 1 rfl ?_
    refine j_alen (v := 5) (t0 := 2) hE 0 rfl 2 (wg_Odds_2 g a od_z od_y) rfl rfl dX5_weighAll_9 ?_
    refine j_icmp_ge (tgt := 60) hE hf dX5_weighAll_10 (by decide) (fun c1 hf => ?_) (fun c1 hf => ?_)
    · refine j_lload hE dX5_weighAll_60 6 rfl ?_
      obtain rfl := Option.some.inj hf
      exact j_lret hE hq rfl rfl dX5_weighAll_62
    · refine j_aload_n hE dX5_weighAll_13 rfl 1 rfl ?_
      refine j_iload hE dX5_weighAll_14 7 rfl ?_
      refine j_iload hE dX5_weighAll_16 7 rfl ?_
      refine j_aload_n hE dX5_weighAll_18 rfl 2 rfl ?_
      refine j_get (v := .ref (b 8)) hE lg_Odds_32 1 rfl 0 (wg_Road_0 g b ro_z) rfl dX5_weighAll_19 ?_
      refine j_get (v := .int (ki_z 0 0)) hE lg_Odds_86 2 rfl 0 (wg_Kinds_0 g (fun i => b (i + 8)) ki_z) rfl dX5_weighAll_22 ?_
      refine j_icmp_ge (tgt := 43) hE hf dX5_weighAll_25 (by decide) (fun c2 hf => ?_) (fun c2 hf => ?_)
      · refine j_lconst (v := 0) hE dX5_weighAll_43 (by decide) ?_
        refine j_last (ws' := ([n_Odds g a od_z (up2 od_y 1 (Int32.toNatClampNeg v8) 0), n_Road g b ro_z, n_Kinds g (fun i => b (i + 8)) ki_z, n_Rule g (fun i => b (i + 14)) ru_z ru_y, n_Notes g (fun i => b (i + 17)) no_z] : List va_W)) hE hf 0 rfl 2 (wg_Odds_2 g a od_z od_y) (wa_Odds_2 g a od_z od_y (Int32.toNatClampNeg v8) 0) rfl dX5_weighAll_44 (fun hf => ?_)
        refine j_lload hE dX5_weighAll_45 6 rfl ?_
        refine j_aload_n hE dX5_weighAll_47 rfl 1 rfl ?_
        refine j_iload hE dX5_weighAll_48 7 rfl ?_
        refine j_lald hE hf 0 rfl 2 (wg_Odds_2 g a od_z (up2 od_y 1 (Int32.toNatClampNeg v8) 0)) dX5_weighAll_50 (fun hf => ?_)
        refine j_ladd hE dX5_weighAll_51 ?_
        refine j_lstore (lv' := [(6, .long (v6 + ((up2 od_y 1 (Int32.toNatClampNeg v8) 0) 1 (Int32.toNatClampNeg v8)))), (0, .ref (a 0)), (1, .ref (a 2)), (2, .ref (b 0)), (3, .int x3), (4, .int x4), (5, .int x5), (8, .int v8)]) hE dX5_weighAll_52 (by decide) rfl ?_
        refine j_iinc (v := (v8 + 1)) (lv' := [(8, .int (v8 + 1)), (6, .long (v6 + ((up2 od_y 1 (Int32.toNatClampNeg v8) 0) 1 (Int32.toNatClampNeg v8)))), (0, .ref (a 0)), (1, .ref (a 2)), (2, .ref (b 0)), (3, .int x3), (4, .int x4), (5, .int x5)]) hE dX5_weighAll_54 7 rfl rfl (by decide) rfl ?_
        refine j_goto (tgt := 6) hE dX5_weighAll_57 (by decide) ?_
        exact j_sub [2, 3, 4, 5, 6, 7, 1, 0] rfl (ih (up2 od_y 1 (Int32.toNatClampNeg v8) 0) (v6 + ((up2 od_y 1 (Int32.toNatClampNeg v8) 0) 1 (Int32.toNatClampNeg v8))) (v8 + 1) hf)
      · refine j_aload_n hE dX5_weighAll_28 rfl 0 rfl ?_
        refine j_aload_n hE dX5_weighAll_29 rfl 2 rfl ?_
        refine j_iload hE dX5_weighAll_30 7 rfl ?_
        refine j_iload_n hE dX5_weighAll_32 rfl 3 rfl ?_
        refine j_iload hE dX5_weighAll_33 4 rfl ?_
        refine j_iload hE dX5_weighAll_35 5 rfl ?_
        obtain ⟨q4, hc5, hf⟩ := bind_of hf
        refine j_callV (ws' := ([n_Odds g a od_z od_y, n_Road g b ro_z, n_Kinds g (fun i => b (i + 8)) ki_z, n_Rule g (fun i => b (i + 14)) ru_z ru_y, n_Notes g (fun i => b (i + 17)) no_z] : List va_W)) (As := [.ref (b 0), .int v8, .int x3, .int x4, .int x5]) (rest := [.int v8, .ref (a 2)]) (st2 := [.long q4, .int v8, .ref (a 2)]) hE (fun l => c_Odds_weigh l g a b od_z od_y ro_z ki_z ru_z ru_y no_z v8 x3 x4 x5 q4 hc5) cd_X5_weigh cv_X5_weigh ml_Odds_89 rfl rfl rfl (wg_Odds_0 _ _ _ _) ⟨⟨Nat.le_of_ble_eq_true rfl, Nat.le_of_ble_eq_true rfl⟩, ⟨Nat.zero_le _, Nat.zero_le _⟩, rfl, rfl⟩ [0, 1, 2, 3, 4] rfl rfl rfl (Nat.le_of_ble_eq_true rfl) rfl dX5_weighAll_37 ?_
        refine j_goto (tgt := 44) hE dX5_weighAll_40 (by decide) ?_
        refine j_last (ws' := ([n_Odds g a od_z (up2 od_y 1 (Int32.toNatClampNeg v8) q4), n_Road g b ro_z, n_Kinds g (fun i => b (i + 8)) ki_z, n_Rule g (fun i => b (i + 14)) ru_z ru_y, n_Notes g (fun i => b (i + 17)) no_z] : List va_W)) hE hf 0 rfl 2 (wg_Odds_2 g a od_z od_y) (wa_Odds_2 g a od_z od_y (Int32.toNatClampNeg v8) q4) rfl dX5_weighAll_44 (fun hf => ?_)
        refine j_lload hE dX5_weighAll_45 6 rfl ?_
        refine j_aload_n hE dX5_weighAll_47 rfl 1 rfl ?_
        refine j_iload hE dX5_weighAll_48 7 rfl ?_
        refine j_lald hE hf 0 rfl 2 (wg_Odds_2 g a od_z (up2 od_y 1 (Int32.toNatClampNeg v8) q4)) dX5_weighAll_50 (fun hf => ?_)
        refine j_ladd hE dX5_weighAll_51 ?_
        refine j_lstore (lv' := [(6, .long (v6 + ((up2 od_y 1 (Int32.toNatClampNeg v8) q4) 1 (Int32.toNatClampNeg v8)))), (0, .ref (a 0)), (1, .ref (a 2)), (2, .ref (b 0)), (3, .int x3), (4, .int x4), (5, .int x5), (8, .int v8)]) hE dX5_weighAll_52 (by decide) rfl ?_
        refine j_iinc (v := (v8 + 1)) (lv' := [(8, .int (v8 + 1)), (6, .long (v6 + ((up2 od_y 1 (Int32.toNatClampNeg v8) q4) 1 (Int32.toNatClampNeg v8)))), (0, .ref (a 0)), (1, .ref (a 2)), (2, .ref (b 0)), (3, .int x3), (4, .int x4), (5, .int x5)]) hE dX5_weighAll_54 7 rfl rfl (by decide) rfl ?_
        refine j_goto (tgt := 6) hE dX5_weighAll_57 (by decide) ?_
        exact j_sub [2, 3, 4, 5, 6, 7, 1, 0] rfl (ih (up2 od_y 1 (Int32.toNatClampNeg v8) q4) (v6 + ((up2 od_y 1 (Int32.toNatClampNeg v8) q4) 1 (Int32.toNatClampNeg v8))) (v8 + 1) hf)
set_option maxRecDepth 100000 in
theorem c_Odds_weighAllOdds_others (l : Launch) (g : jG) (a : Nat → Nat) (b : Nat → Nat) (od_z : jZ) (od_y : jY) (ro_z : jZ) (ki_z : jZ) (ru_z : jZ) (ru_y : jY) (no_z : jZ) (x3 : Int32) (x4 : Int32) (x5 : Int32) (res : jY × Int64) (hf : f_Odds_weighAllOdds_others od_y ki_z no_z x3 x4 x5 = some res) : MC l g yX5_weighAll cX5_weighAll 9 (some .long) rm_Odds_weighAllOdds_others [.ref (a 0), .ref (a 2), .ref (b 0), .int x3, .int x4, .int x5] (([n_Odds g a od_z od_y, n_Road g b ro_z, n_Kinds g (fun i => b (i + 8)) ki_z, n_Rule g (fun i => b (i + 14)) ru_z ru_y, n_Notes g (fun i => b (i + 17)) no_z] : List va_W)) (some (.long res.2)) (([n_Odds g a od_z res.1, n_Road g b ro_z, n_Kinds g (fun i => b (i + 8)) ki_z, n_Rule g (fun i => b (i + 14)) ru_z ru_y, n_Notes g (fun i => b (i + 17)) no_z] : List va_W)) 0 0 := by
  refine MC_of (own := RX5) (lv := [(0, .ref (a 0)), (1, .ref (a 2)), (2, .ref (b 0)), (3, .int x3), (4, .int x4), (5, .int x5)]) (by decide) rfl (Nat.le_of_ble_eq_true rfl) rfl rfl (fun E hE hq => ?_)
  unfold f_Odds_weighAllOdds_others at hf
  refine j_lconst (v := 0) hE dX5_weighAll_0 (by decide) ?_
  refine j_lstore (lv' := [(6, .long 0), (0, .ref (a 0)), (1, .ref (a 2)), (2, .ref (b 0)), (3, .int x3), (4, .int x4), (5, .int x5)]) hE dX5_weighAll_1 (by decide) rfl ?_
  refine j_iconst (v := 0) hE dX5_weighAll_3 (by decide) ?_
  refine j_istore (lv' := [(8, .int 0), (6, .long 0), (0, .ref (a 0)), (1, .ref (a 2)), (2, .ref (b 0)), (3, .int x3), (4, .int x4), (5, .int x5)]) hE dX5_weighAll_4 (by decide) rfl ?_
  exact j_sub [2, 3, 4, 5, 6, 7, 1, 0] rfl (j_Odds_weighAllOdds_others_6 E g a b od_z ro_z ki_z ru_z ru_y no_z x3 x4 x5 res hE hq FU od_y 0 0 hf)
def rm_Odds_compare : Room := { frames := 3, cells := 0, slots := 0, locals := 80 }
def f_Odds_compare_47 (ki_z : jZ) (no_z : jZ) (x2 : Int32) (x3 : Int32) (x4 : Int32) (x5 : Int32) (k38 : jY → Int64 → Int64 → Int64 → Int32 → Option (jY)) : Nat → jY → Int64 → Int64 → Int64 → Int32 → Int32 → Option (jY)
  | 0, _, _, _, _, _, _ => none
  | n + 1, od_y, v6, v8, v10, v12, v13 => (if 5 ≤ v13 then k38 od_y v6 v8 v10 (v12 + 1)
    else (ix v12 5).bind fun _ => (ix v13 5).bind fun _ => (if (ki_z 4 (Int32.toNatClampNeg v12)) ≤ (ki_z 4 (Int32.toNatClampNeg v13)) then f_Odds_compare_47 ki_z no_z x2 x3 x4 x5 k38 n od_y v6 v8 v10 v12 (v13 + 1)
    else (ix v12 5).bind fun _ => (ix v13 5).bind fun _ => f_Odds_compare_47 ki_z no_z x2 x3 x4 x5 k38 n od_y v6 v8 (v10 + ((od_y 0 (Int32.toNatClampNeg v12)) * (od_y 1 (Int32.toNatClampNeg v13)))) v12 (v13 + 1)))
def f_Odds_compare_38 (ki_z : jZ) (no_z : jZ) (x2 : Int32) (x3 : Int32) (x4 : Int32) (x5 : Int32)  : Nat → jY → Int64 → Int64 → Int64 → Int32 → Option (jY)
  | 0, _, _, _, _, _ => none
  | n + 1, od_y, v6, v8, v10, v12 => (if 5 ≤ v12 then (f_Odds_reduce od_y v10 (v6 * v8)).bind fun q6 => some q6
    else f_Odds_compare_47 ki_z no_z x2 x3 x4 x5 (fun od_y v6 v8 v10 v12 => f_Odds_compare_38 ki_z no_z x2 x3 x4 x5 n od_y v6 v8 v10 v12) FU od_y v6 v8 v10 v12 0)
def f_Odds_compare (od_y : jY) (ki_z : jZ) (no_z : jZ) (x2 : Int32) (x3 : Int32) (x4 : Int32) (x5 : Int32) : Option (jY) := (f_Odds_weighAllOdds_likelies od_y ki_z no_z x2 x4 x5).bind fun q1 => (f_Odds_weighAllOdds_others q1.1 ki_z no_z x3 x4 x5).bind fun q3 => f_Odds_compare_38 ki_z no_z x2 x3 x4 x5 FU q3.1 q1.2 q3.2 0 0
set_option maxRecDepth 100000 in
theorem j_Odds_compare_47 (E : jT) (g : jG) (a : Nat → Nat) (b : Nat → Nat) (od_z : jZ) (ro_z : jZ) (ki_z : jZ) (ru_z : jZ) (ru_y : jY) (no_z : jZ) (x2 : Int32) (x3 : Int32) (x4 : Int32) (x5 : Int32) (res : jY) (hE : jOk E g RX5 cX5_compare 14 (none : Option Jvm.ClassFile.FieldType) rm_Odds_compare) (hq : jEnd E g none (([n_Odds g a od_z res, n_Road g b ro_z, n_Kinds g (fun i => b (i + 8)) ki_z, n_Rule g (fun i => b (i + 14)) ru_z ru_y, n_Notes g (fun i => b (i + 17)) no_z] : List va_W)) 0 0) (k38 : jY → Int64 → Int64 → Int64 → Int32 → Option (jY)) (hk38 : ∀ (od_y : jY) (v6 : Int64) (v8 : Int64) (v10 : Int64) (v12 : Int32), k38 od_y v6 v8 v10 v12 = some res → J E g 0 0 (([n_Odds g a od_z od_y, n_Road g b ro_z, n_Kinds g (fun i => b (i + 8)) ki_z, n_Rule g (fun i => b (i + 14)) ru_z ru_y, n_Notes g (fun i => b (i + 17)) no_z] : List va_W)) [(0, .ref (a 0)), (1, .ref (b 0)), (6, .long v6), (8, .long v8), (10, .long v10), (12, .int v12)] 38 []) : ∀ (n : Nat) (od_y : jY) (v6 : Int64) (v8 : Int64) (v10 : Int64) (v12 : Int32) (v13 : Int32), f_Odds_compare_47 ki_z no_z x2 x3 x4 x5 k38 n od_y v6 v8 v10 v12 v13 = some res → J E g 0 0 (([n_Odds g a od_z od_y, n_Road g b ro_z, n_Kinds g (fun i => b (i + 8)) ki_z, n_Rule g (fun i => b (i + 14)) ru_z ru_y, n_Notes g (fun i => b (i + 17)) no_z] : List va_W)) [(0, .ref (a 0)), (1, .ref (b 0)), (6, .long v6), (8, .long v8), (10, .long v10), (12, .int v12), (13, .int v13)] 47 [] := by
  intro n
  induction n with
  | zero =>
    intro od_y v6 v8 v10 v12 v13 hf
    rw [f_Odds_compare_47] at hf
    cases hf
  | succ n ih =>
    intro od_y v6 v8 v10 v12 v13 hf
    rw [f_Odds_compare_47] at hf
    refine j_iload hE dX5_compare_47 6 rfl ?_
    refine j_iconst (v := 5) hE dX5_compare_49 (by decide) ?_
    refine j_icmp_ge (tgt := 102) hE hf dX5_compare_50 (by decide) (fun c8 hf => ?_) (fun c8 hf => ?_)
    · refine j_iinc (v := (v12 + 1)) (lv' := [(12, .int (v12 + 1)), (0, .ref (a 0)), (1, .ref (b 0)), (6, .long v6), (8, .long v8), (10, .long v10), (13, .int v13)]) hE dX5_compare_102 5 rfl rfl (by decide) rfl ?_
      refine j_goto (tgt := 38) hE dX5_compare_105 (by decide) ?_
      exact j_sub [1, 2, 3, 4, 5, 0] rfl (hk38 od_y v6 v8 v10 (v12 + 1) hf)
    · refine j_aload_n hE dX5_compare_53 rfl 1 rfl ?_
      refine j_get (v := .ref (b 8)) hE lg_Odds_32 1 rfl 0 (wg_Road_0 g b ro_z) rfl dX5_compare_54 ?_
      refine j_get (v := .ref (b 11)) hE lg_Odds_61 2 rfl 0 (wg_Kinds_0 g (fun i => b (i + 8)) ki_z) rfl dX5_compare_57 ?_
      refine j_iload hE dX5_compare_60 5 rfl ?_
      refine j_iald hE hf 2 rfl 3 (wg_Kinds_3 g (fun i => b (i + 8)) ki_z) dX5_compare_62 (fun hf => ?_)
      refine j_aload_n hE dX5_compare_63 rfl 1 rfl ?_
      refine j_get (v := .ref (b 8)) hE lg_Odds_32 1 rfl 0 (wg_Road_0 g b ro_z) rfl dX5_compare_64 ?_
      refine j_get (v := .ref (b 11)) hE lg_Odds_61 2 rfl 0 (wg_Kinds_0 g (fun i => b (i + 8)) ki_z) rfl dX5_compare_67 ?_
      refine j_iload hE dX5_compare_70 6 rfl ?_
      refine j_iald hE hf 2 rfl 3 (wg_Kinds_3 g (fun i => b (i + 8)) ki_z) dX5_compare_72 (fun hf => ?_)
      refine j_icmp_le (tgt := 96) hE hf dX5_compare_73 (by decide) (fun c11 hf => ?_) (fun c11 hf => ?_)
      · refine j_iinc (v := (v13 + 1)) (lv' := [(13, .int (v13 + 1)), (0, .ref (a 0)), (1, .ref (b 0)), (6, .long v6), (8, .long v8), (10, .long v10), (12, .int v12)]) hE dX5_compare_96 6 rfl rfl (by decide) rfl ?_
        refine j_goto (tgt := 47) hE dX5_compare_99 (by decide) ?_
        exact j_sub [1, 2, 3, 4, 5, 6, 0] rfl (ih od_y v6 v8 v10 v12 (v13 + 1) hf)
      · refine j_lload hE dX5_compare_76 4 rfl ?_
        refine j_aload_n hE dX5_compare_78 rfl 0 rfl ?_
        refine j_get (v := .ref (a 1)) hE lg_Odds_9 0 rfl 0 (wg_Odds_0 g a od_z od_y) rfl dX5_compare_79 ?_
        refine j_iload hE dX5_compare_82 5 rfl ?_
        refine j_lald hE hf 0 rfl 1 (wg_Odds_1 g a od_z od_y) dX5_compare_84 (fun hf => ?_)
        refine j_aload_n hE dX5_compare_85 rfl 0 rfl ?_
        refine j_get (v := .ref (a 2)) hE lg_Odds_15 0 rfl 0 (wg_Odds_0 g a od_z od_y) rfl dX5_compare_86 ?_
        refine j_iload hE dX5_compare_89 6 rfl ?_
        refine j_lald hE hf 0 rfl 2 (wg_Odds_2 g a od_z od_y) dX5_compare_91 (fun hf => ?_)
        refine j_lmul hE dX5_compare_92 ?_
        refine j_ladd hE dX5_compare_93 ?_
        refine j_lstore (lv' := [(10, .long (v10 + ((od_y 0 (Int32.toNatClampNeg v12)) * (od_y 1 (Int32.toNatClampNeg v13))))), (0, .ref (a 0)), (1, .ref (b 0)), (6, .long v6), (8, .long v8), (12, .int v12), (13, .int v13)]) hE dX5_compare_94 (by decide) rfl ?_
        refine j_iinc (v := (v13 + 1)) (lv' := [(13, .int (v13 + 1)), (10, .long (v10 + ((od_y 0 (Int32.toNatClampNeg v12)) * (od_y 1 (Int32.toNatClampNeg v13))))), (0, .ref (a 0)), (1, .ref (b 0)), (6, .long v6), (8, .long v8), (12, .int v12)]) hE dX5_compare_96 6 rfl rfl (by decide) rfl ?_
        refine j_goto (tgt := 47) hE dX5_compare_99 (by decide) ?_
        exact j_sub [2, 3, 4, 5, 1, 6, 0] rfl (ih od_y v6 v8 (v10 + ((od_y 0 (Int32.toNatClampNeg v12)) * (od_y 1 (Int32.toNatClampNeg v13)))) v12 (v13 + 1) hf)
set_option maxRecDepth 100000 in
theorem j_Odds_compare_38 (E : jT) (g : jG) (a : Nat → Nat) (b : Nat → Nat) (od_z : jZ) (ro_z : jZ) (ki_z : jZ) (ru_z : jZ) (ru_y : jY) (no_z : jZ) (x2 : Int32) (x3 : Int32) (x4 : Int32) (x5 : Int32) (res : jY) (hE : jOk E g RX5 cX5_compare 14 (none : Option Jvm.ClassFile.FieldType) rm_Odds_compare) (hq : jEnd E g none (([n_Odds g a od_z res, n_Road g b ro_z, n_Kinds g (fun i => b (i + 8)) ki_z, n_Rule g (fun i => b (i + 14)) ru_z ru_y, n_Notes g (fun i => b (i + 17)) no_z] : List va_W)) 0 0)  : ∀ (n : Nat) (od_y : jY) (v6 : Int64) (v8 : Int64) (v10 : Int64) (v12 : Int32), f_Odds_compare_38 ki_z no_z x2 x3 x4 x5 n od_y v6 v8 v10 v12 = some res → J E g 0 0 (([n_Odds g a od_z od_y, n_Road g b ro_z, n_Kinds g (fun i => b (i + 8)) ki_z, n_Rule g (fun i => b (i + 14)) ru_z ru_y, n_Notes g (fun i => b (i + 17)) no_z] : List va_W)) [(0, .ref (a 0)), (1, .ref (b 0)), (6, .long v6), (8, .long v8), (10, .long v10), (12, .int v12)] 38 [] := by
  intro n
  induction n with
  | zero =>
    intro od_y v6 v8 v10 v12 hf
    rw [f_Odds_compare_38] at hf
    cases hf
  | succ n ih =>
    intro od_y v6 v8 v10 v12 hf
    rw [f_Odds_compare_38] at hf
    refine j_iload hE dX5_compare_38 5 rfl ?_
    refine j_iconst (v := 5) hE dX5_compare_40 (by decide) ?_
    refine j_icmp_ge (tgt := 108) hE hf dX5_compare_41 (by decide) (fun c5 hf => ?_) (fun c5 hf => ?_)
    · refine j_aload_n hE dX5_compare_108 rfl 0 rfl ?_
      refine j_lload hE dX5_compare_109 4 rfl ?_
      refine j_lload hE dX5_compare_111 2 rfl ?_
      refine j_lload hE dX5_compare_113 3 rfl ?_
      refine j_lmul hE dX5_compare_115 ?_
      obtain ⟨q6, hc7, hf⟩ := bind_of hf
      refine j_callV (ws' := ([n_Odds g a od_z q6, n_Road g b ro_z, n_Kinds g (fun i => b (i + 8)) ki_z, n_Rule g (fun i => b (i + 14)) ru_z ru_y, n_Notes g (fun i => b (i + 17)) no_z] : List va_W)) (As := [.long v10, .long (v6 * v8)]) (rest := []) (st2 := []) hE (fun l => c_Odds_reduce l g a od_z od_y v10 (v6 * v8) q6 hc7) cd_X5_reduce cv_X5_reduce ml_Odds_66 rfl rfl rfl (wg_Odds_0 _ _ _ _) ⟨⟨Nat.le_of_ble_eq_true rfl, Nat.le_of_ble_eq_true rfl⟩, ⟨Nat.zero_le _, Nat.zero_le _⟩, rfl, rfl⟩ [0] rfl rfl rfl (Nat.le_of_ble_eq_true rfl) rfl dX5_compare_116 ?_
      obtain rfl := Option.some.inj hf
      exact j_vret hE hq rfl rfl dX5_compare_119
    · refine j_iconst (v := 0) hE dX5_compare_44 (by decide) ?_
      refine j_istore (lv' := [(13, .int 0), (0, .ref (a 0)), (1, .ref (b 0)), (6, .long v6), (8, .long v8), (10, .long v10), (12, .int v12)]) hE dX5_compare_45 (by decide) rfl ?_
      exact j_sub [1, 2, 3, 4, 5, 6, 0] rfl (j_Odds_compare_47 E g a b od_z ro_z ki_z ru_z ru_y no_z x2 x3 x4 x5 res hE hq (fun od_y v6 v8 v10 v12 => f_Odds_compare_38 ki_z no_z x2 x3 x4 x5 n od_y v6 v8 v10 v12) (fun od_y v6 v8 v10 v12 hf => ih od_y v6 v8 v10 v12 hf) FU od_y v6 v8 v10 v12 0 hf)
set_option maxRecDepth 100000 in
theorem c_Odds_compare (l : Launch) (g : jG) (a : Nat → Nat) (b : Nat → Nat) (od_z : jZ) (od_y : jY) (ro_z : jZ) (ki_z : jZ) (ru_z : jZ) (ru_y : jY) (no_z : jZ) (x2 : Int32) (x3 : Int32) (x4 : Int32) (x5 : Int32) (res : jY) (hf : f_Odds_compare od_y ki_z no_z x2 x3 x4 x5 = some res) : MC l g yX5_compare cX5_compare 14 (none : Option Jvm.ClassFile.FieldType) rm_Odds_compare [.ref (a 0), .ref (b 0), .int x2, .int x3, .int x4, .int x5] (([n_Odds g a od_z od_y, n_Road g b ro_z, n_Kinds g (fun i => b (i + 8)) ki_z, n_Rule g (fun i => b (i + 14)) ru_z ru_y, n_Notes g (fun i => b (i + 17)) no_z] : List va_W)) none (([n_Odds g a od_z res, n_Road g b ro_z, n_Kinds g (fun i => b (i + 8)) ki_z, n_Rule g (fun i => b (i + 14)) ru_z ru_y, n_Notes g (fun i => b (i + 17)) no_z] : List va_W)) 0 0 := by
  refine MC_of (own := RX5) (lv := [(0, .ref (a 0)), (1, .ref (b 0)), (2, .int x2), (3, .int x3), (4, .int x4), (5, .int x5)]) (by decide) rfl (Nat.le_of_ble_eq_true rfl) rfl rfl (fun E hE hq => ?_)
  unfold f_Odds_compare at hf
  refine j_aload_n hE dX5_compare_0 rfl 0 rfl ?_
  refine j_aload_n hE dX5_compare_1 rfl 0 rfl ?_
  refine j_get (v := .ref (a 1)) hE lg_Odds_9 0 rfl 0 (wg_Odds_0 g a od_z od_y) rfl dX5_compare_2 ?_
  refine j_aload_n hE dX5_compare_5 rfl 1 rfl ?_
  refine j_iload_n hE dX5_compare_6 rfl 2 rfl ?_
  refine j_iload hE dX5_compare_7 4 rfl ?_
  refine j_iload hE dX5_compare_9 5 rfl ?_
  obtain ⟨q1, hc2, hf⟩ := bind_of hf
  refine j_callV (ws' := ([n_Odds g a od_z q1.1, n_Road g b ro_z, n_Kinds g (fun i => b (i + 8)) ki_z, n_Rule g (fun i => b (i + 14)) ru_z ru_y, n_Notes g (fun i => b (i + 17)) no_z] : List va_W)) (As := [.ref (a 1), .ref (b 0), .int x2, .int x4, .int x5]) (rest := []) (st2 := [.long q1.2]) hE (fun l => c_Odds_weighAllOdds_likelies l g a b od_z od_y ro_z ki_z ru_z ru_y no_z x2 x4 x5 q1 hc2) cd_X5_weighAll cv_X5_weighAll ml_Odds_57 rfl rfl rfl (wg_Odds_0 _ _ _ _) ⟨⟨Nat.le_of_ble_eq_true rfl, Nat.le_of_ble_eq_true rfl⟩, ⟨Nat.zero_le _, Nat.zero_le _⟩, rfl, rfl⟩ [0, 1, 2, 3, 4] rfl rfl rfl (Nat.le_of_ble_eq_true rfl) rfl dX5_compare_11 ?_
  refine j_lstore (lv' := [(6, .long q1.2), (0, .ref (a 0)), (1, .ref (b 0)), (2, .int x2), (3, .int x3), (4, .int x4), (5, .int x5)]) hE dX5_compare_14 (by decide) rfl ?_
  refine j_aload_n hE dX5_compare_16 rfl 1 rfl ?_
  refine j_aload_n hE dX5_compare_17 rfl 1 rfl ?_
  refine j_get (v := .ref (a 2)) hE lg_Odds_15 0 rfl 0 (wg_Odds_0 g a od_z q1.1) rfl dX5_compare_18 ?_
  refine j_aload_n hE dX5_compare_21 rfl 2 rfl ?_
  refine j_iload_n hE dX5_compare_22 rfl 4 rfl ?_
  refine j_iload hE dX5_compare_23 5 rfl ?_
  refine j_iload hE dX5_compare_25 6 rfl ?_
  obtain ⟨q3, hc4, hf⟩ := bind_of hf
  refine j_callV (ws' := ([n_Odds g a od_z q3.1, n_Road g b ro_z, n_Kinds g (fun i => b (i + 8)) ki_z, n_Rule g (fun i => b (i + 14)) ru_z ru_y, n_Notes g (fun i => b (i + 17)) no_z] : List va_W)) (As := [.ref (a 2), .ref (b 0), .int x3, .int x4, .int x5]) (rest := []) (st2 := [.long q3.2]) hE (fun l => c_Odds_weighAllOdds_others l g a b od_z q1.1 ro_z ki_z ru_z ru_y no_z x3 x4 x5 q3 hc4) cd_X5_weighAll cv_X5_weighAll ml_Odds_57 rfl rfl rfl (wg_Odds_0 _ _ _ _) ⟨⟨Nat.le_of_ble_eq_true rfl, Nat.le_of_ble_eq_true rfl⟩, ⟨Nat.zero_le _, Nat.zero_le _⟩, rfl, rfl⟩ [0, 1, 2, 3, 4] rfl rfl rfl (Nat.le_of_ble_eq_true rfl) rfl dX5_compare_27 ?_
  refine j_lstore (lv' := [(8, .long q3.2), (6, .long q1.2), (0, .ref (a 0)), (1, .ref (b 0)), (2, .int x2), (3, .int x3), (4, .int x4), (5, .int x5)]) hE dX5_compare_30 (by decide) rfl ?_
  refine j_lconst (v := 0) hE dX5_compare_32 (by decide) ?_
  refine j_lstore (lv' := [(10, .long 0), (8, .long q3.2), (6, .long q1.2), (0, .ref (a 0)), (1, .ref (b 0)), (2, .int x2), (3, .int x3), (4, .int x4), (5, .int x5)]) hE dX5_compare_33 (by decide) rfl ?_
  refine j_iconst (v := 0) hE dX5_compare_35 (by decide) ?_
  refine j_istore (lv' := [(12, .int 0), (10, .long 0), (8, .long q3.2), (6, .long q1.2), (0, .ref (a 0)), (1, .ref (b 0)), (2, .int x2), (3, .int x3), (4, .int x4), (5, .int x5)]) hE dX5_compare_36 (by decide) rfl ?_
  exact j_sub [4, 5, 3, 2, 1, 0] rfl (j_Odds_compare_38 E g a b od_z ro_z ki_z ru_z ru_y no_z x2 x3 x4 x5 res hE hq FU q3.1 q1.2 q3.2 0 0 hf)
def rm_Odds_times : Room := { frames := 0, cells := 0, slots := 0, locals := 0 }
def f_Odds_times (od_y : jY) (x1 : Int32) (x2 : Int32) : Option (Int32) := (if (lg_cmp (od_y 3 0) 0) = 0 then some x2
    else (nzl (od_y 3 0)).bind fun _ => some (Int64.toInt32 (((Int32.toInt64 x1) * (od_y 2 0)) / (od_y 3 0))))
set_option maxRecDepth 100000 in
theorem c_Odds_times (l : Launch) (g : jG) (a : Nat → Nat) (od_z : jZ) (od_y : jY) (x1 : Int32) (x2 : Int32) (res : Int32) (hf : f_Odds_times od_y x1 x2 = some res) : MC l g yX5_times cX5_times 3 (some .int) rm_Odds_times [.ref (a 0), .int x1, .int x2] (([n_Odds g a od_z od_y] : List va_W)) (some (.int res)) (([n_Odds g a od_z od_y] : List va_W)) 0 0 := by
  refine MC_of (own := RX5) (lv := [(0, .ref (a 0)), (1, .int x1), (2, .int x2)]) (by decide) rfl (Nat.le_of_ble_eq_true rfl) rfl rfl (fun E hE hq => ?_)
  unfold f_Odds_times at hf
  refine j_aload_n hE dX5_times_0 rfl 0 rfl ?_
  refine j_get (v := .long (od_y 3 0)) hE lg_Odds_22 0 rfl 0 (wg_Odds_0 g a od_z od_y) rfl dX5_times_1 ?_
  refine j_lconst (v := 0) hE dX5_times_4 (by decide) ?_
  refine j_lcmp hE dX5_times_5 ?_
  refine j_if_ne (tgt := 13) hE hf dX5_times_6 (by decide) (fun c1 hf => ?_) (fun c1 hf => ?_)
  · refine j_iload_n hE dX5_times_13 rfl 1 rfl ?_
    refine j_i2l hE dX5_times_14 ?_
    refine j_aload_n hE dX5_times_15 rfl 0 rfl ?_
    refine j_get (v := .long (od_y 2 0)) hE lg_Odds_18 0 rfl 0 (wg_Odds_0 g a od_z od_y) rfl dX5_times_16 ?_
    refine j_lmul hE dX5_times_19 ?_
    refine j_aload_n hE dX5_times_20 rfl 0 rfl ?_
    refine j_get (v := .long (od_y 3 0)) hE lg_Odds_22 0 rfl 0 (wg_Odds_0 g a od_z od_y) rfl dX5_times_21 ?_
    refine j_ldiv hE hf dX5_times_24 (fun hf => ?_)
    refine j_l2i hE dX5_times_25 ?_
    obtain rfl := Option.some.inj hf
    exact j_iret hE hq rfl rfl dX5_times_26
  · refine j_iload_n hE dX5_times_9 rfl 2 rfl ?_
    refine j_goto (tgt := 26) hE dX5_times_10 (by decide) ?_
    obtain rfl := Option.some.inj hf
    exact j_iret hE hq rfl rfl dX5_times_26
def rm_Luck_forget : Room := { frames := 0, cells := 0, slots := 0, locals := 0 }
def f_Luck_forget (lu_z : jZ)  : Option (jZ) := some (up2 lu_z 0 0 (-1))
set_option maxRecDepth 100000 in
theorem c_Luck_forget (l : Launch) (g : jG) (a : Nat → Nat) (lu_z : jZ) (lu_y : jY)  (res : jZ) (hf : f_Luck_forget lu_z = some res) : MC l g yX3_forget cX3_forget 1 (none : Option Jvm.ClassFile.FieldType) rm_Luck_forget [.ref (a 0)] (([n_Luck g a lu_z lu_y] : List va_W)) none (([n_Luck g a res lu_y] : List va_W)) 0 0 := by
  refine MC_of (own := RX3) (lv := [(0, .ref (a 0))]) (by decide) rfl (Nat.le_of_ble_eq_true rfl) rfl rfl (fun E hE hq => ?_)
  unfold f_Luck_forget at hf
  refine j_aload_n hE dX3_forget_0 rfl 0 rfl ?_
  refine j_iconst (v := (-1)) hE dX3_forget_1 (by decide) ?_
  refine j_put (v := .int (-1)) (ws' := ([n_Luck g a (up2 lu_z 0 0 (-1)) lu_y] : List va_W)) hE lp_Luck_9 0 rfl 0 (wg_Luck_0 g a lu_z lu_y) rfl rfl (Nat.le_of_ble_eq_true rfl) (wp_Luck_0 g a lu_z lu_y (-1)) rfl dX3_forget_2 ?_
  obtain rfl := Option.some.inj hf
  exact j_vret hE hq rfl rfl dX3_forget_5
def rm_Luck_addThree : Room := { frames := 4, cells := 0, slots := 0, locals := 103 }
def f_Luck_addThree_119 (lu_z : jZ) (ki_z : jZ) (x2 : Int32) (x3 : Int32) (x4 : Int32)  (lu_y : jY) (ru_z : jZ) (ru_y : jY) (v6 : Int64) (v8 : Int64) : Option (jY × jZ × jY) := (if (lg_cmp v6 0) = 0 then some (lu_y, ru_z, ru_y)
    else (f_Rule_takes ru_z ru_y x2 x3 x4 (lu_z 0 0)).bind fun q12 => (if q12.2.2 = 0 then some (lu_y, q12.1, q12.2.1)
    else some ((up2 (up2 (up2 lu_y 1 0 ((lu_y 1 0) + v6)) 2 0 ((lu_y 2 0) + (v6 * (Int32.toInt64 ((x2 + x3) + x4))))) 3 0 ((lu_y 3 0) + v8)), q12.1, q12.2.1)))
def f_Luck_addThree_15 (lu_z : jZ) (ki_z : jZ) (x2 : Int32) (x3 : Int32) (x4 : Int32)  : Nat → jY → jZ → jY → Int64 → Int64 → Int32 → Option (jY × jZ × jY)
  | 0, _, _, _, _, _, _ => none
  | n + 1, lu_y, ru_z, ru_y, v6, v8, v10 => (if (ki_z 0 0) ≤ v10 then f_Luck_addThree_119 lu_z ki_z x2 x3 x4 lu_y ru_z ru_y v6 v8
    else (if 5 ≤ v10 then f_Luck_addThree_119 lu_z ki_z x2 x3 x4 lu_y ru_z ru_y v6 v8
    else (ix v10 5).bind fun _ => (f_Kinds_howManyAre ki_z v10 x2).bind fun q4 => (f_Kinds_howManyAre ki_z v10 x3).bind fun q6 => (f_Kinds_howManyAre ki_z v10 x4).bind fun q8 => (ix v10 5).bind fun _ => f_Luck_addThree_15 lu_z ki_z x2 x3 x4 n lu_y ru_z ru_y (v6 + ((((Int32.toInt64 (ki_z 3 (Int32.toNatClampNeg v10))) * (Int32.toInt64 q4)) * (Int32.toInt64 q6)) * (Int32.toInt64 q8))) (v8 + ((((((Int32.toInt64 (ki_z 3 (Int32.toNatClampNeg v10))) * (Int32.toInt64 q4)) * (Int32.toInt64 q6)) * (Int32.toInt64 q8)) * 3) * (Int32.toInt64 (ki_z 4 (Int32.toNatClampNeg v10))))) (v10 + 1)))
def f_Luck_addThree (lu_z : jZ) (lu_y : jY) (ki_z : jZ) (ru_z : jZ) (ru_y : jY) (x2 : Int32) (x3 : Int32) (x4 : Int32) : Option (jY × jZ × jY) := f_Luck_addThree_15 lu_z ki_z x2 x3 x4 FU lu_y ru_z ru_y 0 0 0
set_option maxRecDepth 100000 in
theorem j_Luck_addThree_119 (E : jT) (g : jG) (a : Nat → Nat) (b : Nat → Nat) (lu_z : jZ) (ro_z : jZ) (ki_z : jZ) (no_z : jZ) (x2 : Int32) (x3 : Int32) (x4 : Int32) (res : jY × jZ × jY) (hE : jOk E g RX3 cX3_addThree 13 (none : Option Jvm.ClassFile.FieldType) rm_Luck_addThree) (hq : jEnd E g none (([n_Luck g a lu_z res.1, n_Road g b ro_z, n_Kinds g (fun i => b (i + 8)) ki_z, n_Rule g (fun i => b (i + 14)) res.2.1 res.2.2, n_Notes g (fun i => b (i + 17)) no_z] : List va_W)) 0 0)  (lu_y : jY) (ru_z : jZ) (ru_y : jY) (v6 : Int64) (v8 : Int64) (hf : f_Luck_addThree_119 lu_z ki_z x2 x3 x4 lu_y ru_z ru_y v6 v8 = some res) : J E g 0 0 (([n_Luck g a lu_z lu_y, n_Road g b ro_z, n_Kinds g (fun i => b (i + 8)) ki_z, n_Rule g (fun i => b (i + 14)) ru_z ru_y, n_Notes g (fun i => b (i + 17)) no_z] : List va_W)) [(0, .ref (a 0)), (1, .ref (b 0)), (2, .int x2), (3, .int x3), (4, .int x4), (6, .long v6), (8, .long v8)] 119 [] := by
  unfold f_Luck_addThree_119 at hf
  refine j_lload hE dX3_addThree_119 5 rfl ?_
  refine j_lconst (v := 0) hE dX3_addThree_121 (by decide) ?_
  refine j_lcmp hE dX3_addThree_122 ?_
  refine j_if_eq (tgt := 185) hE hf dX3_addThree_123 (by decide) (fun c11 hf => ?_) (fun c11 hf => ?_)
  · obtain rfl := Option.some.inj hf
    exact j_vret hE hq rfl rfl dX3_addThree_185
  · refine j_aload_n hE dX3_addThree_126 rfl 1 rfl ?_
    refine j_get (v := .ref (b 14)) hE lg_Luck_69 1 rfl 0 (wg_Road_0 g b ro_z) rfl dX3_addThree_127 ?_
    refine j_iload_n hE dX3_addThree_130 rfl 2 rfl ?_
    refine j_iload_n hE dX3_addThree_131 rfl 3 rfl ?_
    refine j_iload hE dX3_addThree_132 4 rfl ?_
    refine j_aload_n hE dX3_addThree_134 rfl 0 rfl ?_
    refine j_get (v := .int (lu_z 0 0)) hE lg_Luck_9 0 rfl 0 (wg_Luck_0 g a lu_z lu_y) rfl dX3_addThree_135 ?_
    obtain ⟨q12, hc13, hf⟩ := bind_of hf
    refine j_callV (ws' := ([n_Luck g a lu_z lu_y, n_Road g b ro_z, n_Kinds g (fun i => b (i + 8)) ki_z, n_Rule g (fun i => b (i + 14)) q12.1 q12.2.1, n_Notes g (fun i => b (i + 17)) no_z] : List va_W)) (As := [.int x2, .int x3, .int x4, .int (lu_z 0 0)]) (rest := []) (st2 := [.int q12.2.2]) hE (fun l => c_Rule_takes l g (fun i => b (i + 14)) ru_z ru_y x2 x3 x4 (lu_z 0 0) q12 hc13) cd_X9_takes cv_X9_takes ml_Luck_73 rfl rfl rfl (wg_Rule_0 _ _ _ _) ⟨⟨Nat.le_of_ble_eq_true rfl, Nat.le_of_ble_eq_true rfl⟩, ⟨Nat.zero_le _, Nat.zero_le _⟩, rfl, rfl⟩ [3] rfl rfl rfl (Nat.le_of_ble_eq_true rfl) rfl dX3_addThree_138 ?_
    refine j_if_eq (tgt := 185) hE hf dX3_addThree_141 (by decide) (fun c14 hf => ?_) (fun c14 hf => ?_)
    · obtain rfl := Option.some.inj hf
      exact j_vret hE hq rfl rfl dX3_addThree_185
    · refine j_aload_n hE dX3_addThree_144 rfl 0 rfl ?_
      refine j_dup hE dX3_addThree_145 rfl ?_
      refine j_get (v := .long (lu_y 1 0)) hE lg_Luck_15 0 rfl 0 (wg_Luck_0 g a lu_z lu_y) rfl dX3_addThree_146 ?_
      refine j_lload hE dX3_addThree_149 5 rfl ?_
      refine j_ladd hE dX3_addThree_151 ?_
      refine j_put (v := .long ((lu_y 1 0) + v6)) (ws' := ([n_Luck g a lu_z (up2 lu_y 1 0 ((lu_y 1 0) + v6)), n_Road g b ro_z, n_Kinds g (fun i => b (i + 8)) ki_z, n_Rule g (fun i => b (i + 14)) q12.1 q12.2.1, n_Notes g (fun i => b (i + 17)) no_z] : List va_W)) hE lp_Luck_15 0 rfl 0 (wg_Luck_0 g a lu_z lu_y) rfl rfl (Nat.le_of_ble_eq_true rfl) (wp_Luck_1 g a lu_z lu_y ((lu_y 1 0) + v6)) rfl dX3_addThree_152 ?_
      refine j_aload_n hE dX3_addThree_155 rfl 0 rfl ?_
      refine j_dup hE dX3_addThree_156 rfl ?_
      refine j_get (v := .long (lu_y 2 0)) hE lg_Luck_19 0 rfl 0 (wg_Luck_0 g a lu_z (up2 lu_y 1 0 ((lu_y 1 0) + v6))) rfl dX3_addThree_157 ?_
      refine j_lload hE dX3_addThree_160 5 rfl ?_
      refine j_iload_n hE dX3_addThree_162 rfl 2 rfl ?_
      refine j_iload_n hE dX3_addThree_163 rfl 3 rfl ?_
      refine j_iadd hE dX3_addThree_164 ?_
      refine j_iload hE dX3_addThree_165 4 rfl ?_
      refine j_iadd hE dX3_addThree_167 ?_
      refine j_i2l hE dX3_addThree_168 ?_
      refine j_lmul hE dX3_addThree_169 ?_
      refine j_ladd hE dX3_addThree_170 ?_
      refine j_put (v := .long ((lu_y 2 0) + (v6 * (Int32.toInt64 ((x2 + x3) + x4))))) (ws' := ([n_Luck g a lu_z (up2 (up2 lu_y 1 0 ((lu_y 1 0) + v6)) 2 0 ((lu_y 2 0) + (v6 * (Int32.toInt64 ((x2 + x3) + x4))))), n_Road g b ro_z, n_Kinds g (fun i => b (i + 8)) ki_z, n_Rule g (fun i => b (i + 14)) q12.1 q12.2.1, n_Notes g (fun i => b (i + 17)) no_z] : List va_W)) hE lp_Luck_19 0 rfl 0 (wg_Luck_0 g a lu_z (up2 lu_y 1 0 ((lu_y 1 0) + v6))) rfl rfl (Nat.le_of_ble_eq_true rfl) (wp_Luck_2 g a lu_z (up2 lu_y 1 0 ((lu_y 1 0) + v6)) ((lu_y 2 0) + (v6 * (Int32.toInt64 ((x2 + x3) + x4))))) rfl dX3_addThree_171 ?_
      refine j_aload_n hE dX3_addThree_174 rfl 0 rfl ?_
      refine j_dup hE dX3_addThree_175 rfl ?_
      refine j_get (v := .long (lu_y 3 0)) hE lg_Luck_22 0 rfl 0 (wg_Luck_0 g a lu_z (up2 (up2 lu_y 1 0 ((lu_y 1 0) + v6)) 2 0 ((lu_y 2 0) + (v6 * (Int32.toInt64 ((x2 + x3) + x4)))))) rfl dX3_addThree_176 ?_
      refine j_lload hE dX3_addThree_179 6 rfl ?_
      refine j_ladd hE dX3_addThree_181 ?_
      refine j_put (v := .long ((lu_y 3 0) + v8)) (ws' := ([n_Luck g a lu_z (up2 (up2 (up2 lu_y 1 0 ((lu_y 1 0) + v6)) 2 0 ((lu_y 2 0) + (v6 * (Int32.toInt64 ((x2 + x3) + x4))))) 3 0 ((lu_y 3 0) + v8)), n_Road g b ro_z, n_Kinds g (fun i => b (i + 8)) ki_z, n_Rule g (fun i => b (i + 14)) q12.1 q12.2.1, n_Notes g (fun i => b (i + 17)) no_z] : List va_W)) hE lp_Luck_22 0 rfl 0 (wg_Luck_0 g a lu_z (up2 (up2 lu_y 1 0 ((lu_y 1 0) + v6)) 2 0 ((lu_y 2 0) + (v6 * (Int32.toInt64 ((x2 + x3) + x4)))))) rfl rfl (Nat.le_of_ble_eq_true rfl) (wp_Luck_3 g a lu_z (up2 (up2 lu_y 1 0 ((lu_y 1 0) + v6)) 2 0 ((lu_y 2 0) + (v6 * (Int32.toInt64 ((x2 + x3) + x4))))) ((lu_y 3 0) + v8)) rfl dX3_addThree_182 ?_
      obtain rfl := Option.some.inj hf
      exact j_vret hE hq rfl rfl dX3_addThree_185
set_option maxRecDepth 100000 in
theorem j_Luck_addThree_15 (E : jT) (g : jG) (a : Nat → Nat) (b : Nat → Nat) (lu_z : jZ) (ro_z : jZ) (ki_z : jZ) (no_z : jZ) (x2 : Int32) (x3 : Int32) (x4 : Int32) (res : jY × jZ × jY) (hE : jOk E g RX3 cX3_addThree 13 (none : Option Jvm.ClassFile.FieldType) rm_Luck_addThree) (hq : jEnd E g none (([n_Luck g a lu_z res.1, n_Road g b ro_z, n_Kinds g (fun i => b (i + 8)) ki_z, n_Rule g (fun i => b (i + 14)) res.2.1 res.2.2, n_Notes g (fun i => b (i + 17)) no_z] : List va_W)) 0 0)  : ∀ (n : Nat) (lu_y : jY) (ru_z : jZ) (ru_y : jY) (v6 : Int64) (v8 : Int64) (v10 : Int32), f_Luck_addThree_15 lu_z ki_z x2 x3 x4 n lu_y ru_z ru_y v6 v8 v10 = some res → J E g 0 0 (([n_Luck g a lu_z lu_y, n_Road g b ro_z, n_Kinds g (fun i => b (i + 8)) ki_z, n_Rule g (fun i => b (i + 14)) ru_z ru_y, n_Notes g (fun i => b (i + 17)) no_z] : List va_W)) [(0, .ref (a 0)), (1, .ref (b 0)), (2, .int x2), (3, .int x3), (4, .int x4), (5, .ref (b 8)), (6, .long v6), (8, .long v8), (10, .int v10)] 15 [] := by
  intro n
  induction n with
  | zero =>
    intro lu_y ru_z ru_y v6 v8 v10 hf
    rw [f_Luck_addThree_15] at hf
    cases hf
  | succ n ih =>
    intro lu_y ru_z ru_y v6 v8 v10 hf
    rw [f_Luck_addThree_15] at hf
    refine j_iload hE dX3_addThree_15 8 rfl ?_
    refine j_aload hE dX3_addThree_17 5 rfl ?_
    refine j_get (v := .int (ki_z 0 0)) hE lg_Luck_52 2 rfl 0 (wg_Kinds_0 g (fun i => b (i + 8)) ki_z) rfl dX3_addThree_19 ?_
    refine j_icmp_ge (tgt := 119) hE hf dX3_addThree_22 (by decide) (fun c1 hf => ?_) (fun c1 hf => ?_)
    · exact j_sub [0, 1, 2, 3, 4, 6, 7] rfl (j_Luck_addThree_119 E g a b lu_z ro_z ki_z no_z x2 x3 x4 res hE hq lu_y ru_z ru_y v6 v8 hf)
    · refine j_iload hE dX3_addThree_25 8 rfl ?_
      refine j_iconst (v := 5) hE dX3_addThree_27 (by decide) ?_
      refine j_icmp_ge (tgt := 119) hE hf dX3_addThree_28 (by decide) (fun c2 hf => ?_) (fun c2 hf => ?_)
      · exact j_sub [0, 1, 2, 3, 4, 6, 7] rfl (j_Luck_addThree_119 E g a b lu_z ro_z ki_z no_z x2 x3 x4 res hE hq lu_y ru_z ru_y v6 v8 hf)
      · refine j_aload hE dX3_addThree_31 5 rfl ?_
        refine j_get (v := .ref (b 10)) hE lg_Luck_57 2 rfl 0 (wg_Kinds_0 g (fun i => b (i + 8)) ki_z) rfl dX3_addThree_33 ?_
        refine j_iload hE dX3_addThree_36 8 rfl ?_
        refine j_iald hE hf 2 rfl 2 (wg_Kinds_2 g (fun i => b (i + 8)) ki_z) dX3_addThree_38 (fun hf => ?_)
        refine j_i2l hE dX3_addThree_39 ?_
        refine j_lstore (lv' := [(11, .long (Int32.toInt64 (ki_z 3 (Int32.toNatClampNeg v10)))), (0, .ref (a 0)), (1, .ref (b 0)), (2, .int x2), (3, .int x3), (4, .int x4), (5, .ref (b 8)), (6, .long v6), (8, .long v8), (10, .int v10)]) hE dX3_addThree_40 (by decide) rfl ?_
        refine j_lload hE dX3_addThree_42 0 rfl ?_
        refine j_aload hE dX3_addThree_44 6 rfl ?_
        refine j_iload hE dX3_addThree_46 9 rfl ?_
        refine j_iload_n hE dX3_addThree_48 rfl 3 rfl ?_
        obtain ⟨q4, hc5, hf⟩ := bind_of hf
        refine j_callV (ws' := ([n_Luck g a lu_z lu_y, n_Road g b ro_z, n_Kinds g (fun i => b (i + 8)) ki_z, n_Rule g (fun i => b (i + 14)) ru_z ru_y, n_Notes g (fun i => b (i + 17)) no_z] : List va_W)) (As := [.int v10, .int x2]) (rest := [.long (Int32.toInt64 (ki_z 3 (Int32.toNatClampNeg v10)))]) (st2 := [.int q4, .long (Int32.toInt64 (ki_z 3 (Int32.toNatClampNeg v10)))]) hE (fun l => c_Kinds_howManyAre l g (fun i => b (i + 8)) ki_z v10 x2 q4 hc5) cd_X2_howManyAre cv_X2_howManyAre ml_Luck_60 rfl rfl rfl (wg_Kinds_0 _ _ _) ⟨⟨Nat.le_of_ble_eq_true rfl, Nat.le_of_ble_eq_true rfl⟩, ⟨Nat.zero_le _, Nat.zero_le _⟩, rfl, rfl⟩ [2] rfl rfl rfl (Nat.le_of_ble_eq_true rfl) rfl dX3_addThree_49 ?_
        refine j_i2l hE dX3_addThree_52 ?_
        refine j_lmul hE dX3_addThree_53 ?_
        refine j_lstore (lv' := [(11, .long ((Int32.toInt64 (ki_z 3 (Int32.toNatClampNeg v10))) * (Int32.toInt64 q4))), (0, .ref (a 0)), (1, .ref (b 0)), (2, .int x2), (3, .int x3), (4, .int x4), (5, .ref (b 8)), (6, .long v6), (8, .long v8), (10, .int v10)]) hE dX3_addThree_54 (by decide) rfl ?_
        refine j_lload hE dX3_addThree_56 0 rfl ?_
        refine j_aload hE dX3_addThree_58 6 rfl ?_
        refine j_iload hE dX3_addThree_60 9 rfl ?_
        refine j_iload_n hE dX3_addThree_62 rfl 4 rfl ?_
        obtain ⟨q6, hc7, hf⟩ := bind_of hf
        refine j_callV (ws' := ([n_Luck g a lu_z lu_y, n_Road g b ro_z, n_Kinds g (fun i => b (i + 8)) ki_z, n_Rule g (fun i => b (i + 14)) ru_z ru_y, n_Notes g (fun i => b (i + 17)) no_z] : List va_W)) (As := [.int v10, .int x3]) (rest := [.long ((Int32.toInt64 (ki_z 3 (Int32.toNatClampNeg v10))) * (Int32.toInt64 q4))]) (st2 := [.int q6, .long ((Int32.toInt64 (ki_z 3 (Int32.toNatClampNeg v10))) * (Int32.toInt64 q4))]) hE (fun l => c_Kinds_howManyAre l g (fun i => b (i + 8)) ki_z v10 x3 q6 hc7) cd_X2_howManyAre cv_X2_howManyAre ml_Luck_60 rfl rfl rfl (wg_Kinds_0 _ _ _) ⟨⟨Nat.le_of_ble_eq_true rfl, Nat.le_of_ble_eq_true rfl⟩, ⟨Nat.zero_le _, Nat.zero_le _⟩, rfl, rfl⟩ [2] rfl rfl rfl (Nat.le_of_ble_eq_true rfl) rfl dX3_addThree_63 ?_
        refine j_i2l hE dX3_addThree_66 ?_
        refine j_lmul hE dX3_addThree_67 ?_
        refine j_lstore (lv' := [(11, .long (((Int32.toInt64 (ki_z 3 (Int32.toNatClampNeg v10))) * (Int32.toInt64 q4)) * (Int32.toInt64 q6))), (0, .ref (a 0)), (1, .ref (b 0)), (2, .int x2), (3, .int x3), (4, .int x4), (5, .ref (b 8)), (6, .long v6), (8, .long v8), (10, .int v10)]) hE dX3_addThree_68 (by decide) rfl ?_
        refine j_lload hE dX3_addThree_70 0 rfl ?_
        refine j_aload hE dX3_addThree_72 6 rfl ?_
        refine j_iload hE dX3_addThree_74 9 rfl ?_
        refine j_iload hE dX3_addThree_76 5 rfl ?_
        obtain ⟨q8, hc9, hf⟩ := bind_of hf
        refine j_callV (ws' := ([n_Luck g a lu_z lu_y, n_Road g b ro_z, n_Kinds g (fun i => b (i + 8)) ki_z, n_Rule g (fun i => b (i + 14)) ru_z ru_y, n_Notes g (fun i => b (i + 17)) no_z] : List va_W)) (As := [.int v10, .int x4]) (rest := [.long (((Int32.toInt64 (ki_z 3 (Int32.toNatClampNeg v10))) * (Int32.toInt64 q4)) * (Int32.toInt64 q6))]) (st2 := [.int q8, .long (((Int32.toInt64 (ki_z 3 (Int32.toNatClampNeg v10))) * (Int32.toInt64 q4)) * (Int32.toInt64 q6))]) hE (fun l => c_Kinds_howManyAre l g (fun i => b (i + 8)) ki_z v10 x4 q8 hc9) cd_X2_howManyAre cv_X2_howManyAre ml_Luck_60 rfl rfl rfl (wg_Kinds_0 _ _ _) ⟨⟨Nat.le_of_ble_eq_true rfl, Nat.le_of_ble_eq_true rfl⟩, ⟨Nat.zero_le _, Nat.zero_le _⟩, rfl, rfl⟩ [2] rfl rfl rfl (Nat.le_of_ble_eq_true rfl) rfl dX3_addThree_78 ?_
        refine j_i2l hE dX3_addThree_81 ?_
        refine j_lmul hE dX3_addThree_82 ?_
        refine j_lstore (lv' := [(11, .long ((((Int32.toInt64 (ki_z 3 (Int32.toNatClampNeg v10))) * (Int32.toInt64 q4)) * (Int32.toInt64 q6)) * (Int32.toInt64 q8))), (0, .ref (a 0)), (1, .ref (b 0)), (2, .int x2), (3, .int x3), (4, .int x4), (5, .ref (b 8)), (6, .long v6), (8, .long v8), (10, .int v10)]) hE dX3_addThree_83 (by decide) rfl ?_
        refine j_lload hE dX3_addThree_85 7 rfl ?_
        refine j_lload hE dX3_addThree_87 0 rfl ?_
        refine j_ladd hE dX3_addThree_89 ?_
        refine j_lstore (lv' := [(6, .long (v6 + ((((Int32.toInt64 (ki_z 3 (Int32.toNatClampNeg v10))) * (Int32.toInt64 q4)) * (Int32.toInt64 q6)) * (Int32.toInt64 q8)))), (11, .long ((((Int32.toInt64 (ki_z 3 (Int32.toNatClampNeg v10))) * (Int32.toInt64 q4)) * (Int32.toInt64 q6)) * (Int32.toInt64 q8))), (0, .ref (a 0)), (1, .ref (b 0)), (2, .int x2), (3, .int x3), (4, .int x4), (5, .ref (b 8)), (8, .long v8), (10, .int v10)]) hE dX3_addThree_90 (by decide) rfl ?_
        refine j_lload hE dX3_addThree_92 8 rfl ?_
        refine j_lload hE dX3_addThree_94 1 rfl ?_
        refine j_ldc2 hE co_Luck_64 dX3_addThree_96 ?_
        refine j_lmul hE dX3_addThree_99 ?_
        refine j_aload hE dX3_addThree_100 7 rfl ?_
        refine j_get (v := .ref (b 11)) hE lg_Luck_66 2 rfl 0 (wg_Kinds_0 g (fun i => b (i + 8)) ki_z) rfl dX3_addThree_102 ?_
        refine j_iload hE dX3_addThree_105 9 rfl ?_
        refine j_iald hE hf 2 rfl 3 (wg_Kinds_3 g (fun i => b (i + 8)) ki_z) dX3_addThree_107 (fun hf => ?_)
        refine j_i2l hE dX3_addThree_108 ?_
        refine j_lmul hE dX3_addThree_109 ?_
        refine j_ladd hE dX3_addThree_110 ?_
        refine j_lstore (lv' := [(8, .long (v8 + ((((((Int32.toInt64 (ki_z 3 (Int32.toNatClampNeg v10))) * (Int32.toInt64 q4)) * (Int32.toInt64 q6)) * (Int32.toInt64 q8)) * 3) * (Int32.toInt64 (ki_z 4 (Int32.toNatClampNeg v10)))))), (6, .long (v6 + ((((Int32.toInt64 (ki_z 3 (Int32.toNatClampNeg v10))) * (Int32.toInt64 q4)) * (Int32.toInt64 q6)) * (Int32.toInt64 q8)))), (11, .long ((((Int32.toInt64 (ki_z 3 (Int32.toNatClampNeg v10))) * (Int32.toInt64 q4)) * (Int32.toInt64 q6)) * (Int32.toInt64 q8))), (0, .ref (a 0)), (1, .ref (b 0)), (2, .int x2), (3, .int x3), (4, .int x4), (5, .ref (b 8)), (10, .int v10)]) hE dX3_addThree_111 (by decide) rfl ?_
        refine j_iinc (v := (v10 + 1)) (lv' := [(10, .int (v10 + 1)), (8, .long (v8 + ((((((Int32.toInt64 (ki_z 3 (Int32.toNatClampNeg v10))) * (Int32.toInt64 q4)) * (Int32.toInt64 q6)) * (Int32.toInt64 q8)) * 3) * (Int32.toInt64 (ki_z 4 (Int32.toNatClampNeg v10)))))), (6, .long (v6 + ((((Int32.toInt64 (ki_z 3 (Int32.toNatClampNeg v10))) * (Int32.toInt64 q4)) * (Int32.toInt64 q6)) * (Int32.toInt64 q8)))), (11, .long ((((Int32.toInt64 (ki_z 3 (Int32.toNatClampNeg v10))) * (Int32.toInt64 q4)) * (Int32.toInt64 q6)) * (Int32.toInt64 q8))), (0, .ref (a 0)), (1, .ref (b 0)), (2, .int x2), (3, .int x3), (4, .int x4), (5, .ref (b 8))]) hE dX3_addThree_113 9 rfl rfl (by decide) rfl ?_
        refine j_goto (tgt := 15) hE dX3_addThree_116 (by decide) ?_
        exact j_sub [4, 5, 6, 7, 8, 9, 2, 1, 0] rfl (ih lu_y ru_z ru_y (v6 + ((((Int32.toInt64 (ki_z 3 (Int32.toNatClampNeg v10))) * (Int32.toInt64 q4)) * (Int32.toInt64 q6)) * (Int32.toInt64 q8))) (v8 + ((((((Int32.toInt64 (ki_z 3 (Int32.toNatClampNeg v10))) * (Int32.toInt64 q4)) * (Int32.toInt64 q6)) * (Int32.toInt64 q8)) * 3) * (Int32.toInt64 (ki_z 4 (Int32.toNatClampNeg v10))))) (v10 + 1) hf)
set_option maxRecDepth 100000 in
theorem c_Luck_addThree (l : Launch) (g : jG) (a : Nat → Nat) (b : Nat → Nat) (lu_z : jZ) (lu_y : jY) (ro_z : jZ) (ki_z : jZ) (ru_z : jZ) (ru_y : jY) (no_z : jZ) (x2 : Int32) (x3 : Int32) (x4 : Int32) (res : jY × jZ × jY) (hf : f_Luck_addThree lu_z lu_y ki_z ru_z ru_y x2 x3 x4 = some res) : MC l g yX3_addThree cX3_addThree 13 (none : Option Jvm.ClassFile.FieldType) rm_Luck_addThree [.ref (a 0), .ref (b 0), .int x2, .int x3, .int x4] (([n_Luck g a lu_z lu_y, n_Road g b ro_z, n_Kinds g (fun i => b (i + 8)) ki_z, n_Rule g (fun i => b (i + 14)) ru_z ru_y, n_Notes g (fun i => b (i + 17)) no_z] : List va_W)) none (([n_Luck g a lu_z res.1, n_Road g b ro_z, n_Kinds g (fun i => b (i + 8)) ki_z, n_Rule g (fun i => b (i + 14)) res.2.1 res.2.2, n_Notes g (fun i => b (i + 17)) no_z] : List va_W)) 0 0 := by
  refine MC_of (own := RX3) (lv := [(0, .ref (a 0)), (1, .ref (b 0)), (2, .int x2), (3, .int x3), (4, .int x4)]) (by decide) rfl (Nat.le_of_ble_eq_true rfl) rfl rfl (fun E hE hq => ?_)
  unfold f_Luck_addThree at hf
  refine j_aload_n hE dX3_addThree_0 rfl 1 rfl ?_
  refine j_get (v := .ref (b 8)) hE lg_Luck_46 1 rfl 0 (wg_Road_0 g b ro_z) rfl dX3_addThree_1 ?_
  refine j_astore (lv' := [(5, .ref (b 8)), (0, .ref (a 0)), (1, .ref (b 0)), (2, .int x2), (3, .int x3), (4, .int x4)]) hE dX3_addThree_4 (by decide) rfl ?_
  refine j_lconst (v := 0) hE dX3_addThree_6 (by decide) ?_
  refine j_lstore (lv' := [(6, .long 0), (5, .ref (b 8)), (0, .ref (a 0)), (1, .ref (b 0)), (2, .int x2), (3, .int x3), (4, .int x4)]) hE dX3_addThree_7 (by decide) rfl ?_
  refine j_lconst (v := 0) hE dX3_addThree_9 (by decide) ?_
  refine j_lstore (lv' := [(8, .long 0), (6, .long 0), (5, .ref (b 8)), (0, .ref (a 0)), (1, .ref (b 0)), (2, .int x2), (3, .int x3), (4, .int x4)]) hE dX3_addThree_10 (by decide) rfl ?_
  refine j_iconst (v := 0) hE dX3_addThree_12 (by decide) ?_
  refine j_istore (lv' := [(10, .int 0), (8, .long 0), (6, .long 0), (5, .ref (b 8)), (0, .ref (a 0)), (1, .ref (b 0)), (2, .int x2), (3, .int x3), (4, .int x4)]) hE dX3_addThree_13 (by decide) rfl ?_
  exact j_sub [4, 5, 6, 7, 8, 3, 2, 1, 0] rfl (j_Luck_addThree_15 E g a b lu_z ro_z ki_z no_z x2 x3 x4 res hE hq FU lu_y ru_z ru_y 0 0 0 hf)
def rm_Luck_applyLaw : Room := { frames := 5, cells := 0, slots := 0, locals := 135 }
def f_Luck_applyLaw_31 (ki_z : jZ) (x2 : Int32)  : Nat → jZ → jY → jZ → jY → Int32 → Option (jZ × jY × jZ × jY)
  | 0, _, _, _, _, _ => none
  | n + 1, lu_z, lu_y, ru_z, ru_y, v3 => (if 1000 ≤ v3 then some (lu_z, lu_y, ru_z, ru_y)
    else (f_Luck_addThree lu_z lu_y ki_z ru_z ru_y (v3 / 100) ((v3 / 10) - (v3 / 10) / 10 * 10) (v3 - v3 / 10 * 10)).bind fun q3 => f_Luck_applyLaw_31 ki_z x2 n lu_z q3.1 q3.2.1 q3.2.2 (v3 + 1))
def f_Luck_applyLaw (lu_z : jZ) (lu_y : jY) (ki_z : jZ) (ru_z : jZ) (ru_y : jY) (x2 : Int32) : Option (jZ × jY × jZ × jY) := (if (lu_z 0 0) = x2 then some (lu_z, lu_y, ru_z, ru_y)
    else f_Luck_applyLaw_31 ki_z x2 FU (up2 lu_z 0 0 x2) (up2 (up2 (up2 lu_y 1 0 0) 2 0 0) 3 0 0) ru_z ru_y 0)
set_option maxRecDepth 100000 in
theorem j_Luck_applyLaw_31 (E : jT) (g : jG) (a : Nat → Nat) (b : Nat → Nat) (ro_z : jZ) (ki_z : jZ) (no_z : jZ) (x2 : Int32) (res : jZ × jY × jZ × jY) (hE : jOk E g RX3 cX3_applyLaw 4 (none : Option Jvm.ClassFile.FieldType) rm_Luck_applyLaw) (hq : jEnd E g none (([n_Luck g a res.1 res.2.1, n_Road g b ro_z, n_Kinds g (fun i => b (i + 8)) ki_z, n_Rule g (fun i => b (i + 14)) res.2.2.1 res.2.2.2, n_Notes g (fun i => b (i + 17)) no_z] : List va_W)) 0 0)  : ∀ (n : Nat) (lu_z : jZ) (lu_y : jY) (ru_z : jZ) (ru_y : jY) (v3 : Int32), f_Luck_applyLaw_31 ki_z x2 n lu_z lu_y ru_z ru_y v3 = some res → J E g 0 0 (([n_Luck g a lu_z lu_y, n_Road g b ro_z, n_Kinds g (fun i => b (i + 8)) ki_z, n_Rule g (fun i => b (i + 14)) ru_z ru_y, n_Notes g (fun i => b (i + 17)) no_z] : List va_W)) [(0, .ref (a 0)), (1, .ref (b 0)), (3, .int v3)] 31 [] := by
  intro n
  induction n with
  | zero =>
    intro lu_z lu_y ru_z ru_y v3 hf
    rw [f_Luck_applyLaw_31] at hf
    cases hf
  | succ n ih =>
    intro lu_z lu_y ru_z ru_y v3 hf
    rw [f_Luck_applyLaw_31] at hf
    refine j_iload_n hE dX3_applyLaw_31 rfl 2 rfl ?_
    refine j_sipush (v := 1000) hE dX3_applyLaw_32 (by decide) ?_
    refine j_icmp_ge (tgt := 64) hE hf dX3_applyLaw_35 (by decide) (fun c2 hf => ?_) (fun c2 hf => ?_)
    · obtain rfl := Option.some.inj hf
      exact j_vret hE hq rfl rfl dX3_applyLaw_64
    · refine j_aload_n hE dX3_applyLaw_38 rfl 0 rfl ?_
      refine j_aload_n hE dX3_applyLaw_39 rfl 1 rfl ?_
      refine j_iload_n hE dX3_applyLaw_40 rfl 2 rfl ?_
      refine j_bipush (v := 100) hE dX3_applyLaw_41 (by decide) ?_
      refine j_idiv_c hE (by decide) dX3_applyLaw_43 ?_
      refine j_iload_n hE dX3_applyLaw_44 rfl 2 rfl ?_
      refine j_bipush (v := 10) hE dX3_applyLaw_45 (by decide) ?_
      refine j_idiv_c hE (by decide) dX3_applyLaw_47 ?_
      refine j_bipush (v := 10) hE dX3_applyLaw_48 (by decide) ?_
      refine j_irem_c hE (by decide) dX3_applyLaw_50 ?_
      refine j_iload_n hE dX3_applyLaw_51 rfl 2 rfl ?_
      refine j_bipush (v := 10) hE dX3_applyLaw_52 (by decide) ?_
      refine j_irem_c hE (by decide) dX3_applyLaw_54 ?_
      obtain ⟨q3, hc4, hf⟩ := bind_of hf
      refine j_callV (ws' := ([n_Luck g a lu_z q3.1, n_Road g b ro_z, n_Kinds g (fun i => b (i + 8)) ki_z, n_Rule g (fun i => b (i + 14)) q3.2.1 q3.2.2, n_Notes g (fun i => b (i + 17)) no_z] : List va_W)) (As := [.ref (b 0), .int (v3 / 100), .int ((v3 / 10) - (v3 / 10) / 10 * 10), .int (v3 - v3 / 10 * 10)]) (rest := []) (st2 := []) hE (fun l => c_Luck_addThree l g a b lu_z lu_y ro_z ki_z ru_z ru_y no_z (v3 / 100) ((v3 / 10) - (v3 / 10) / 10 * 10) (v3 - v3 / 10 * 10) q3 hc4) cd_X3_addThree cv_X3_addThree ml_Luck_38 rfl rfl rfl (wg_Luck_0 _ _ _ _) ⟨⟨Nat.le_of_ble_eq_true rfl, Nat.le_of_ble_eq_true rfl⟩, ⟨Nat.zero_le _, Nat.zero_le _⟩, rfl, rfl⟩ [0, 1, 2, 3, 4] rfl rfl rfl (Nat.le_of_ble_eq_true rfl) rfl dX3_applyLaw_55 ?_
      refine j_iinc (v := (v3 + 1)) (lv' := [(3, .int (v3 + 1)), (0, .ref (a 0)), (1, .ref (b 0))]) hE dX3_applyLaw_58 2 rfl rfl (by decide) rfl ?_
      refine j_goto (tgt := 31) hE dX3_applyLaw_61 (by decide) ?_
      exact j_sub [1, 2, 0] rfl (ih lu_z q3.1 q3.2.1 q3.2.2 (v3 + 1) hf)
set_option maxRecDepth 100000 in
theorem c_Luck_applyLaw (l : Launch) (g : jG) (a : Nat → Nat) (b : Nat → Nat) (lu_z : jZ) (lu_y : jY) (ro_z : jZ) (ki_z : jZ) (ru_z : jZ) (ru_y : jY) (no_z : jZ) (x2 : Int32) (res : jZ × jY × jZ × jY) (hf : f_Luck_applyLaw lu_z lu_y ki_z ru_z ru_y x2 = some res) : MC l g yX3_applyLaw cX3_applyLaw 4 (none : Option Jvm.ClassFile.FieldType) rm_Luck_applyLaw [.ref (a 0), .ref (b 0), .int x2] (([n_Luck g a lu_z lu_y, n_Road g b ro_z, n_Kinds g (fun i => b (i + 8)) ki_z, n_Rule g (fun i => b (i + 14)) ru_z ru_y, n_Notes g (fun i => b (i + 17)) no_z] : List va_W)) none (([n_Luck g a res.1 res.2.1, n_Road g b ro_z, n_Kinds g (fun i => b (i + 8)) ki_z, n_Rule g (fun i => b (i + 14)) res.2.2.1 res.2.2.2, n_Notes g (fun i => b (i + 17)) no_z] : List va_W)) 0 0 := by
  refine MC_of (own := RX3) (lv := [(0, .ref (a 0)), (1, .ref (b 0)), (2, .int x2)]) (by decide) rfl (Nat.le_of_ble_eq_true rfl) rfl rfl (fun E hE hq => ?_)
  unfold f_Luck_applyLaw at hf
  refine j_aload_n hE dX3_applyLaw_0 rfl 0 rfl ?_
  refine j_get (v := .int (lu_z 0 0)) hE lg_Luck_9 0 rfl 0 (wg_Luck_0 g a lu_z lu_y) rfl dX3_applyLaw_1 ?_
  refine j_iload_n hE dX3_applyLaw_4 rfl 2 rfl ?_
  refine j_icmp_ne (tgt := 9) hE hf dX3_applyLaw_5 (by decide) (fun c1 hf => ?_) (fun c1 hf => ?_)
  · refine j_aload_n hE dX3_applyLaw_9 rfl 0 rfl ?_
    refine j_iload_n hE dX3_applyLaw_10 rfl 2 rfl ?_
    refine j_put (v := .int x2) (ws' := ([n_Luck g a (up2 lu_z 0 0 x2) lu_y, n_Road g b ro_z, n_Kinds g (fun i => b (i + 8)) ki_z, n_Rule g (fun i => b (i + 14)) ru_z ru_y, n_Notes g (fun i => b (i + 17)) no_z] : List va_W)) hE lp_Luck_9 0 rfl 0 (wg_Luck_0 g a lu_z lu_y) rfl rfl (Nat.le_of_ble_eq_true rfl) (wp_Luck_0 g a lu_z lu_y x2) rfl dX3_applyLaw_11 ?_
    refine j_aload_n hE dX3_applyLaw_14 rfl 0 rfl ?_
    refine j_lconst (v := 0) hE dX3_applyLaw_15 (by decide) ?_
    refine j_put (v := .long 0) (ws' := ([n_Luck g a (up2 lu_z 0 0 x2) (up2 lu_y 1 0 0), n_Road g b ro_z, n_Kinds g (fun i => b (i + 8)) ki_z, n_Rule g (fun i => b (i + 14)) ru_z ru_y, n_Notes g (fun i => b (i + 17)) no_z] : List va_W)) hE lp_Luck_15 0 rfl 0 (wg_Luck_0 g a (up2 lu_z 0 0 x2) lu_y) rfl rfl (Nat.le_of_ble_eq_true rfl) (wp_Luck_1 g a (up2 lu_z 0 0 x2) lu_y 0) rfl dX3_applyLaw_16 ?_
    refine j_aload_n hE dX3_applyLaw_19 rfl 0 rfl ?_
    refine j_lconst (v := 0) hE dX3_applyLaw_20 (by decide) ?_
    refine j_put (v := .long 0) (ws' := ([n_Luck g a (up2 lu_z 0 0 x2) (up2 (up2 lu_y 1 0 0) 2 0 0), n_Road g b ro_z, n_Kinds g (fun i => b (i + 8)) ki_z, n_Rule g (fun i => b (i + 14)) ru_z ru_y, n_Notes g (fun i => b (i + 17)) no_z] : List va_W)) hE lp_Luck_19 0 rfl 0 (wg_Luck_0 g a (up2 lu_z 0 0 x2) (up2 lu_y 1 0 0)) rfl rfl (Nat.le_of_ble_eq_true rfl) (wp_Luck_2 g a (up2 lu_z 0 0 x2) (up2 lu_y 1 0 0) 0) rfl dX3_applyLaw_21 ?_
    refine j_aload_n hE dX3_applyLaw_24 rfl 0 rfl ?_
    refine j_lconst (v := 0) hE dX3_applyLaw_25 (by decide) ?_
    refine j_put (v := .long 0) (ws' := ([n_Luck g a (up2 lu_z 0 0 x2) (up2 (up2 (up2 lu_y 1 0 0) 2 0 0) 3 0 0), n_Road g b ro_z, n_Kinds g (fun i => b (i + 8)) ki_z, n_Rule g (fun i => b (i + 14)) ru_z ru_y, n_Notes g (fun i => b (i + 17)) no_z] : List va_W)) hE lp_Luck_22 0 rfl 0 (wg_Luck_0 g a (up2 lu_z 0 0 x2) (up2 (up2 lu_y 1 0 0) 2 0 0)) rfl rfl (Nat.le_of_ble_eq_true rfl) (wp_Luck_3 g a (up2 lu_z 0 0 x2) (up2 (up2 lu_y 1 0 0) 2 0 0) 0) rfl dX3_applyLaw_26 ?_
    refine j_iconst (v := 0) hE dX3_applyLaw_29 (by decide) ?_
    refine j_istore_n (lv' := [(3, .int 0), (0, .ref (a 0)), (1, .ref (b 0)), (2, .int x2)]) hE dX3_applyLaw_30 rfl (by decide) rfl ?_
    exact j_sub [1, 2, 0] rfl (j_Luck_applyLaw_31 E g a b ro_z ki_z no_z x2 res hE hq FU (up2 lu_z 0 0 x2) (up2 (up2 (up2 lu_y 1 0 0) 2 0 0) 3 0 0) ru_z ru_y 0 hf)
  · obtain rfl := Option.some.inj hf
    exact j_vret hE hq rfl rfl dX3_applyLaw_8
def rm_Luck_ofHundred : Room := { frames := 0, cells := 0, slots := 0, locals := 0 }
def f_Luck_ofHundred (lu_y : jY)  : Option (Int64) := (if (lg_cmp (10 * (lu_y 2 0)) 0) = 0 then some 0
    else (nzl (10 * (lu_y 2 0))).bind fun _ => some ((100 * ((10 * (lu_y 2 0)) - (lu_y 3 0))) / (10 * (lu_y 2 0))))
set_option maxRecDepth 100000 in
theorem c_Luck_ofHundred (l : Launch) (g : jG) (a : Nat → Nat) (lu_z : jZ) (lu_y : jY)  (res : Int64) (hf : f_Luck_ofHundred lu_y = some res) : MC l g yX3_ofHundred cX3_ofHundred 3 (some .long) rm_Luck_ofHundred [.ref (a 0)] (([n_Luck g a lu_z lu_y] : List va_W)) (some (.long res)) (([n_Luck g a lu_z lu_y] : List va_W)) 0 0 := by
  refine MC_of (own := RX3) (lv := [(0, .ref (a 0))]) (by decide) rfl (Nat.le_of_ble_eq_true rfl) rfl rfl (fun E hE hq => ?_)
  unfold f_Luck_ofHundred at hf
  refine j_ldc2 hE co_Luck_42 dX3_ofHundred_0 ?_
  refine j_aload_n hE dX3_ofHundred_3 rfl 0 rfl ?_
  refine j_get (v := .long (lu_y 2 0)) hE lg_Luck_19 0 rfl 0 (wg_Luck_0 g a lu_z lu_y) rfl dX3_ofHundred_4 ?_
  refine j_lmul hE dX3_ofHundred_7 ?_
  refine j_lstore_n (lv' := [(1, .long (10 * (lu_y 2 0))), (0, .ref (a 0))]) hE dX3_ofHundred_8 rfl (by decide) rfl ?_
  refine j_lload_n hE dX3_ofHundred_9 rfl 0 rfl ?_
  refine j_lconst (v := 0) hE dX3_ofHundred_10 (by decide) ?_
  refine j_lcmp hE dX3_ofHundred_11 ?_
  refine j_if_ne (tgt := 19) hE hf dX3_ofHundred_12 (by decide) (fun c1 hf => ?_) (fun c1 hf => ?_)
  · refine j_ldc2 hE co_Luck_44 dX3_ofHundred_19 ?_
    refine j_lload_n hE dX3_ofHundred_22 rfl 0 rfl ?_
    refine j_aload_n hE dX3_ofHundred_23 rfl 1 rfl ?_
    refine j_get (v := .long (lu_y 3 0)) hE lg_Luck_22 0 rfl 0 (wg_Luck_0 g a lu_z lu_y) rfl dX3_ofHundred_24 ?_
    refine j_lsub hE dX3_ofHundred_27 ?_
    refine j_lmul hE dX3_ofHundred_28 ?_
    refine j_lload_n hE dX3_ofHundred_29 rfl 0 rfl ?_
    refine j_ldiv hE hf dX3_ofHundred_30 (fun hf => ?_)
    obtain rfl := Option.some.inj hf
    exact j_lret hE hq rfl rfl dX3_ofHundred_31
  · refine j_lconst (v := 0) hE dX3_ofHundred_15 (by decide) ?_
    refine j_goto (tgt := 31) hE dX3_ofHundred_16 (by decide) ?_
    obtain rfl := Option.some.inj hf
    exact j_lret hE hq rfl rfl dX3_ofHundred_31
