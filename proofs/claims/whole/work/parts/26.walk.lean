def rm_Mo_numeral : Room := { frames := 10, cells := 0, slots := 0, locals := 244 }
def f_Mo_numeral_41  (x1 : Int32) (x2 : Int32)  (mo_z : jZ) : Option (jZ × Int32) := (f_Mo_wrong mo_z 2).bind fun q13 => (if (q13 32 0) = 0 then (f_Mo_next q13).bind fun q16 => some (q16, (q13 31 0))
    else some (q13, x1))
def f_Mo_numeral (mo_z : jZ) (x1 : Int32) (x2 : Int32) : Option (jZ × Int32) := (if (mo_z 32 0) = 0 then (if (mo_z 30 0) = 2 then (if (mo_z 31 0) < x1 then f_Mo_numeral_41 x1 x2 mo_z
    else (if (mo_z 31 0) ≤ x2 then (if (mo_z 32 0) = 0 then (f_Mo_next mo_z).bind fun q6 => some (q6, (mo_z 31 0))
    else some (mo_z, x1))
    else f_Mo_numeral_41 x1 x2 mo_z))
    else (f_Mo_wrong mo_z 1).bind fun q8 => (if (q8 32 0) = 0 then (f_Mo_next q8).bind fun q11 => some (q11, (q8 31 0))
    else some (q8, x1)))
    else some (mo_z, x1))
set_option maxRecDepth 100000 in
theorem j_Mo_numeral_41 (E : jT) (g : jG) (a : Nat → Nat) (mo_y : jY) (x1 : Int32) (x2 : Int32) (res : jZ × Int32) (hE : jOk E g RX12 cX12_numeral 4 (some .int) rm_Mo_numeral) (hq : jEnd E g (some (.int res.2)) (([n_Mo g a res.1 mo_y] : List va_W)) 0 0)  (mo_z : jZ) (hf : f_Mo_numeral_41 x1 x2 mo_z = some res) : J E g 0 0 (([n_Mo g a mo_z mo_y] : List va_W)) [(0, .ref (a 0)), (1, .int x1)] 41 [] := by
  unfold f_Mo_numeral_41 at hf
  refine j_aload_n hE dX12_numeral_41 rfl 0 rfl ?_
  refine j_iconst (v := 2) hE dX12_numeral_42 (by decide) ?_
  obtain ⟨q13, hc14, hf⟩ := bind_of hf
  refine j_callV (ws' := ([n_Mo g a q13 mo_y] : List va_W)) (As := [.int 2]) (rest := []) (st2 := []) hE (fun l => c_Mo_wrong l g a mo_z mo_y 2 q13 hc14) cd_X12_wrong cv_X12_wrong ml_Mo_146 rfl rfl rfl (wg_Mo_0 _ _ _ _) ⟨⟨Nat.le_of_ble_eq_true rfl, Nat.le_of_ble_eq_true rfl⟩, ⟨Nat.zero_le _, Nat.zero_le _⟩, rfl, rfl⟩ [0] rfl rfl rfl (Nat.le_of_ble_eq_true rfl) rfl dX12_numeral_43 ?_
  refine j_aload_n hE dX12_numeral_46 rfl 0 rfl ?_
  refine j_get (v := .int (q13 32 0)) hE lg_Mo_140 0 rfl 0 (wg_Mo_0 g a q13 mo_y) rfl dX12_numeral_47 ?_
  refine j_if_eq (tgt := 55) hE hf dX12_numeral_50 (by decide) (fun c15 hf => ?_) (fun c15 hf => ?_)
  · refine j_aload_n hE dX12_numeral_55 rfl 0 rfl ?_
    refine j_get (v := .int (q13 31 0)) hE lg_Mo_116 0 rfl 0 (wg_Mo_0 g a q13 mo_y) rfl dX12_numeral_56 ?_
    refine j_istore_n (lv' := [(3, .int (q13 31 0)), (0, .ref (a 0)), (1, .int x1)]) hE dX12_numeral_59 rfl (by decide) rfl ?_
    refine j_aload_n hE dX12_numeral_60 rfl 1 rfl ?_
    obtain ⟨q16, hc17, hf⟩ := bind_of hf
    refine j_callV (ws' := ([n_Mo g a q16 mo_y] : List va_W)) (As := []) (rest := []) (st2 := []) hE (fun l => c_Mo_next l g a q13 mo_y q16 hc17) cd_X12_next cv_X12_next ml_Mo_149 rfl rfl rfl (wg_Mo_0 _ _ _ _) ⟨⟨Nat.le_of_ble_eq_true rfl, Nat.le_of_ble_eq_true rfl⟩, ⟨Nat.zero_le _, Nat.zero_le _⟩, rfl, rfl⟩ [0] rfl rfl rfl (Nat.le_of_ble_eq_true rfl) rfl dX12_numeral_61 ?_
    refine j_iload_n hE dX12_numeral_64 rfl 0 rfl ?_
    obtain rfl := Option.some.inj hf
    exact j_iret hE hq rfl rfl dX12_numeral_65
  · refine j_iload_n hE dX12_numeral_53 rfl 1 rfl ?_
    obtain rfl := Option.some.inj hf
    exact j_iret hE hq rfl rfl dX12_numeral_54
set_option maxRecDepth 100000 in
theorem c_Mo_numeral (l : Launch) (g : jG) (a : Nat → Nat) (mo_z : jZ) (mo_y : jY) (x1 : Int32) (x2 : Int32) (res : jZ × Int32) (hf : f_Mo_numeral mo_z x1 x2 = some res) : MC l g yX12_numeral cX12_numeral 4 (some .int) rm_Mo_numeral [.ref (a 0), .int x1, .int x2] (([n_Mo g a mo_z mo_y] : List va_W)) (some (.int res.2)) (([n_Mo g a res.1 mo_y] : List va_W)) 0 0 := by
  refine MC_of (own := RX12) (lv := [(0, .ref (a 0)), (1, .int x1), (2, .int x2)]) (by decide) rfl (Nat.le_of_ble_eq_true rfl) rfl rfl (fun E hE hq => ?_)
  unfold f_Mo_numeral at hf
  refine j_aload_n hE dX12_numeral_0 rfl 0 rfl ?_
  refine j_get (v := .int (mo_z 32 0)) hE lg_Mo_140 0 rfl 0 (wg_Mo_0 g a mo_z mo_y) rfl dX12_numeral_1 ?_
  refine j_if_eq (tgt := 9) hE hf dX12_numeral_4 (by decide) (fun c1 hf => ?_) (fun c1 hf => ?_)
  · refine j_aload_n hE dX12_numeral_9 rfl 0 rfl ?_
    refine j_get (v := .int (mo_z 30 0)) hE lg_Mo_106 0 rfl 0 (wg_Mo_0 g a mo_z mo_y) rfl dX12_numeral_10 ?_
    refine j_iconst (v := 2) hE dX12_numeral_13 (by decide) ?_
    refine j_icmp_eq (tgt := 25) hE hf dX12_numeral_14 (by decide) (fun c2 hf => ?_) (fun c2 hf => ?_)
    · refine j_aload_n hE dX12_numeral_25 rfl 0 rfl ?_
      refine j_get (v := .int (mo_z 31 0)) hE lg_Mo_116 0 rfl 0 (wg_Mo_0 g a mo_z mo_y) rfl dX12_numeral_26 ?_
      refine j_iload_n hE dX12_numeral_29 rfl 1 rfl ?_
      refine j_icmp_lt (tgt := 41) hE hf dX12_numeral_30 (by decide) (fun c3 hf => ?_) (fun c3 hf => ?_)
      · exact j_sub [0, 1] rfl (j_Mo_numeral_41 E g a mo_y x1 x2 res hE hq mo_z hf)
      · refine j_aload_n hE dX12_numeral_33 rfl 0 rfl ?_
        refine j_get (v := .int (mo_z 31 0)) hE lg_Mo_116 0 rfl 0 (wg_Mo_0 g a mo_z mo_y) rfl dX12_numeral_34 ?_
        refine j_iload_n hE dX12_numeral_37 rfl 2 rfl ?_
        refine j_icmp_le (tgt := 46) hE hf dX12_numeral_38 (by decide) (fun c4 hf => ?_) (fun c4 hf => ?_)
        · refine j_aload_n hE dX12_numeral_46 rfl 0 rfl ?_
          refine j_get (v := .int (mo_z 32 0)) hE lg_Mo_140 0 rfl 0 (wg_Mo_0 g a mo_z mo_y) rfl dX12_numeral_47 ?_
          refine j_if_eq (tgt := 55) hE hf dX12_numeral_50 (by decide) (fun c5 hf => ?_) (fun c5 hf => ?_)
          · refine j_aload_n hE dX12_numeral_55 rfl 0 rfl ?_
            refine j_get (v := .int (mo_z 31 0)) hE lg_Mo_116 0 rfl 0 (wg_Mo_0 g a mo_z mo_y) rfl dX12_numeral_56 ?_
            refine j_istore_n (lv' := [(3, .int (mo_z 31 0)), (0, .ref (a 0)), (1, .int x1), (2, .int x2)]) hE dX12_numeral_59 rfl (by decide) rfl ?_
            refine j_aload_n hE dX12_numeral_60 rfl 1 rfl ?_
            obtain ⟨q6, hc7, hf⟩ := bind_of hf
            refine j_callV (ws' := ([n_Mo g a q6 mo_y] : List va_W)) (As := []) (rest := []) (st2 := []) hE (fun l => c_Mo_next l g a mo_z mo_y q6 hc7) cd_X12_next cv_X12_next ml_Mo_149 rfl rfl rfl (wg_Mo_0 _ _ _ _) ⟨⟨Nat.le_of_ble_eq_true rfl, Nat.le_of_ble_eq_true rfl⟩, ⟨Nat.zero_le _, Nat.zero_le _⟩, rfl, rfl⟩ [0] rfl rfl rfl (Nat.le_of_ble_eq_true rfl) rfl dX12_numeral_61 ?_
            refine j_iload_n hE dX12_numeral_64 rfl 0 rfl ?_
            obtain rfl := Option.some.inj hf
            exact j_iret hE hq rfl rfl dX12_numeral_65
          · refine j_iload_n hE dX12_numeral_53 rfl 1 rfl ?_
            obtain rfl := Option.some.inj hf
            exact j_iret hE hq rfl rfl dX12_numeral_54
        · exact j_sub [0, 1] rfl (j_Mo_numeral_41 E g a mo_y x1 x2 res hE hq mo_z hf)
    · refine j_aload_n hE dX12_numeral_17 rfl 0 rfl ?_
      refine j_iconst (v := 1) hE dX12_numeral_18 (by decide) ?_
      obtain ⟨q8, hc9, hf⟩ := bind_of hf
      refine j_callV (ws' := ([n_Mo g a q8 mo_y] : List va_W)) (As := [.int 1]) (rest := []) (st2 := []) hE (fun l => c_Mo_wrong l g a mo_z mo_y 1 q8 hc9) cd_X12_wrong cv_X12_wrong ml_Mo_146 rfl rfl rfl (wg_Mo_0 _ _ _ _) ⟨⟨Nat.le_of_ble_eq_true rfl, Nat.le_of_ble_eq_true rfl⟩, ⟨Nat.zero_le _, Nat.zero_le _⟩, rfl, rfl⟩ [0] rfl rfl rfl (Nat.le_of_ble_eq_true rfl) rfl dX12_numeral_19 ?_
      refine j_goto (tgt := 46) hE dX12_numeral_22 (by decide) ?_
      refine j_aload_n hE dX12_numeral_46 rfl 0 rfl ?_
      refine j_get (v := .int (q8 32 0)) hE lg_Mo_140 0 rfl 0 (wg_Mo_0 g a q8 mo_y) rfl dX12_numeral_47 ?_
      refine j_if_eq (tgt := 55) hE hf dX12_numeral_50 (by decide) (fun c10 hf => ?_) (fun c10 hf => ?_)
      · refine j_aload_n hE dX12_numeral_55 rfl 0 rfl ?_
        refine j_get (v := .int (q8 31 0)) hE lg_Mo_116 0 rfl 0 (wg_Mo_0 g a q8 mo_y) rfl dX12_numeral_56 ?_
        refine j_istore_n (lv' := [(3, .int (q8 31 0)), (0, .ref (a 0)), (1, .int x1), (2, .int x2)]) hE dX12_numeral_59 rfl (by decide) rfl ?_
        refine j_aload_n hE dX12_numeral_60 rfl 1 rfl ?_
        obtain ⟨q11, hc12, hf⟩ := bind_of hf
        refine j_callV (ws' := ([n_Mo g a q11 mo_y] : List va_W)) (As := []) (rest := []) (st2 := []) hE (fun l => c_Mo_next l g a q8 mo_y q11 hc12) cd_X12_next cv_X12_next ml_Mo_149 rfl rfl rfl (wg_Mo_0 _ _ _ _) ⟨⟨Nat.le_of_ble_eq_true rfl, Nat.le_of_ble_eq_true rfl⟩, ⟨Nat.zero_le _, Nat.zero_le _⟩, rfl, rfl⟩ [0] rfl rfl rfl (Nat.le_of_ble_eq_true rfl) rfl dX12_numeral_61 ?_
        refine j_iload_n hE dX12_numeral_64 rfl 0 rfl ?_
        obtain rfl := Option.some.inj hf
        exact j_iret hE hq rfl rfl dX12_numeral_65
      · refine j_iload_n hE dX12_numeral_53 rfl 1 rfl ?_
        obtain rfl := Option.some.inj hf
        exact j_iret hE hq rfl rfl dX12_numeral_54
  · refine j_iload_n hE dX12_numeral_7 rfl 1 rfl ?_
    obtain rfl := Option.some.inj hf
    exact j_iret hE hq rfl rfl dX12_numeral_8
def rm_Mo_foundMo_kindName : Room := { frames := 0, cells := 0, slots := 0, locals := 0 }
def f_Mo_foundMo_kindName_3 (mo_z : jZ) (x1 : Int32) (x2 : Int32) (x3 : Int32)  : Nat → Int32 → Option (Int32)
  | 0, _ => none
  | n + 1, v4 => (if x2 ≤ v4 then some (-1)
    else (ix (x1 + v4) 10).bind fun _ => (if (mo_z 5 (Int32.toNatClampNeg (x1 + v4))) = x3 then some v4
    else f_Mo_foundMo_kindName_3 mo_z x1 x2 x3 n (v4 + 1)))
def f_Mo_foundMo_kindName (mo_z : jZ) (x1 : Int32) (x2 : Int32) (x3 : Int32) : Option (Int32) := f_Mo_foundMo_kindName_3 mo_z x1 x2 x3 FU 0
set_option maxRecDepth 100000 in
theorem j_Mo_foundMo_kindName_3 (E : jT) (g : jG) (b : Nat → Nat) (mo_z : jZ) (mo_y : jY) (x1 : Int32) (x2 : Int32) (x3 : Int32) (res : Int32) (hE : jOk E g RX12 cX12_found 5 (some .int) rm_Mo_foundMo_kindName) (hq : jEnd E g (some (.int res)) (([n_Mo g b mo_z mo_y] : List va_W)) 0 0)  : ∀ (n : Nat) (v4 : Int32), f_Mo_foundMo_kindName_3 mo_z x1 x2 x3 n v4 = some res → J E g 0 0 (([n_Mo g b mo_z mo_y] : List va_W)) [(0, .ref (b 2)), (1, .int x1), (2, .int x2), (3, .int x3), (4, .int v4)] 3 [] := by
  intro n
  induction n with
  | zero =>
    intro v4 hf
    rw [f_Mo_foundMo_kindName_3] at hf
    cases hf
  | succ n ih =>
    intro v4 hf
    rw [f_Mo_foundMo_kindName_3] at hf
    refine j_iload hE dX12_found_3 4 rfl ?_
    refine j_iload_n hE dX12_found_5 rfl 2 rfl ?_
    refine j_icmp_ge (tgt := 28) hE hf dX12_found_6 (by decide) (fun c1 hf => ?_) (fun c1 hf => ?_)
    · refine j_iconst (v := (-1)) hE dX12_found_28 (by decide) ?_
      obtain rfl := Option.some.inj hf
      exact j_iret hE hq rfl rfl dX12_found_29
    · refine j_aload_n hE dX12_found_9 rfl 0 rfl ?_
      refine j_iload_n hE dX12_found_10 rfl 1 rfl ?_
      refine j_iload hE dX12_found_11 4 rfl ?_
      refine j_iadd hE dX12_found_13 ?_
      refine j_iald hE hf 0 rfl 2 (wg_Mo_2 g b mo_z mo_y) dX12_found_14 (fun hf => ?_)
      refine j_iload_n hE dX12_found_15 rfl 3 rfl ?_
      refine j_icmp_ne (tgt := 22) hE hf dX12_found_16 (by decide) (fun c3 hf => ?_) (fun c3 hf => ?_)
      · refine j_iinc (v := (v4 + 1)) (lv' := [(4, .int (v4 + 1)), (0, .ref (b 2)), (1, .int x1), (2, .int x2), (3, .int x3)]) hE dX12_found_22 4 rfl rfl (by decide) rfl ?_
        refine j_goto (tgt := 3) hE dX12_found_25 (by decide) ?_
        exact j_sub [1, 2, 3, 4, 0] rfl (ih (v4 + 1) hf)
      · refine j_iload hE dX12_found_19 4 rfl ?_
        obtain rfl := Option.some.inj hf
        exact j_iret hE hq rfl rfl dX12_found_21
set_option maxRecDepth 100000 in
theorem c_Mo_foundMo_kindName (l : Launch) (g : jG) (b : Nat → Nat) (mo_z : jZ) (mo_y : jY) (x1 : Int32) (x2 : Int32) (x3 : Int32) (res : Int32) (hf : f_Mo_foundMo_kindName mo_z x1 x2 x3 = some res) : MC l g yX12_found cX12_found 5 (some .int) rm_Mo_foundMo_kindName [.ref (b 2), .int x1, .int x2, .int x3] (([n_Mo g b mo_z mo_y] : List va_W)) (some (.int res)) (([n_Mo g b mo_z mo_y] : List va_W)) 0 0 := by
  refine MC_of (own := RX12) (lv := [(0, .ref (b 2)), (1, .int x1), (2, .int x2), (3, .int x3)]) (by decide) rfl (Nat.le_of_ble_eq_true rfl) rfl rfl (fun E hE hq => ?_)
  unfold f_Mo_foundMo_kindName at hf
  refine j_iconst (v := 0) hE dX12_found_0 (by decide) ?_
  refine j_istore (lv' := [(4, .int 0), (0, .ref (b 2)), (1, .int x1), (2, .int x2), (3, .int x3)]) hE dX12_found_1 (by decide) rfl ?_
  exact j_sub [1, 2, 3, 4, 0] rfl (j_Mo_foundMo_kindName_3 E g b mo_z mo_y x1 x2 x3 res hE hq FU 0 hf)
def rm_Mo_freshMo_kindName : Room := { frames := 10, cells := 0, slots := 0, locals := 244 }
def f_Mo_freshMo_kindName (mo_z : jZ) (x2 : Int32) (x3 : Int32) : Option (jZ × Int32) := (if (mo_z 30 0) = 1 then (f_Mo_foundMo_kindName mo_z x2 x3 (mo_z 31 0)).bind fun q2 => (if q2 = (-1) then (if (mo_z 32 0) = 0 then (f_Mo_next mo_z).bind fun q6 => some (q6, (mo_z 31 0))
    else some (mo_z, 0))
    else (f_Mo_wrong mo_z 3).bind fun q8 => (if (q8 32 0) = 0 then (f_Mo_next q8).bind fun q11 => some (q11, (q8 31 0))
    else some (q8, 0)))
    else (f_Mo_wrong mo_z 1).bind fun q13 => (if (q13 32 0) = 0 then (f_Mo_next q13).bind fun q16 => some (q16, (q13 31 0))
    else some (q13, 0)))
set_option maxRecDepth 100000 in
theorem c_Mo_freshMo_kindName (l : Launch) (g : jG) (a : Nat → Nat) (mo_z : jZ) (mo_y : jY) (x2 : Int32) (x3 : Int32) (res : jZ × Int32) (hf : f_Mo_freshMo_kindName mo_z x2 x3 = some res) : MC l g yX12_fresh cX12_fresh 5 (some .int) rm_Mo_freshMo_kindName [.ref (a 0), .ref (a 2), .int x2, .int x3] (([n_Mo g a mo_z mo_y] : List va_W)) (some (.int res.2)) (([n_Mo g a res.1 mo_y] : List va_W)) 0 0 := by
  refine MC_of (own := RX12) (lv := [(0, .ref (a 0)), (1, .ref (a 2)), (2, .int x2), (3, .int x3)]) (by decide) rfl (Nat.le_of_ble_eq_true rfl) rfl rfl (fun E hE hq => ?_)
  unfold f_Mo_freshMo_kindName at hf
  refine j_aload_n hE dX12_fresh_0 rfl 0 rfl ?_
  refine j_get (v := .int (mo_z 30 0)) hE lg_Mo_106 0 rfl 0 (wg_Mo_0 g a mo_z mo_y) rfl dX12_fresh_1 ?_
  refine j_iconst (v := 1) hE dX12_fresh_4 (by decide) ?_
  refine j_icmp_eq (tgt := 16) hE hf dX12_fresh_5 (by decide) (fun c1 hf => ?_) (fun c1 hf => ?_)
  · refine j_aload_n hE dX12_fresh_16 rfl 1 rfl ?_
    refine j_iload_n hE dX12_fresh_17 rfl 2 rfl ?_
    refine j_iload_n hE dX12_fresh_18 rfl 3 rfl ?_
    refine j_aload_n hE dX12_fresh_19 rfl 0 rfl ?_
    refine j_get (v := .int (mo_z 31 0)) hE lg_Mo_116 0 rfl 0 (wg_Mo_0 g a mo_z mo_y) rfl dX12_fresh_20 ?_
    obtain ⟨q2, hc3, hf⟩ := bind_of hf
    refine j_callS (ws' := ([n_Mo g a mo_z mo_y] : List va_W)) (As := [.ref (a 2), .int x2, .int x3, .int (mo_z 31 0)]) (rest := []) (st2 := [.int q2]) hE (fun l => c_Mo_foundMo_kindName l g a mo_z mo_y x2 x3 (mo_z 31 0) q2 hc3) cd_X12_found st_X12_found ml_Mo_152 rfl rfl ⟨⟨Nat.le_of_ble_eq_true rfl, Nat.le_of_ble_eq_true rfl⟩, ⟨Nat.zero_le _, Nat.zero_le _⟩, rfl, rfl⟩ [0] rfl rfl rfl (Nat.le_of_ble_eq_true rfl) rfl dX12_fresh_23 ?_
    refine j_iconst (v := (-1)) hE dX12_fresh_26 (by decide) ?_
    refine j_icmp_eq (tgt := 35) hE hf dX12_fresh_27 (by decide) (fun c4 hf => ?_) (fun c4 hf => ?_)
    · refine j_aload_n hE dX12_fresh_35 rfl 0 rfl ?_
      refine j_get (v := .int (mo_z 32 0)) hE lg_Mo_140 0 rfl 0 (wg_Mo_0 g a mo_z mo_y) rfl dX12_fresh_36 ?_
      refine j_if_eq (tgt := 44) hE hf dX12_fresh_39 (by decide) (fun c5 hf => ?_) (fun c5 hf => ?_)
      · refine j_aload_n hE dX12_fresh_44 rfl 0 rfl ?_
        refine j_get (v := .int (mo_z 31 0)) hE lg_Mo_116 0 rfl 0 (wg_Mo_0 g a mo_z mo_y) rfl dX12_fresh_45 ?_
        refine j_istore (lv' := [(4, .int (mo_z 31 0)), (0, .ref (a 0)), (1, .ref (a 2)), (2, .int x2), (3, .int x3)]) hE dX12_fresh_48 (by decide) rfl ?_
        refine j_aload_n hE dX12_fresh_50 rfl 1 rfl ?_
        obtain ⟨q6, hc7, hf⟩ := bind_of hf
        refine j_callV (ws' := ([n_Mo g a q6 mo_y] : List va_W)) (As := []) (rest := []) (st2 := []) hE (fun l => c_Mo_next l g a mo_z mo_y q6 hc7) cd_X12_next cv_X12_next ml_Mo_149 rfl rfl rfl (wg_Mo_0 _ _ _ _) ⟨⟨Nat.le_of_ble_eq_true rfl, Nat.le_of_ble_eq_true rfl⟩, ⟨Nat.zero_le _, Nat.zero_le _⟩, rfl, rfl⟩ [0] rfl rfl rfl (Nat.le_of_ble_eq_true rfl) rfl dX12_fresh_51 ?_
        refine j_iload hE dX12_fresh_54 0 rfl ?_
        obtain rfl := Option.some.inj hf
        exact j_iret hE hq rfl rfl dX12_fresh_56
      · refine j_iconst (v := 0) hE dX12_fresh_42 (by decide) ?_
        obtain rfl := Option.some.inj hf
        exact j_iret hE hq rfl rfl dX12_fresh_43
    · refine j_aload_n hE dX12_fresh_30 rfl 0 rfl ?_
      refine j_iconst (v := 3) hE dX12_fresh_31 (by decide) ?_
      obtain ⟨q8, hc9, hf⟩ := bind_of hf
      refine j_callV (ws' := ([n_Mo g a q8 mo_y] : List va_W)) (As := [.int 3]) (rest := []) (st2 := []) hE (fun l => c_Mo_wrong l g a mo_z mo_y 3 q8 hc9) cd_X12_wrong cv_X12_wrong ml_Mo_146 rfl rfl rfl (wg_Mo_0 _ _ _ _) ⟨⟨Nat.le_of_ble_eq_true rfl, Nat.le_of_ble_eq_true rfl⟩, ⟨Nat.zero_le _, Nat.zero_le _⟩, rfl, rfl⟩ [0] rfl rfl rfl (Nat.le_of_ble_eq_true rfl) rfl dX12_fresh_32 ?_
      refine j_aload_n hE dX12_fresh_35 rfl 0 rfl ?_
      refine j_get (v := .int (q8 32 0)) hE lg_Mo_140 0 rfl 0 (wg_Mo_0 g a q8 mo_y) rfl dX12_fresh_36 ?_
      refine j_if_eq (tgt := 44) hE hf dX12_fresh_39 (by decide) (fun c10 hf => ?_) (fun c10 hf => ?_)
      · refine j_aload_n hE dX12_fresh_44 rfl 0 rfl ?_
        refine j_get (v := .int (q8 31 0)) hE lg_Mo_116 0 rfl 0 (wg_Mo_0 g a q8 mo_y) rfl dX12_fresh_45 ?_
        refine j_istore (lv' := [(4, .int (q8 31 0)), (0, .ref (a 0)), (1, .ref (a 2)), (2, .int x2), (3, .int x3)]) hE dX12_fresh_48 (by decide) rfl ?_
        refine j_aload_n hE dX12_fresh_50 rfl 1 rfl ?_
        obtain ⟨q11, hc12, hf⟩ := bind_of hf
        refine j_callV (ws' := ([n_Mo g a q11 mo_y] : List va_W)) (As := []) (rest := []) (st2 := []) hE (fun l => c_Mo_next l g a q8 mo_y q11 hc12) cd_X12_next cv_X12_next ml_Mo_149 rfl rfl rfl (wg_Mo_0 _ _ _ _) ⟨⟨Nat.le_of_ble_eq_true rfl, Nat.le_of_ble_eq_true rfl⟩, ⟨Nat.zero_le _, Nat.zero_le _⟩, rfl, rfl⟩ [0] rfl rfl rfl (Nat.le_of_ble_eq_true rfl) rfl dX12_fresh_51 ?_
        refine j_iload hE dX12_fresh_54 0 rfl ?_
        obtain rfl := Option.some.inj hf
        exact j_iret hE hq rfl rfl dX12_fresh_56
      · refine j_iconst (v := 0) hE dX12_fresh_42 (by decide) ?_
        obtain rfl := Option.some.inj hf
        exact j_iret hE hq rfl rfl dX12_fresh_43
  · refine j_aload_n hE dX12_fresh_8 rfl 0 rfl ?_
    refine j_iconst (v := 1) hE dX12_fresh_9 (by decide) ?_
    obtain ⟨q13, hc14, hf⟩ := bind_of hf
    refine j_callV (ws' := ([n_Mo g a q13 mo_y] : List va_W)) (As := [.int 1]) (rest := []) (st2 := []) hE (fun l => c_Mo_wrong l g a mo_z mo_y 1 q13 hc14) cd_X12_wrong cv_X12_wrong ml_Mo_146 rfl rfl rfl (wg_Mo_0 _ _ _ _) ⟨⟨Nat.le_of_ble_eq_true rfl, Nat.le_of_ble_eq_true rfl⟩, ⟨Nat.zero_le _, Nat.zero_le _⟩, rfl, rfl⟩ [0] rfl rfl rfl (Nat.le_of_ble_eq_true rfl) rfl dX12_fresh_10 ?_
    refine j_goto (tgt := 35) hE dX12_fresh_13 (by decide) ?_
    refine j_aload_n hE dX12_fresh_35 rfl 0 rfl ?_
    refine j_get (v := .int (q13 32 0)) hE lg_Mo_140 0 rfl 0 (wg_Mo_0 g a q13 mo_y) rfl dX12_fresh_36 ?_
    refine j_if_eq (tgt := 44) hE hf dX12_fresh_39 (by decide) (fun c15 hf => ?_) (fun c15 hf => ?_)
    · refine j_aload_n hE dX12_fresh_44 rfl 0 rfl ?_
      refine j_get (v := .int (q13 31 0)) hE lg_Mo_116 0 rfl 0 (wg_Mo_0 g a q13 mo_y) rfl dX12_fresh_45 ?_
      refine j_istore (lv' := [(4, .int (q13 31 0)), (0, .ref (a 0)), (1, .ref (a 2)), (2, .int x2), (3, .int x3)]) hE dX12_fresh_48 (by decide) rfl ?_
      refine j_aload_n hE dX12_fresh_50 rfl 1 rfl ?_
      obtain ⟨q16, hc17, hf⟩ := bind_of hf
      refine j_callV (ws' := ([n_Mo g a q16 mo_y] : List va_W)) (As := []) (rest := []) (st2 := []) hE (fun l => c_Mo_next l g a q13 mo_y q16 hc17) cd_X12_next cv_X12_next ml_Mo_149 rfl rfl rfl (wg_Mo_0 _ _ _ _) ⟨⟨Nat.le_of_ble_eq_true rfl, Nat.le_of_ble_eq_true rfl⟩, ⟨Nat.zero_le _, Nat.zero_le _⟩, rfl, rfl⟩ [0] rfl rfl rfl (Nat.le_of_ble_eq_true rfl) rfl dX12_fresh_51 ?_
      refine j_iload hE dX12_fresh_54 0 rfl ?_
      obtain rfl := Option.some.inj hf
      exact j_iret hE hq rfl rfl dX12_fresh_56
    · refine j_iconst (v := 0) hE dX12_fresh_42 (by decide) ?_
      obtain rfl := Option.some.inj hf
      exact j_iret hE hq rfl rfl dX12_fresh_43
def rm_Mo_kindLine : Room := { frames := 11, cells := 0, slots := 0, locals := 268 }
def f_Mo_kindLine_34  (x1 : Int32)  : Nat → jZ → Int32 → Option (jZ)
  | 0, _, _ => none
  | n + 1, mo_z, v2 => (if 10 ≤ v2 then some (up2 mo_z 20 0 ((mo_z 20 0) + 1))
    else (f_Mo_numeral mo_z 0 9).bind fun q6 => (ix ((10 * x1) + v2) 100).bind fun _ => f_Mo_kindLine_34 x1 n (up2 q6.1 7 (Int32.toNatClampNeg ((10 * x1) + v2)) q6.2) (v2 + 1))
def f_Mo_kindLine (mo_z : jZ) (x1 : Int32) : Option (jZ) := (f_Mo_freshMo_kindName mo_z 5 (mo_z 20 0)).bind fun q1 => (ix x1 10).bind fun _ => (f_Mo_numeral (up2 q1.1 5 (Int32.toNatClampNeg x1) q1.2) 1 99).bind fun q3 => (ix x1 10).bind fun _ => f_Mo_kindLine_34 x1 FU (up2 q3.1 6 (Int32.toNatClampNeg x1) q3.2) 0
set_option maxRecDepth 100000 in
theorem j_Mo_kindLine_34 (E : jT) (g : jG) (a : Nat → Nat) (mo_y : jY) (x1 : Int32) (res : jZ) (hE : jOk E g RX12 cX12_kindLine 3 (none : Option Jvm.ClassFile.FieldType) rm_Mo_kindLine) (hq : jEnd E g none (([n_Mo g a res mo_y] : List va_W)) 0 0)  : ∀ (n : Nat) (mo_z : jZ) (v2 : Int32), f_Mo_kindLine_34 x1 n mo_z v2 = some res → J E g 0 0 (([n_Mo g a mo_z mo_y] : List va_W)) [(0, .ref (a 0)), (1, .int x1), (2, .int v2)] 34 [] := by
  intro n
  induction n with
  | zero =>
    intro mo_z v2 hf
    rw [f_Mo_kindLine_34] at hf
    cases hf
  | succ n ih =>
    intro mo_z v2 hf
    rw [f_Mo_kindLine_34] at hf
    refine j_iload_n hE dX12_kindLine_34 rfl 2 rfl ?_
    refine j_bipush (v := 10) hE dX12_kindLine_35 (by decide) ?_
    refine j_icmp_ge (tgt := 64) hE hf dX12_kindLine_37 (by decide) (fun c5 hf => ?_) (fun c5 hf => ?_)
    · refine j_aload_n hE dX12_kindLine_64 rfl 0 rfl ?_
      refine j_dup hE dX12_kindLine_65 rfl ?_
      refine j_get (v := .int (mo_z 20 0)) hE lg_Mo_156 0 rfl 0 (wg_Mo_0 g a mo_z mo_y) rfl dX12_kindLine_66 ?_
      refine j_iconst (v := 1) hE dX12_kindLine_69 (by decide) ?_
      refine j_iadd hE dX12_kindLine_70 ?_
      refine j_put (v := .int ((mo_z 20 0) + 1)) (ws' := ([n_Mo g a (up2 mo_z 20 0 ((mo_z 20 0) + 1)) mo_y] : List va_W)) hE lp_Mo_156 0 rfl 0 (wg_Mo_0 g a mo_z mo_y) rfl rfl (Nat.le_of_ble_eq_true rfl) (wp_Mo_20 g a mo_z mo_y ((mo_z 20 0) + 1)) rfl dX12_kindLine_71 ?_
      obtain rfl := Option.some.inj hf
      exact j_vret hE hq rfl rfl dX12_kindLine_74
    · refine j_aload_n hE dX12_kindLine_40 rfl 0 rfl ?_
      refine j_get (v := .ref (a 4)) hE lg_Mo_21 0 rfl 0 (wg_Mo_0 g a mo_z mo_y) rfl dX12_kindLine_41 ?_
      refine j_bipush (v := 10) hE dX12_kindLine_44 (by decide) ?_
      refine j_iload_n hE dX12_kindLine_46 rfl 1 rfl ?_
      refine j_imul hE dX12_kindLine_47 ?_
      refine j_iload_n hE dX12_kindLine_48 rfl 2 rfl ?_
      refine j_iadd hE dX12_kindLine_49 ?_
      refine j_aload_n hE dX12_kindLine_50 rfl 0 rfl ?_
      refine j_iconst (v := 0) hE dX12_kindLine_51 (by decide) ?_
      refine j_bipush (v := 9) hE dX12_kindLine_52 (by decide) ?_
      obtain ⟨q6, hc7, hf⟩ := bind_of hf
      refine j_callV (ws' := ([n_Mo g a q6.1 mo_y] : List va_W)) (As := [.int 0, .int 9]) (rest := [.int ((10 * x1) + v2), .ref (a 4)]) (st2 := [.int q6.2, .int ((10 * x1) + v2), .ref (a 4)]) hE (fun l => c_Mo_numeral l g a mo_z mo_y 0 9 q6 hc7) cd_X12_numeral cv_X12_numeral ml_Mo_174 rfl rfl rfl (wg_Mo_0 _ _ _ _) ⟨⟨Nat.le_of_ble_eq_true rfl, Nat.le_of_ble_eq_true rfl⟩, ⟨Nat.zero_le _, Nat.zero_le _⟩, rfl, rfl⟩ [0] rfl rfl rfl (Nat.le_of_ble_eq_true rfl) rfl dX12_kindLine_54 ?_
      refine j_iast (ws' := ([n_Mo g a (up2 q6.1 7 (Int32.toNatClampNeg ((10 * x1) + v2)) q6.2) mo_y] : List va_W)) hE hf 0 rfl 4 (wg_Mo_4 g a q6.1 mo_y) (wa_Mo_4 g a q6.1 mo_y (Int32.toNatClampNeg ((10 * x1) + v2)) q6.2) rfl dX12_kindLine_57 (fun hf => ?_)
      refine j_iinc (v := (v2 + 1)) (lv' := [(2, .int (v2 + 1)), (0, .ref (a 0)), (1, .int x1)]) hE dX12_kindLine_58 2 rfl rfl (by decide) rfl ?_
      refine j_goto (tgt := 34) hE dX12_kindLine_61 (by decide) ?_
      exact j_sub [1, 2, 0] rfl (ih (up2 q6.1 7 (Int32.toNatClampNeg ((10 * x1) + v2)) q6.2) (v2 + 1) hf)
set_option maxRecDepth 100000 in
theorem c_Mo_kindLine (l : Launch) (g : jG) (a : Nat → Nat) (mo_z : jZ) (mo_y : jY) (x1 : Int32) (res : jZ) (hf : f_Mo_kindLine mo_z x1 = some res) : MC l g yX12_kindLine cX12_kindLine 3 (none : Option Jvm.ClassFile.FieldType) rm_Mo_kindLine [.ref (a 0), .int x1] (([n_Mo g a mo_z mo_y] : List va_W)) none (([n_Mo g a res mo_y] : List va_W)) 0 0 := by
  refine MC_of (own := RX12) (lv := [(0, .ref (a 0)), (1, .int x1)]) (by decide) rfl (Nat.le_of_ble_eq_true rfl) rfl rfl (fun E hE hq => ?_)
  unfold f_Mo_kindLine at hf
  refine j_aload_n hE dX12_kindLine_0 rfl 0 rfl ?_
  refine j_get (v := .ref (a 2)) hE lg_Mo_15 0 rfl 0 (wg_Mo_0 g a mo_z mo_y) rfl dX12_kindLine_1 ?_
  refine j_iload_n hE dX12_kindLine_4 rfl 1 rfl ?_
  refine j_aload_n hE dX12_kindLine_5 rfl 0 rfl ?_
  refine j_aload_n hE dX12_kindLine_6 rfl 0 rfl ?_
  refine j_get (v := .ref (a 2)) hE lg_Mo_15 0 rfl 0 (wg_Mo_0 g a mo_z mo_y) rfl dX12_kindLine_7 ?_
  refine j_iconst (v := 5) hE dX12_kindLine_10 (by decide) ?_
  refine j_aload_n hE dX12_kindLine_11 rfl 0 rfl ?_
  refine j_get (v := .int (mo_z 20 0)) hE lg_Mo_156 0 rfl 0 (wg_Mo_0 g a mo_z mo_y) rfl dX12_kindLine_12 ?_
  obtain ⟨q1, hc2, hf⟩ := bind_of hf
  refine j_callV (ws' := ([n_Mo g a q1.1 mo_y] : List va_W)) (As := [.ref (a 2), .int 5, .int (mo_z 20 0)]) (rest := [.int x1, .ref (a 2)]) (st2 := [.int q1.2, .int x1, .ref (a 2)]) hE (fun l => c_Mo_freshMo_kindName l g a mo_z mo_y 5 (mo_z 20 0) q1 hc2) cd_X12_fresh cv_X12_fresh ml_Mo_190 rfl rfl rfl (wg_Mo_0 _ _ _ _) ⟨⟨Nat.le_of_ble_eq_true rfl, Nat.le_of_ble_eq_true rfl⟩, ⟨Nat.zero_le _, Nat.zero_le _⟩, rfl, rfl⟩ [0] rfl rfl rfl (Nat.le_of_ble_eq_true rfl) rfl dX12_kindLine_15 ?_
  refine j_iast (ws' := ([n_Mo g a (up2 q1.1 5 (Int32.toNatClampNeg x1) q1.2) mo_y] : List va_W)) hE hf 0 rfl 2 (wg_Mo_2 g a q1.1 mo_y) (wa_Mo_2 g a q1.1 mo_y (Int32.toNatClampNeg x1) q1.2) rfl dX12_kindLine_18 (fun hf => ?_)
  refine j_aload_n hE dX12_kindLine_19 rfl 0 rfl ?_
  refine j_get (v := .ref (a 3)) hE lg_Mo_18 0 rfl 0 (wg_Mo_0 g a (up2 q1.1 5 (Int32.toNatClampNeg x1) q1.2) mo_y) rfl dX12_kindLine_20 ?_
  refine j_iload_n hE dX12_kindLine_23 rfl 1 rfl ?_
  refine j_aload_n hE dX12_kindLine_24 rfl 0 rfl ?_
  refine j_iconst (v := 1) hE dX12_kindLine_25 (by decide) ?_
  refine j_bipush (v := 99) hE dX12_kindLine_26 (by decide) ?_
  obtain ⟨q3, hc4, hf⟩ := bind_of hf
  refine j_callV (ws' := ([n_Mo g a q3.1 mo_y] : List va_W)) (As := [.int 1, .int 99]) (rest := [.int x1, .ref (a 3)]) (st2 := [.int q3.2, .int x1, .ref (a 3)]) hE (fun l => c_Mo_numeral l g a (up2 q1.1 5 (Int32.toNatClampNeg x1) q1.2) mo_y 1 99 q3 hc4) cd_X12_numeral cv_X12_numeral ml_Mo_174 rfl rfl rfl (wg_Mo_0 _ _ _ _) ⟨⟨Nat.le_of_ble_eq_true rfl, Nat.le_of_ble_eq_true rfl⟩, ⟨Nat.zero_le _, Nat.zero_le _⟩, rfl, rfl⟩ [0] rfl rfl rfl (Nat.le_of_ble_eq_true rfl) rfl dX12_kindLine_28 ?_
  refine j_iast (ws' := ([n_Mo g a (up2 q3.1 6 (Int32.toNatClampNeg x1) q3.2) mo_y] : List va_W)) hE hf 0 rfl 3 (wg_Mo_3 g a q3.1 mo_y) (wa_Mo_3 g a q3.1 mo_y (Int32.toNatClampNeg x1) q3.2) rfl dX12_kindLine_31 (fun hf => ?_)
  refine j_iconst (v := 0) hE dX12_kindLine_32 (by decide) ?_
  refine j_istore_n (lv' := [(2, .int 0), (0, .ref (a 0)), (1, .int x1)]) hE dX12_kindLine_33 rfl (by decide) rfl ?_
  exact j_sub [1, 2, 0] rfl (j_Mo_kindLine_34 E g a mo_y x1 res hE hq FU (up2 q3.1 6 (Int32.toNatClampNeg x1) q3.2) 0 hf)
def rm_Mo_foundMo_placeName : Room := { frames := 0, cells := 0, slots := 0, locals := 0 }
def f_Mo_foundMo_placeName_3 (mo_z : jZ) (x1 : Int32) (x2 : Int32) (x3 : Int32)  : Nat → Int32 → Option (Int32)
  | 0, _ => none
  | n + 1, v4 => (if x2 ≤ v4 then some (-1)
    else (ix (x1 + v4) 24).bind fun _ => (if (mo_z 8 (Int32.toNatClampNeg (x1 + v4))) = x3 then some v4
    else f_Mo_foundMo_placeName_3 mo_z x1 x2 x3 n (v4 + 1)))
def f_Mo_foundMo_placeName (mo_z : jZ) (x1 : Int32) (x2 : Int32) (x3 : Int32) : Option (Int32) := f_Mo_foundMo_placeName_3 mo_z x1 x2 x3 FU 0
set_option maxRecDepth 100000 in
theorem j_Mo_foundMo_placeName_3 (E : jT) (g : jG) (b : Nat → Nat) (mo_z : jZ) (mo_y : jY) (x1 : Int32) (x2 : Int32) (x3 : Int32) (res : Int32) (hE : jOk E g RX12 cX12_found 5 (some .int) rm_Mo_foundMo_placeName) (hq : jEnd E g (some (.int res)) (([n_Mo g b mo_z mo_y] : List va_W)) 0 0)  : ∀ (n : Nat) (v4 : Int32), f_Mo_foundMo_placeName_3 mo_z x1 x2 x3 n v4 = some res → J E g 0 0 (([n_Mo g b mo_z mo_y] : List va_W)) [(0, .ref (b 5)), (1, .int x1), (2, .int x2), (3, .int x3), (4, .int v4)] 3 [] := by
  intro n
  induction n with
  | zero =>
    intro v4 hf
    rw [f_Mo_foundMo_placeName_3] at hf
    cases hf
  | succ n ih =>
    intro v4 hf
    rw [f_Mo_foundMo_placeName_3] at hf
    refine j_iload hE dX12_found_3 4 rfl ?_
    refine j_iload_n hE dX12_found_5 rfl 2 rfl ?_
    refine j_icmp_ge (tgt := 28) hE hf dX12_found_6 (by decide) (fun c1 hf => ?_) (fun c1 hf => ?_)
    · refine j_iconst (v := (-1)) hE dX12_found_28 (by decide) ?_
      obtain rfl := Option.some.inj hf
      exact j_iret hE hq rfl rfl dX12_found_29
    · refine j_aload_n hE dX12_found_9 rfl 0 rfl ?_
      refine j_iload_n hE dX12_found_10 rfl 1 rfl ?_
      refine j_iload hE dX12_found_11 4 rfl ?_
      refine j_iadd hE dX12_found_13 ?_
      refine j_iald hE hf 0 rfl 5 (wg_Mo_5 g b mo_z mo_y) dX12_found_14 (fun hf => ?_)
      refine j_iload_n hE dX12_found_15 rfl 3 rfl ?_
      refine j_icmp_ne (tgt := 22) hE hf dX12_found_16 (by decide) (fun c3 hf => ?_) (fun c3 hf => ?_)
      · refine j_iinc (v := (v4 + 1)) (lv' := [(4, .int (v4 + 1)), (0, .ref (b 5)), (1, .int x1), (2, .int x2), (3, .int x3)]) hE dX12_found_22 4 rfl rfl (by decide) rfl ?_
        refine j_goto (tgt := 3) hE dX12_found_25 (by decide) ?_
        exact j_sub [1, 2, 3, 4, 0] rfl (ih (v4 + 1) hf)
      · refine j_iload hE dX12_found_19 4 rfl ?_
        obtain rfl := Option.some.inj hf
        exact j_iret hE hq rfl rfl dX12_found_21
set_option maxRecDepth 100000 in
theorem c_Mo_foundMo_placeName (l : Launch) (g : jG) (b : Nat → Nat) (mo_z : jZ) (mo_y : jY) (x1 : Int32) (x2 : Int32) (x3 : Int32) (res : Int32) (hf : f_Mo_foundMo_placeName mo_z x1 x2 x3 = some res) : MC l g yX12_found cX12_found 5 (some .int) rm_Mo_foundMo_placeName [.ref (b 5), .int x1, .int x2, .int x3] (([n_Mo g b mo_z mo_y] : List va_W)) (some (.int res)) (([n_Mo g b mo_z mo_y] : List va_W)) 0 0 := by
  refine MC_of (own := RX12) (lv := [(0, .ref (b 5)), (1, .int x1), (2, .int x2), (3, .int x3)]) (by decide) rfl (Nat.le_of_ble_eq_true rfl) rfl rfl (fun E hE hq => ?_)
  unfold f_Mo_foundMo_placeName at hf
  refine j_iconst (v := 0) hE dX12_found_0 (by decide) ?_
  refine j_istore (lv' := [(4, .int 0), (0, .ref (b 5)), (1, .int x1), (2, .int x2), (3, .int x3)]) hE dX12_found_1 (by decide) rfl ?_
  exact j_sub [1, 2, 3, 4, 0] rfl (j_Mo_foundMo_placeName_3 E g b mo_z mo_y x1 x2 x3 res hE hq FU 0 hf)
def rm_Mo_freshMo_placeName : Room := { frames := 10, cells := 0, slots := 0, locals := 244 }
def f_Mo_freshMo_placeName (mo_z : jZ) (x2 : Int32) (x3 : Int32) : Option (jZ × Int32) := (if (mo_z 30 0) = 1 then (f_Mo_foundMo_placeName mo_z x2 x3 (mo_z 31 0)).bind fun q2 => (if q2 = (-1) then (if (mo_z 32 0) = 0 then (f_Mo_next mo_z).bind fun q6 => some (q6, (mo_z 31 0))
    else some (mo_z, 0))
    else (f_Mo_wrong mo_z 3).bind fun q8 => (if (q8 32 0) = 0 then (f_Mo_next q8).bind fun q11 => some (q11, (q8 31 0))
    else some (q8, 0)))
    else (f_Mo_wrong mo_z 1).bind fun q13 => (if (q13 32 0) = 0 then (f_Mo_next q13).bind fun q16 => some (q16, (q13 31 0))
    else some (q13, 0)))
set_option maxRecDepth 100000 in
theorem c_Mo_freshMo_placeName (l : Launch) (g : jG) (a : Nat → Nat) (mo_z : jZ) (mo_y : jY) (x2 : Int32) (x3 : Int32) (res : jZ × Int32) (hf : f_Mo_freshMo_placeName mo_z x2 x3 = some res) : MC l g yX12_fresh cX12_fresh 5 (some .int) rm_Mo_freshMo_placeName [.ref (a 0), .ref (a 5), .int x2, .int x3] (([n_Mo g a mo_z mo_y] : List va_W)) (some (.int res.2)) (([n_Mo g a res.1 mo_y] : List va_W)) 0 0 := by
  refine MC_of (own := RX12) (lv := [(0, .ref (a 0)), (1, .ref (a 5)), (2, .int x2), (3, .int x3)]) (by decide) rfl (Nat.le_of_ble_eq_true rfl) rfl rfl (fun E hE hq => ?_)
  unfold f_Mo_freshMo_placeName at hf
  refine j_aload_n hE dX12_fresh_0 rfl 0 rfl ?_
  refine j_get (v := .int (mo_z 30 0)) hE lg_Mo_106 0 rfl 0 (wg_Mo_0 g a mo_z mo_y) rfl dX12_fresh_1 ?_
  refine j_iconst (v := 1) hE dX12_fresh_4 (by decide) ?_
  refine j_icmp_eq (tgt := 16) hE hf dX12_fresh_5 (by decide) (fun c1 hf => ?_) (fun c1 hf => ?_)
  · refine j_aload_n hE dX12_fresh_16 rfl 1 rfl ?_
    refine j_iload_n hE dX12_fresh_17 rfl 2 rfl ?_
    refine j_iload_n hE dX12_fresh_18 rfl 3 rfl ?_
    refine j_aload_n hE dX12_fresh_19 rfl 0 rfl ?_
    refine j_get (v := .int (mo_z 31 0)) hE lg_Mo_116 0 rfl 0 (wg_Mo_0 g a mo_z mo_y) rfl dX12_fresh_20 ?_
    obtain ⟨q2, hc3, hf⟩ := bind_of hf
    refine j_callS (ws' := ([n_Mo g a mo_z mo_y] : List va_W)) (As := [.ref (a 5), .int x2, .int x3, .int (mo_z 31 0)]) (rest := []) (st2 := [.int q2]) hE (fun l => c_Mo_foundMo_placeName l g a mo_z mo_y x2 x3 (mo_z 31 0) q2 hc3) cd_X12_found st_X12_found ml_Mo_152 rfl rfl ⟨⟨Nat.le_of_ble_eq_true rfl, Nat.le_of_ble_eq_true rfl⟩, ⟨Nat.zero_le _, Nat.zero_le _⟩, rfl, rfl⟩ [0] rfl rfl rfl (Nat.le_of_ble_eq_true rfl) rfl dX12_fresh_23 ?_
    refine j_iconst (v := (-1)) hE dX12_fresh_26 (by decide) ?_
    refine j_icmp_eq (tgt := 35) hE hf dX12_fresh_27 (by decide) (fun c4 hf => ?_) (fun c4 hf => ?_)
    · refine j_aload_n hE dX12_fresh_35 rfl 0 rfl ?_
      refine j_get (v := .int (mo_z 32 0)) hE lg_Mo_140 0 rfl 0 (wg_Mo_0 g a mo_z mo_y) rfl dX12_fresh_36 ?_
      refine j_if_eq (tgt := 44) hE hf dX12_fresh_39 (by decide) (fun c5 hf => ?_) (fun c5 hf => ?_)
      · refine j_aload_n hE dX12_fresh_44 rfl 0 rfl ?_
        refine j_get (v := .int (mo_z 31 0)) hE lg_Mo_116 0 rfl 0 (wg_Mo_0 g a mo_z mo_y) rfl dX12_fresh_45 ?_
        refine j_istore (lv' := [(4, .int (mo_z 31 0)), (0, .ref (a 0)), (1, .ref (a 5)), (2, .int x2), (3, .int x3)]) hE dX12_fresh_48 (by decide) rfl ?_
        refine j_aload_n hE dX12_fresh_50 rfl 1 rfl ?_
        obtain ⟨q6, hc7, hf⟩ := bind_of hf
        refine j_callV (ws' := ([n_Mo g a q6 mo_y] : List va_W)) (As := []) (rest := []) (st2 := []) hE (fun l => c_Mo_next l g a mo_z mo_y q6 hc7) cd_X12_next cv_X12_next ml_Mo_149 rfl rfl rfl (wg_Mo_0 _ _ _ _) ⟨⟨Nat.le_of_ble_eq_true rfl, Nat.le_of_ble_eq_true rfl⟩, ⟨Nat.zero_le _, Nat.zero_le _⟩, rfl, rfl⟩ [0] rfl rfl rfl (Nat.le_of_ble_eq_true rfl) rfl dX12_fresh_51 ?_
        refine j_iload hE dX12_fresh_54 0 rfl ?_
        obtain rfl := Option.some.inj hf
        exact j_iret hE hq rfl rfl dX12_fresh_56
      · refine j_iconst (v := 0) hE dX12_fresh_42 (by decide) ?_
        obtain rfl := Option.some.inj hf
        exact j_iret hE hq rfl rfl dX12_fresh_43
    · refine j_aload_n hE dX12_fresh_30 rfl 0 rfl ?_
      refine j_iconst (v := 3) hE dX12_fresh_31 (by decide) ?_
      obtain ⟨q8, hc9, hf⟩ := bind_of hf
      refine j_callV (ws' := ([n_Mo g a q8 mo_y] : List va_W)) (As := [.int 3]) (rest := []) (st2 := []) hE (fun l => c_Mo_wrong l g a mo_z mo_y 3 q8 hc9) cd_X12_wrong cv_X12_wrong ml_Mo_146 rfl rfl rfl (wg_Mo_0 _ _ _ _) ⟨⟨Nat.le_of_ble_eq_true rfl, Nat.le_of_ble_eq_true rfl⟩, ⟨Nat.zero_le _, Nat.zero_le _⟩, rfl, rfl⟩ [0] rfl rfl rfl (Nat.le_of_ble_eq_true rfl) rfl dX12_fresh_32 ?_
      refine j_aload_n hE dX12_fresh_35 rfl 0 rfl ?_
      refine j_get (v := .int (q8 32 0)) hE lg_Mo_140 0 rfl 0 (wg_Mo_0 g a q8 mo_y) rfl dX12_fresh_36 ?_
      refine j_if_eq (tgt := 44) hE hf dX12_fresh_39 (by decide) (fun c10 hf => ?_) (fun c10 hf => ?_)
      · refine j_aload_n hE dX12_fresh_44 rfl 0 rfl ?_
        refine j_get (v := .int (q8 31 0)) hE lg_Mo_116 0 rfl 0 (wg_Mo_0 g a q8 mo_y) rfl dX12_fresh_45 ?_
        refine j_istore (lv' := [(4, .int (q8 31 0)), (0, .ref (a 0)), (1, .ref (a 5)), (2, .int x2), (3, .int x3)]) hE dX12_fresh_48 (by decide) rfl ?_
        refine j_aload_n hE dX12_fresh_50 rfl 1 rfl ?_
        obtain ⟨q11, hc12, hf⟩ := bind_of hf
        refine j_callV (ws' := ([n_Mo g a q11 mo_y] : List va_W)) (As := []) (rest := []) (st2 := []) hE (fun l => c_Mo_next l g a q8 mo_y q11 hc12) cd_X12_next cv_X12_next ml_Mo_149 rfl rfl rfl (wg_Mo_0 _ _ _ _) ⟨⟨Nat.le_of_ble_eq_true rfl, Nat.le_of_ble_eq_true rfl⟩, ⟨Nat.zero_le _, Nat.zero_le _⟩, rfl, rfl⟩ [0] rfl rfl rfl (Nat.le_of_ble_eq_true rfl) rfl dX12_fresh_51 ?_
        refine j_iload hE dX12_fresh_54 0 rfl ?_
        obtain rfl := Option.some.inj hf
        exact j_iret hE hq rfl rfl dX12_fresh_56
      · refine j_iconst (v := 0) hE dX12_fresh_42 (by decide) ?_
        obtain rfl := Option.some.inj hf
        exact j_iret hE hq rfl rfl dX12_fresh_43
  · refine j_aload_n hE dX12_fresh_8 rfl 0 rfl ?_
    refine j_iconst (v := 1) hE dX12_fresh_9 (by decide) ?_
    obtain ⟨q13, hc14, hf⟩ := bind_of hf
    refine j_callV (ws' := ([n_Mo g a q13 mo_y] : List va_W)) (As := [.int 1]) (rest := []) (st2 := []) hE (fun l => c_Mo_wrong l g a mo_z mo_y 1 q13 hc14) cd_X12_wrong cv_X12_wrong ml_Mo_146 rfl rfl rfl (wg_Mo_0 _ _ _ _) ⟨⟨Nat.le_of_ble_eq_true rfl, Nat.le_of_ble_eq_true rfl⟩, ⟨Nat.zero_le _, Nat.zero_le _⟩, rfl, rfl⟩ [0] rfl rfl rfl (Nat.le_of_ble_eq_true rfl) rfl dX12_fresh_10 ?_
    refine j_goto (tgt := 35) hE dX12_fresh_13 (by decide) ?_
    refine j_aload_n hE dX12_fresh_35 rfl 0 rfl ?_
    refine j_get (v := .int (q13 32 0)) hE lg_Mo_140 0 rfl 0 (wg_Mo_0 g a q13 mo_y) rfl dX12_fresh_36 ?_
    refine j_if_eq (tgt := 44) hE hf dX12_fresh_39 (by decide) (fun c15 hf => ?_) (fun c15 hf => ?_)
    · refine j_aload_n hE dX12_fresh_44 rfl 0 rfl ?_
      refine j_get (v := .int (q13 31 0)) hE lg_Mo_116 0 rfl 0 (wg_Mo_0 g a q13 mo_y) rfl dX12_fresh_45 ?_
      refine j_istore (lv' := [(4, .int (q13 31 0)), (0, .ref (a 0)), (1, .ref (a 5)), (2, .int x2), (3, .int x3)]) hE dX12_fresh_48 (by decide) rfl ?_
      refine j_aload_n hE dX12_fresh_50 rfl 1 rfl ?_
      obtain ⟨q16, hc17, hf⟩ := bind_of hf
      refine j_callV (ws' := ([n_Mo g a q16 mo_y] : List va_W)) (As := []) (rest := []) (st2 := []) hE (fun l => c_Mo_next l g a q13 mo_y q16 hc17) cd_X12_next cv_X12_next ml_Mo_149 rfl rfl rfl (wg_Mo_0 _ _ _ _) ⟨⟨Nat.le_of_ble_eq_true rfl, Nat.le_of_ble_eq_true rfl⟩, ⟨Nat.zero_le _, Nat.zero_le _⟩, rfl, rfl⟩ [0] rfl rfl rfl (Nat.le_of_ble_eq_true rfl) rfl dX12_fresh_51 ?_
      refine j_iload hE dX12_fresh_54 0 rfl ?_
      obtain rfl := Option.some.inj hf
      exact j_iret hE hq rfl rfl dX12_fresh_56
    · refine j_iconst (v := 0) hE dX12_fresh_42 (by decide) ?_
      obtain rfl := Option.some.inj hf
      exact j_iret hE hq rfl rfl dX12_fresh_43
def rm_Mo_placeLine : Room := { frames := 11, cells := 0, slots := 0, locals := 268 }
def f_Mo_placeLine_140  (x1 : Int32) (k61 : jZ → Option (jZ)) (mo_z : jZ) (v2 : Int32) : Option (jZ) := (if (mo_z 32 0) = 0 then (f_Mo_next mo_z).bind fun q29 => (if v2 = 4 then (ix x1 24).bind fun _ => k61 (up2 q29 10 (Int32.toNatClampNeg x1) 1)
    else (if v2 = 5 then (f_Mo_numeral q29 1 8).bind fun q37 => (ix x1 24).bind fun _ => k61 (up2 q37.1 11 (Int32.toNatClampNeg x1) q37.2)
    else (f_Mo_numeral q29 0 8).bind fun q33 => (ix x1 24).bind fun _ => (f_Mo_numeral (up2 q33.1 12 (Int32.toNatClampNeg x1) q33.2) 0 9).bind fun q35 => (ix x1 24).bind fun _ => k61 (up2 q35.1 13 (Int32.toNatClampNeg x1) q35.2)))
    else some mo_z)
def f_Mo_placeLine_86  (x1 : Int32) (k61 : jZ → Option (jZ)) (mo_z : jZ) : Option (jZ) := (if (mo_z 31 0) = 4 then (ix x1 24).bind fun _ => (if (mo_z 10 (Int32.toNatClampNeg x1)) = 0 then f_Mo_placeLine_140 x1 k61 mo_z (mo_z 31 0)
    else (f_Mo_wrong mo_z 3).bind fun q26 => f_Mo_placeLine_140 x1 k61 q26 (mo_z 31 0))
    else (if (mo_z 31 0) = 5 then (ix x1 24).bind fun _ => (if (mo_z 11 (Int32.toNatClampNeg x1)) = 0 then f_Mo_placeLine_140 x1 k61 mo_z (mo_z 31 0)
    else (f_Mo_wrong mo_z 3).bind fun q22 => f_Mo_placeLine_140 x1 k61 q22 (mo_z 31 0))
    else (ix x1 24).bind fun _ => (if (mo_z 12 (Int32.toNatClampNeg x1)) = (-1) then f_Mo_placeLine_140 x1 k61 mo_z (mo_z 31 0)
    else (f_Mo_wrong mo_z 3).bind fun q18 => f_Mo_placeLine_140 x1 k61 q18 (mo_z 31 0))))
def f_Mo_placeLine_61  (x1 : Int32)  : Nat → jZ → Option (jZ)
  | 0, _ => none
  | n + 1, mo_z => (f_Mo_isWord mo_z 4).bind fun q5 => (if q5 = 0 then (f_Mo_isWord mo_z 5).bind fun q8 => (if q8 = 0 then (f_Mo_isWord mo_z 6).bind fun q11 => (if q11 = 0 then some (up2 mo_z 21 0 ((mo_z 21 0) + 1))
    else f_Mo_placeLine_86 x1 (fun mo_z => f_Mo_placeLine_61 x1 n mo_z) mo_z)
    else f_Mo_placeLine_86 x1 (fun mo_z => f_Mo_placeLine_61 x1 n mo_z) mo_z)
    else f_Mo_placeLine_86 x1 (fun mo_z => f_Mo_placeLine_61 x1 n mo_z) mo_z)
def f_Mo_placeLine (mo_z : jZ) (x1 : Int32) : Option (jZ) := (f_Mo_freshMo_placeName mo_z 12 (mo_z 21 0)).bind fun q1 => (ix x1 24).bind fun _ => (f_Mo_numeral (up2 q1.1 8 (Int32.toNatClampNeg x1) q1.2) 0 9).bind fun q3 => (ix x1 24).bind fun _ => (ix x1 24).bind fun _ => (ix x1 24).bind fun _ => (ix x1 24).bind fun _ => (ix x1 24).bind fun _ => f_Mo_placeLine_61 x1 FU (up2 (up2 (up2 (up2 (up2 q3.1 9 (Int32.toNatClampNeg x1) q3.2) 10 (Int32.toNatClampNeg x1) 0) 11 (Int32.toNatClampNeg x1) 0) 12 (Int32.toNatClampNeg x1) (-1)) 13 (Int32.toNatClampNeg x1) 0)
set_option maxRecDepth 100000 in
theorem j_Mo_placeLine_140 (E : jT) (g : jG) (a : Nat → Nat) (mo_y : jY) (x1 : Int32) (res : jZ) (hE : jOk E g RX12 cX12_placeLine 3 (none : Option Jvm.ClassFile.FieldType) rm_Mo_placeLine) (hq : jEnd E g none (([n_Mo g a res mo_y] : List va_W)) 0 0) (k61 : jZ → Option (jZ)) (hk61 : ∀ (mo_z : jZ), k61 mo_z = some res → J E g 0 0 (([n_Mo g a mo_z mo_y] : List va_W)) [(0, .ref (a 0)), (1, .int x1)] 61 []) (mo_z : jZ) (v2 : Int32) (hf : f_Mo_placeLine_140 x1 k61 mo_z v2 = some res) : J E g 0 0 (([n_Mo g a mo_z mo_y] : List va_W)) [(0, .ref (a 0)), (1, .int x1), (2, .int v2)] 140 [] := by
  unfold f_Mo_placeLine_140 at hf
  refine j_aload_n hE dX12_placeLine_140 rfl 0 rfl ?_
  refine j_get (v := .int (mo_z 32 0)) hE lg_Mo_140 0 rfl 0 (wg_Mo_0 g a mo_z mo_y) rfl dX12_placeLine_141 ?_
  refine j_if_eq (tgt := 148) hE hf dX12_placeLine_144 (by decide) (fun c28 hf => ?_) (fun c28 hf => ?_)
  · refine j_aload_n hE dX12_placeLine_148 rfl 0 rfl ?_
    obtain ⟨q29, hc30, hf⟩ := bind_of hf
    refine j_callV (ws' := ([n_Mo g a q29 mo_y] : List va_W)) (As := []) (rest := []) (st2 := []) hE (fun l => c_Mo_next l g a mo_z mo_y q29 hc30) cd_X12_next cv_X12_next ml_Mo_149 rfl rfl rfl (wg_Mo_0 _ _ _ _) ⟨⟨Nat.le_of_ble_eq_true rfl, Nat.le_of_ble_eq_true rfl⟩, ⟨Nat.zero_le _, Nat.zero_le _⟩, rfl, rfl⟩ [0] rfl rfl rfl (Nat.le_of_ble_eq_true rfl) rfl dX12_placeLine_149 ?_
    refine j_iload_n hE dX12_placeLine_152 rfl 2 rfl ?_
    refine j_iconst (v := 4) hE dX12_placeLine_153 (by decide) ?_
    refine j_icmp_ne (tgt := 167) hE hf dX12_placeLine_154 (by decide) (fun c31 hf => ?_) (fun c31 hf => ?_)
    · refine j_iload_n hE dX12_placeLine_167 rfl 2 rfl ?_
      refine j_iconst (v := 5) hE dX12_placeLine_168 (by decide) ?_
      refine j_icmp_ne (tgt := 188) hE hf dX12_placeLine_169 (by decide) (fun c32 hf => ?_) (fun c32 hf => ?_)
      · refine j_aload_n hE dX12_placeLine_188 rfl 0 rfl ?_
        refine j_get (v := .ref (a 9)) hE lg_Mo_37 0 rfl 0 (wg_Mo_0 g a q29 mo_y) rfl dX12_placeLine_189 ?_
        refine j_iload_n hE dX12_placeLine_192 rfl 1 rfl ?_
        refine j_aload_n hE dX12_placeLine_193 rfl 0 rfl ?_
        refine j_iconst (v := 0) hE dX12_placeLine_194 (by decide) ?_
        refine j_bipush (v := 8) hE dX12_placeLine_195 (by decide) ?_
        obtain ⟨q33, hc34, hf⟩ := bind_of hf
        refine j_callV (ws' := ([n_Mo g a q33.1 mo_y] : List va_W)) (As := [.int 0, .int 8]) (rest := [.int x1, .ref (a 9)]) (st2 := [.int q33.2, .int x1, .ref (a 9)]) hE (fun l => c_Mo_numeral l g a q29 mo_y 0 8 q33 hc34) cd_X12_numeral cv_X12_numeral ml_Mo_174 rfl rfl rfl (wg_Mo_0 _ _ _ _) ⟨⟨Nat.le_of_ble_eq_true rfl, Nat.le_of_ble_eq_true rfl⟩, ⟨Nat.zero_le _, Nat.zero_le _⟩, rfl, rfl⟩ [0] rfl rfl rfl (Nat.le_of_ble_eq_true rfl) rfl dX12_placeLine_197 ?_
        refine j_iast (ws' := ([n_Mo g a (up2 q33.1 12 (Int32.toNatClampNeg x1) q33.2) mo_y] : List va_W)) hE hf 0 rfl 9 (wg_Mo_9 g a q33.1 mo_y) (wa_Mo_9 g a q33.1 mo_y (Int32.toNatClampNeg x1) q33.2) rfl dX12_placeLine_200 (fun hf => ?_)
        refine j_aload_n hE dX12_placeLine_201 rfl 0 rfl ?_
        refine j_get (v := .ref (a 10)) hE lg_Mo_40 0 rfl 0 (wg_Mo_0 g a (up2 q33.1 12 (Int32.toNatClampNeg x1) q33.2) mo_y) rfl dX12_placeLine_202 ?_
        refine j_iload_n hE dX12_placeLine_205 rfl 1 rfl ?_
        refine j_aload_n hE dX12_placeLine_206 rfl 0 rfl ?_
        refine j_iconst (v := 0) hE dX12_placeLine_207 (by decide) ?_
        refine j_bipush (v := 9) hE dX12_placeLine_208 (by decide) ?_
        obtain ⟨q35, hc36, hf⟩ := bind_of hf
        refine j_callV (ws' := ([n_Mo g a q35.1 mo_y] : List va_W)) (As := [.int 0, .int 9]) (rest := [.int x1, .ref (a 10)]) (st2 := [.int q35.2, .int x1, .ref (a 10)]) hE (fun l => c_Mo_numeral l g a (up2 q33.1 12 (Int32.toNatClampNeg x1) q33.2) mo_y 0 9 q35 hc36) cd_X12_numeral cv_X12_numeral ml_Mo_174 rfl rfl rfl (wg_Mo_0 _ _ _ _) ⟨⟨Nat.le_of_ble_eq_true rfl, Nat.le_of_ble_eq_true rfl⟩, ⟨Nat.zero_le _, Nat.zero_le _⟩, rfl, rfl⟩ [0] rfl rfl rfl (Nat.le_of_ble_eq_true rfl) rfl dX12_placeLine_210 ?_
        refine j_iast (ws' := ([n_Mo g a (up2 q35.1 13 (Int32.toNatClampNeg x1) q35.2) mo_y] : List va_W)) hE hf 0 rfl 10 (wg_Mo_10 g a q35.1 mo_y) (wa_Mo_10 g a q35.1 mo_y (Int32.toNatClampNeg x1) q35.2) rfl dX12_placeLine_213 (fun hf => ?_)
        refine j_goto (tgt := 61) hE dX12_placeLine_214 (by decide) ?_
        exact j_sub [0, 1] rfl (hk61 (up2 q35.1 13 (Int32.toNatClampNeg x1) q35.2) hf)
      · refine j_aload_n hE dX12_placeLine_172 rfl 0 rfl ?_
        refine j_get (v := .ref (a 8)) hE lg_Mo_34 0 rfl 0 (wg_Mo_0 g a q29 mo_y) rfl dX12_placeLine_173 ?_
        refine j_iload_n hE dX12_placeLine_176 rfl 1 rfl ?_
        refine j_aload_n hE dX12_placeLine_177 rfl 0 rfl ?_
        refine j_iconst (v := 1) hE dX12_placeLine_178 (by decide) ?_
        refine j_bipush (v := 8) hE dX12_placeLine_179 (by decide) ?_
        obtain ⟨q37, hc38, hf⟩ := bind_of hf
        refine j_callV (ws' := ([n_Mo g a q37.1 mo_y] : List va_W)) (As := [.int 1, .int 8]) (rest := [.int x1, .ref (a 8)]) (st2 := [.int q37.2, .int x1, .ref (a 8)]) hE (fun l => c_Mo_numeral l g a q29 mo_y 1 8 q37 hc38) cd_X12_numeral cv_X12_numeral ml_Mo_174 rfl rfl rfl (wg_Mo_0 _ _ _ _) ⟨⟨Nat.le_of_ble_eq_true rfl, Nat.le_of_ble_eq_true rfl⟩, ⟨Nat.zero_le _, Nat.zero_le _⟩, rfl, rfl⟩ [0] rfl rfl rfl (Nat.le_of_ble_eq_true rfl) rfl dX12_placeLine_181 ?_
        refine j_iast (ws' := ([n_Mo g a (up2 q37.1 11 (Int32.toNatClampNeg x1) q37.2) mo_y] : List va_W)) hE hf 0 rfl 8 (wg_Mo_8 g a q37.1 mo_y) (wa_Mo_8 g a q37.1 mo_y (Int32.toNatClampNeg x1) q37.2) rfl dX12_placeLine_184 (fun hf => ?_)
        refine j_goto (tgt := 214) hE dX12_placeLine_185 (by decide) ?_
        refine j_goto (tgt := 61) hE dX12_placeLine_214 (by decide) ?_
        exact j_sub [0, 1] rfl (hk61 (up2 q37.1 11 (Int32.toNatClampNeg x1) q37.2) hf)
    · refine j_aload_n hE dX12_placeLine_157 rfl 0 rfl ?_
      refine j_get (v := .ref (a 7)) hE lg_Mo_30 0 rfl 0 (wg_Mo_0 g a q29 mo_y) rfl dX12_placeLine_158 ?_
      refine j_iload_n hE dX12_placeLine_161 rfl 1 rfl ?_
      refine j_iconst (v := 1) hE dX12_placeLine_162 (by decide) ?_
      refine j_zast (ws' := ([n_Mo g a (up2 q29 10 (Int32.toNatClampNeg x1) 1) mo_y] : List va_W)) hE hf 0 rfl 7 (wg_Mo_7 g a q29 mo_y) (wa_Mo_7 g a q29 mo_y (Int32.toNatClampNeg x1) 1) rfl dX12_placeLine_163 (fun hf => ?_)
      refine j_goto (tgt := 214) hE dX12_placeLine_164 (by decide) ?_
      refine j_goto (tgt := 61) hE dX12_placeLine_214 (by decide) ?_
      exact j_sub [0, 1] rfl (hk61 (up2 q29 10 (Int32.toNatClampNeg x1) 1) hf)
  · obtain rfl := Option.some.inj hf
    exact j_vret hE hq rfl rfl dX12_placeLine_147
set_option maxRecDepth 100000 in
theorem j_Mo_placeLine_86 (E : jT) (g : jG) (a : Nat → Nat) (mo_y : jY) (x1 : Int32) (res : jZ) (hE : jOk E g RX12 cX12_placeLine 3 (none : Option Jvm.ClassFile.FieldType) rm_Mo_placeLine) (hq : jEnd E g none (([n_Mo g a res mo_y] : List va_W)) 0 0) (k61 : jZ → Option (jZ)) (hk61 : ∀ (mo_z : jZ), k61 mo_z = some res → J E g 0 0 (([n_Mo g a mo_z mo_y] : List va_W)) [(0, .ref (a 0)), (1, .int x1)] 61 []) (mo_z : jZ) (hf : f_Mo_placeLine_86 x1 k61 mo_z = some res) : J E g 0 0 (([n_Mo g a mo_z mo_y] : List va_W)) [(0, .ref (a 0)), (1, .int x1)] 86 [] := by
  unfold f_Mo_placeLine_86 at hf
  refine j_aload_n hE dX12_placeLine_86 rfl 0 rfl ?_
  refine j_get (v := .int (mo_z 31 0)) hE lg_Mo_116 0 rfl 0 (wg_Mo_0 g a mo_z mo_y) rfl dX12_placeLine_87 ?_
  refine j_istore_n (lv' := [(2, .int (mo_z 31 0)), (0, .ref (a 0)), (1, .int x1)]) hE dX12_placeLine_90 rfl (by decide) rfl ?_
  refine j_iload_n hE dX12_placeLine_91 rfl 0 rfl ?_
  refine j_iconst (v := 4) hE dX12_placeLine_92 (by decide) ?_
  refine j_icmp_ne (tgt := 108) hE hf dX12_placeLine_93 (by decide) (fun c14 hf => ?_) (fun c14 hf => ?_)
  · refine j_iload_n hE dX12_placeLine_108 rfl 0 rfl ?_
    refine j_iconst (v := 5) hE dX12_placeLine_109 (by decide) ?_
    refine j_icmp_ne (tgt := 125) hE hf dX12_placeLine_110 (by decide) (fun c15 hf => ?_) (fun c15 hf => ?_)
    · refine j_aload_n hE dX12_placeLine_125 rfl 1 rfl ?_
      refine j_get (v := .ref (a 9)) hE lg_Mo_37 0 rfl 0 (wg_Mo_0 g a mo_z mo_y) rfl dX12_placeLine_126 ?_
      refine j_iload_n hE dX12_placeLine_129 rfl 2 rfl ?_
      refine j_iald hE hf 0 rfl 9 (wg_Mo_9 g a mo_z mo_y) dX12_placeLine_130 (fun hf => ?_)
      refine j_iconst (v := (-1)) hE dX12_placeLine_131 (by decide) ?_
      refine j_icmp_eq (tgt := 140) hE hf dX12_placeLine_132 (by decide) (fun c17 hf => ?_) (fun c17 hf => ?_)
      · exact j_sub [1, 2, 0] rfl (j_Mo_placeLine_140 E g a mo_y x1 res hE hq k61 hk61 mo_z (mo_z 31 0) hf)
      · refine j_aload_n hE dX12_placeLine_135 rfl 1 rfl ?_
        refine j_iconst (v := 3) hE dX12_placeLine_136 (by decide) ?_
        obtain ⟨q18, hc19, hf⟩ := bind_of hf
        refine j_callV (ws' := ([n_Mo g a q18 mo_y] : List va_W)) (As := [.int 3]) (rest := []) (st2 := []) hE (fun l => c_Mo_wrong l g a mo_z mo_y 3 q18 hc19) cd_X12_wrong cv_X12_wrong ml_Mo_146 rfl rfl rfl (wg_Mo_0 _ _ _ _) ⟨⟨Nat.le_of_ble_eq_true rfl, Nat.le_of_ble_eq_true rfl⟩, ⟨Nat.zero_le _, Nat.zero_le _⟩, rfl, rfl⟩ [0] rfl rfl rfl (Nat.le_of_ble_eq_true rfl) rfl dX12_placeLine_137 ?_
        exact j_sub [1, 2, 0] rfl (j_Mo_placeLine_140 E g a mo_y x1 res hE hq k61 hk61 q18 (mo_z 31 0) hf)
    · refine j_aload_n hE dX12_placeLine_113 rfl 1 rfl ?_
      refine j_get (v := .ref (a 8)) hE lg_Mo_34 0 rfl 0 (wg_Mo_0 g a mo_z mo_y) rfl dX12_placeLine_114 ?_
      refine j_iload_n hE dX12_placeLine_117 rfl 2 rfl ?_
      refine j_iald hE hf 0 rfl 8 (wg_Mo_8 g a mo_z mo_y) dX12_placeLine_118 (fun hf => ?_)
      refine j_if_eq (tgt := 140) hE hf dX12_placeLine_119 (by decide) (fun c21 hf => ?_) (fun c21 hf => ?_)
      · exact j_sub [1, 2, 0] rfl (j_Mo_placeLine_140 E g a mo_y x1 res hE hq k61 hk61 mo_z (mo_z 31 0) hf)
      · refine j_goto (tgt := 135) hE dX12_placeLine_122 (by decide) ?_
        refine j_aload_n hE dX12_placeLine_135 rfl 1 rfl ?_
        refine j_iconst (v := 3) hE dX12_placeLine_136 (by decide) ?_
        obtain ⟨q22, hc23, hf⟩ := bind_of hf
        refine j_callV (ws' := ([n_Mo g a q22 mo_y] : List va_W)) (As := [.int 3]) (rest := []) (st2 := []) hE (fun l => c_Mo_wrong l g a mo_z mo_y 3 q22 hc23) cd_X12_wrong cv_X12_wrong ml_Mo_146 rfl rfl rfl (wg_Mo_0 _ _ _ _) ⟨⟨Nat.le_of_ble_eq_true rfl, Nat.le_of_ble_eq_true rfl⟩, ⟨Nat.zero_le _, Nat.zero_le _⟩, rfl, rfl⟩ [0] rfl rfl rfl (Nat.le_of_ble_eq_true rfl) rfl dX12_placeLine_137 ?_
        exact j_sub [1, 2, 0] rfl (j_Mo_placeLine_140 E g a mo_y x1 res hE hq k61 hk61 q22 (mo_z 31 0) hf)
  · refine j_aload_n hE dX12_placeLine_96 rfl 1 rfl ?_
    refine j_get (v := .ref (a 7)) hE lg_Mo_30 0 rfl 0 (wg_Mo_0 g a mo_z mo_y) rfl dX12_placeLine_97 ?_
    refine j_iload_n hE dX12_placeLine_100 rfl 2 rfl ?_
    refine j_zald hE hf 0 rfl 7 (wg_Mo_7 g a mo_z mo_y) dX12_placeLine_101 (fun hf => ?_)
    refine j_if_eq (tgt := 140) hE hf dX12_placeLine_102 (by decide) (fun c25 hf => ?_) (fun c25 hf => ?_)
    · exact j_sub [1, 2, 0] rfl (j_Mo_placeLine_140 E g a mo_y x1 res hE hq k61 hk61 mo_z (mo_z 31 0) hf)
    · refine j_goto (tgt := 135) hE dX12_placeLine_105 (by decide) ?_
      refine j_aload_n hE dX12_placeLine_135 rfl 1 rfl ?_
      refine j_iconst (v := 3) hE dX12_placeLine_136 (by decide) ?_
      obtain ⟨q26, hc27, hf⟩ := bind_of hf
      refine j_callV (ws' := ([n_Mo g a q26 mo_y] : List va_W)) (As := [.int 3]) (rest := []) (st2 := []) hE (fun l => c_Mo_wrong l g a mo_z mo_y 3 q26 hc27) cd_X12_wrong cv_X12_wrong ml_Mo_146 rfl rfl rfl (wg_Mo_0 _ _ _ _) ⟨⟨Nat.le_of_ble_eq_true rfl, Nat.le_of_ble_eq_true rfl⟩, ⟨Nat.zero_le _, Nat.zero_le _⟩, rfl, rfl⟩ [0] rfl rfl rfl (Nat.le_of_ble_eq_true rfl) rfl dX12_placeLine_137 ?_
      exact j_sub [1, 2, 0] rfl (j_Mo_placeLine_140 E g a mo_y x1 res hE hq k61 hk61 q26 (mo_z 31 0) hf)
set_option maxRecDepth 100000 in
theorem j_Mo_placeLine_61 (E : jT) (g : jG) (a : Nat → Nat) (mo_y : jY) (x1 : Int32) (res : jZ) (hE : jOk E g RX12 cX12_placeLine 3 (none : Option Jvm.ClassFile.FieldType) rm_Mo_placeLine) (hq : jEnd E g none (([n_Mo g a res mo_y] : List va_W)) 0 0)  : ∀ (n : Nat) (mo_z : jZ), f_Mo_placeLine_61 x1 n mo_z = some res → J E g 0 0 (([n_Mo g a mo_z mo_y] : List va_W)) [(0, .ref (a 0)), (1, .int x1)] 61 [] := by
  intro n
  induction n with
  | zero =>
    intro mo_z hf
    rw [f_Mo_placeLine_61] at hf
    cases hf
  | succ n ih =>
    intro mo_z hf
    rw [f_Mo_placeLine_61] at hf
    refine j_aload_n hE dX12_placeLine_61 rfl 0 rfl ?_
    refine j_iconst (v := 4) hE dX12_placeLine_62 (by decide) ?_
    obtain ⟨q5, hc6, hf⟩ := bind_of hf
    refine j_callV (ws' := ([n_Mo g a mo_z mo_y] : List va_W)) (As := [.int 4]) (rest := []) (st2 := [.int q5]) hE (fun l => c_Mo_isWord l g a mo_z mo_y 4 q5 hc6) cd_X12_isWord cv_X12_isWord ml_Mo_194 rfl rfl rfl (wg_Mo_0 _ _ _ _) ⟨⟨Nat.le_of_ble_eq_true rfl, Nat.le_of_ble_eq_true rfl⟩, ⟨Nat.zero_le _, Nat.zero_le _⟩, rfl, rfl⟩ [0] rfl rfl rfl (Nat.le_of_ble_eq_true rfl) rfl dX12_placeLine_63 ?_
    refine j_if_ne (tgt := 86) hE hf dX12_placeLine_66 (by decide) (fun c7 hf => ?_) (fun c7 hf => ?_)
    · exact j_Mo_placeLine_86 E g a mo_y x1 res hE hq (fun mo_z => f_Mo_placeLine_61 x1 n mo_z) (fun mo_z hf => ih mo_z hf) mo_z hf
    · refine j_aload_n hE dX12_placeLine_69 rfl 0 rfl ?_
      refine j_iconst (v := 5) hE dX12_placeLine_70 (by decide) ?_
      obtain ⟨q8, hc9, hf⟩ := bind_of hf
      refine j_callV (ws' := ([n_Mo g a mo_z mo_y] : List va_W)) (As := [.int 5]) (rest := []) (st2 := [.int q8]) hE (fun l => c_Mo_isWord l g a mo_z mo_y 5 q8 hc9) cd_X12_isWord cv_X12_isWord ml_Mo_194 rfl rfl rfl (wg_Mo_0 _ _ _ _) ⟨⟨Nat.le_of_ble_eq_true rfl, Nat.le_of_ble_eq_true rfl⟩, ⟨Nat.zero_le _, Nat.zero_le _⟩, rfl, rfl⟩ [0] rfl rfl rfl (Nat.le_of_ble_eq_true rfl) rfl dX12_placeLine_71 ?_
      refine j_if_ne (tgt := 86) hE hf dX12_placeLine_74 (by decide) (fun c10 hf => ?_) (fun c10 hf => ?_)
      · exact j_Mo_placeLine_86 E g a mo_y x1 res hE hq (fun mo_z => f_Mo_placeLine_61 x1 n mo_z) (fun mo_z hf => ih mo_z hf) mo_z hf
      · refine j_aload_n hE dX12_placeLine_77 rfl 0 rfl ?_
        refine j_bipush (v := 6) hE dX12_placeLine_78 (by decide) ?_
        obtain ⟨q11, hc12, hf⟩ := bind_of hf
        refine j_callV (ws' := ([n_Mo g a mo_z mo_y] : List va_W)) (As := [.int 6]) (rest := []) (st2 := [.int q11]) hE (fun l => c_Mo_isWord l g a mo_z mo_y 6 q11 hc12) cd_X12_isWord cv_X12_isWord ml_Mo_194 rfl rfl rfl (wg_Mo_0 _ _ _ _) ⟨⟨Nat.le_of_ble_eq_true rfl, Nat.le_of_ble_eq_true rfl⟩, ⟨Nat.zero_le _, Nat.zero_le _⟩, rfl, rfl⟩ [0] rfl rfl rfl (Nat.le_of_ble_eq_true rfl) rfl dX12_placeLine_80 ?_
        refine j_if_eq (tgt := 217) hE hf dX12_placeLine_83 (by decide) (fun c13 hf => ?_) (fun c13 hf => ?_)
        · refine j_aload_n hE dX12_placeLine_217 rfl 0 rfl ?_
          refine j_dup hE dX12_placeLine_218 rfl ?_
          refine j_get (v := .int (mo_z 21 0)) hE lg_Mo_159 0 rfl 0 (wg_Mo_0 g a mo_z mo_y) rfl dX12_placeLine_219 ?_
          refine j_iconst (v := 1) hE dX12_placeLine_222 (by decide) ?_
          refine j_iadd hE dX12_placeLine_223 ?_
          refine j_put (v := .int ((mo_z 21 0) + 1)) (ws' := ([n_Mo g a (up2 mo_z 21 0 ((mo_z 21 0) + 1)) mo_y] : List va_W)) hE lp_Mo_159 0 rfl 0 (wg_Mo_0 g a mo_z mo_y) rfl rfl (Nat.le_of_ble_eq_true rfl) (wp_Mo_21 g a mo_z mo_y ((mo_z 21 0) + 1)) rfl dX12_placeLine_224 ?_
          obtain rfl := Option.some.inj hf
          exact j_vret hE hq rfl rfl dX12_placeLine_227
        · exact j_Mo_placeLine_86 E g a mo_y x1 res hE hq (fun mo_z => f_Mo_placeLine_61 x1 n mo_z) (fun mo_z hf => ih mo_z hf) mo_z hf
set_option maxRecDepth 100000 in
theorem c_Mo_placeLine (l : Launch) (g : jG) (a : Nat → Nat) (mo_z : jZ) (mo_y : jY) (x1 : Int32) (res : jZ) (hf : f_Mo_placeLine mo_z x1 = some res) : MC l g yX12_placeLine cX12_placeLine 3 (none : Option Jvm.ClassFile.FieldType) rm_Mo_placeLine [.ref (a 0), .int x1] (([n_Mo g a mo_z mo_y] : List va_W)) none (([n_Mo g a res mo_y] : List va_W)) 0 0 := by
  refine MC_of (own := RX12) (lv := [(0, .ref (a 0)), (1, .int x1)]) (by decide) rfl (Nat.le_of_ble_eq_true rfl) rfl rfl (fun E hE hq => ?_)
  unfold f_Mo_placeLine at hf
  refine j_aload_n hE dX12_placeLine_0 rfl 0 rfl ?_
  refine j_get (v := .ref (a 5)) hE lg_Mo_24 0 rfl 0 (wg_Mo_0 g a mo_z mo_y) rfl dX12_placeLine_1 ?_
  refine j_iload_n hE dX12_placeLine_4 rfl 1 rfl ?_
  refine j_aload_n hE dX12_placeLine_5 rfl 0 rfl ?_
  refine j_aload_n hE dX12_placeLine_6 rfl 0 rfl ?_
  refine j_get (v := .ref (a 5)) hE lg_Mo_24 0 rfl 0 (wg_Mo_0 g a mo_z mo_y) rfl dX12_placeLine_7 ?_
  refine j_bipush (v := 12) hE dX12_placeLine_10 (by decide) ?_
  refine j_aload_n hE dX12_placeLine_12 rfl 0 rfl ?_
  refine j_get (v := .int (mo_z 21 0)) hE lg_Mo_159 0 rfl 0 (wg_Mo_0 g a mo_z mo_y) rfl dX12_placeLine_13 ?_
  obtain ⟨q1, hc2, hf⟩ := bind_of hf
  refine j_callV (ws' := ([n_Mo g a q1.1 mo_y] : List va_W)) (As := [.ref (a 5), .int 12, .int (mo_z 21 0)]) (rest := [.int x1, .ref (a 5)]) (st2 := [.int q1.2, .int x1, .ref (a 5)]) hE (fun l => c_Mo_freshMo_placeName l g a mo_z mo_y 12 (mo_z 21 0) q1 hc2) cd_X12_fresh cv_X12_fresh ml_Mo_190 rfl rfl rfl (wg_Mo_0 _ _ _ _) ⟨⟨Nat.le_of_ble_eq_true rfl, Nat.le_of_ble_eq_true rfl⟩, ⟨Nat.zero_le _, Nat.zero_le _⟩, rfl, rfl⟩ [0] rfl rfl rfl (Nat.le_of_ble_eq_true rfl) rfl dX12_placeLine_16 ?_
  refine j_iast (ws' := ([n_Mo g a (up2 q1.1 8 (Int32.toNatClampNeg x1) q1.2) mo_y] : List va_W)) hE hf 0 rfl 5 (wg_Mo_5 g a q1.1 mo_y) (wa_Mo_5 g a q1.1 mo_y (Int32.toNatClampNeg x1) q1.2) rfl dX12_placeLine_19 (fun hf => ?_)
  refine j_aload_n hE dX12_placeLine_20 rfl 0 rfl ?_
  refine j_get (v := .ref (a 6)) hE lg_Mo_27 0 rfl 0 (wg_Mo_0 g a (up2 q1.1 8 (Int32.toNatClampNeg x1) q1.2) mo_y) rfl dX12_placeLine_21 ?_
  refine j_iload_n hE dX12_placeLine_24 rfl 1 rfl ?_
  refine j_aload_n hE dX12_placeLine_25 rfl 0 rfl ?_
  refine j_iconst (v := 0) hE dX12_placeLine_26 (by decide) ?_
  refine j_bipush (v := 9) hE dX12_placeLine_27 (by decide) ?_
  obtain ⟨q3, hc4, hf⟩ := bind_of hf
  refine j_callV (ws' := ([n_Mo g a q3.1 mo_y] : List va_W)) (As := [.int 0, .int 9]) (rest := [.int x1, .ref (a 6)]) (st2 := [.int q3.2, .int x1, .ref (a 6)]) hE (fun l => c_Mo_numeral l g a (up2 q1.1 8 (Int32.toNatClampNeg x1) q1.2) mo_y 0 9 q3 hc4) cd_X12_numeral cv_X12_numeral ml_Mo_174 rfl rfl rfl (wg_Mo_0 _ _ _ _) ⟨⟨Nat.le_of_ble_eq_true rfl, Nat.le_of_ble_eq_true rfl⟩, ⟨Nat.zero_le _, Nat.zero_le _⟩, rfl, rfl⟩ [0] rfl rfl rfl (Nat.le_of_ble_eq_true rfl) rfl dX12_placeLine_29 ?_
  refine j_iast (ws' := ([n_Mo g a (up2 q3.1 9 (Int32.toNatClampNeg x1) q3.2) mo_y] : List va_W)) hE hf 0 rfl 6 (wg_Mo_6 g a q3.1 mo_y) (wa_Mo_6 g a q3.1 mo_y (Int32.toNatClampNeg x1) q3.2) rfl dX12_placeLine_32 (fun hf => ?_)
  refine j_aload_n hE dX12_placeLine_33 rfl 0 rfl ?_
  refine j_get (v := .ref (a 7)) hE lg_Mo_30 0 rfl 0 (wg_Mo_0 g a (up2 q3.1 9 (Int32.toNatClampNeg x1) q3.2) mo_y) rfl dX12_placeLine_34 ?_
  refine j_iload_n hE dX12_placeLine_37 rfl 1 rfl ?_
  refine j_iconst (v := 0) hE dX12_placeLine_38 (by decide) ?_
  refine j_zast (ws' := ([n_Mo g a (up2 (up2 q3.1 9 (Int32.toNatClampNeg x1) q3.2) 10 (Int32.toNatClampNeg x1) 0) mo_y] : List va_W)) hE hf 0 rfl 7 (wg_Mo_7 g a (up2 q3.1 9 (Int32.toNatClampNeg x1) q3.2) mo_y) (wa_Mo_7 g a (up2 q3.1 9 (Int32.toNatClampNeg x1) q3.2) mo_y (Int32.toNatClampNeg x1) 0) rfl dX12_placeLine_39 (fun hf => ?_)
  refine j_aload_n hE dX12_placeLine_40 rfl 0 rfl ?_
  refine j_get (v := .ref (a 8)) hE lg_Mo_34 0 rfl 0 (wg_Mo_0 g a (up2 (up2 q3.1 9 (Int32.toNatClampNeg x1) q3.2) 10 (Int32.toNatClampNeg x1) 0) mo_y) rfl dX12_placeLine_41 ?_
  refine j_iload_n hE dX12_placeLine_44 rfl 1 rfl ?_
  refine j_iconst (v := 0) hE dX12_placeLine_45 (by decide) ?_
  refine j_iast (ws' := ([n_Mo g a (up2 (up2 (up2 q3.1 9 (Int32.toNatClampNeg x1) q3.2) 10 (Int32.toNatClampNeg x1) 0) 11 (Int32.toNatClampNeg x1) 0) mo_y] : List va_W)) hE hf 0 rfl 8 (wg_Mo_8 g a (up2 (up2 q3.1 9 (Int32.toNatClampNeg x1) q3.2) 10 (Int32.toNatClampNeg x1) 0) mo_y) (wa_Mo_8 g a (up2 (up2 q3.1 9 (Int32.toNatClampNeg x1) q3.2) 10 (Int32.toNatClampNeg x1) 0) mo_y (Int32.toNatClampNeg x1) 0) rfl dX12_placeLine_46 (fun hf => ?_)
  refine j_aload_n hE dX12_placeLine_47 rfl 0 rfl ?_
  refine j_get (v := .ref (a 9)) hE lg_Mo_37 0 rfl 0 (wg_Mo_0 g a (up2 (up2 (up2 q3.1 9 (Int32.toNatClampNeg x1) q3.2) 10 (Int32.toNatClampNeg x1) 0) 11 (Int32.toNatClampNeg x1) 0) mo_y) rfl dX12_placeLine_48 ?_
  refine j_iload_n hE dX12_placeLine_51 rfl 1 rfl ?_
  refine j_iconst (v := (-1)) hE dX12_placeLine_52 (by decide) ?_
  refine j_iast (ws' := ([n_Mo g a (up2 (up2 (up2 (up2 q3.1 9 (Int32.toNatClampNeg x1) q3.2) 10 (Int32.toNatClampNeg x1) 0) 11 (Int32.toNatClampNeg x1) 0) 12 (Int32.toNatClampNeg x1) (-1)) mo_y] : List va_W)) hE hf 0 rfl 9 (wg_Mo_9 g a (up2 (up2 (up2 q3.1 9 (Int32.toNatClampNeg x1) q3.2) 10 (Int32.toNatClampNeg x1) 0) 11 (Int32.toNatClampNeg x1) 0) mo_y) (wa_Mo_9 g a (up2 (up2 (up2 q3.1 9 (Int32.toNatClampNeg x1) q3.2) 10 (Int32.toNatClampNeg x1) 0) 11 (Int32.toNatClampNeg x1) 0) mo_y (Int32.toNatClampNeg x1) (-1)) rfl dX12_placeLine_53 (fun hf => ?_)
  refine j_aload_n hE dX12_placeLine_54 rfl 0 rfl ?_
  refine j_get (v := .ref (a 10)) hE lg_Mo_40 0 rfl 0 (wg_Mo_0 g a (up2 (up2 (up2 (up2 q3.1 9 (Int32.toNatClampNeg x1) q3.2) 10 (Int32.toNatClampNeg x1) 0) 11 (Int32.toNatClampNeg x1) 0) 12 (Int32.toNatClampNeg x1) (-1)) mo_y) rfl dX12_placeLine_55 ?_
  refine j_iload_n hE dX12_placeLine_58 rfl 1 rfl ?_
  refine j_iconst (v := 0) hE dX12_placeLine_59 (by decide) ?_
  refine j_iast (ws' := ([n_Mo g a (up2 (up2 (up2 (up2 (up2 q3.1 9 (Int32.toNatClampNeg x1) q3.2) 10 (Int32.toNatClampNeg x1) 0) 11 (Int32.toNatClampNeg x1) 0) 12 (Int32.toNatClampNeg x1) (-1)) 13 (Int32.toNatClampNeg x1) 0) mo_y] : List va_W)) hE hf 0 rfl 10 (wg_Mo_10 g a (up2 (up2 (up2 (up2 q3.1 9 (Int32.toNatClampNeg x1) q3.2) 10 (Int32.toNatClampNeg x1) 0) 11 (Int32.toNatClampNeg x1) 0) 12 (Int32.toNatClampNeg x1) (-1)) mo_y) (wa_Mo_10 g a (up2 (up2 (up2 (up2 q3.1 9 (Int32.toNatClampNeg x1) q3.2) 10 (Int32.toNatClampNeg x1) 0) 11 (Int32.toNatClampNeg x1) 0) 12 (Int32.toNatClampNeg x1) (-1)) mo_y (Int32.toNatClampNeg x1) 0) rfl dX12_placeLine_60 (fun hf => ?_)
  exact j_Mo_placeLine_61 E g a mo_y x1 res hE hq FU (up2 (up2 (up2 (up2 (up2 q3.1 9 (Int32.toNatClampNeg x1) q3.2) 10 (Int32.toNatClampNeg x1) 0) 11 (Int32.toNatClampNeg x1) 0) 12 (Int32.toNatClampNeg x1) (-1)) 13 (Int32.toNatClampNeg x1) 0) hf
def rm_Mo_puts : Room := { frames := 0, cells := 0, slots := 0, locals := 0 }
def f_Mo_puts (mo_z : jZ) (x1 : Int32) (x2 : Int32) : Option (jZ) := (if (mo_z 32 0) = 0 then (ix (64 + (mo_z 22 0)) 128).bind fun _ => (ix (64 + (mo_z 22 0)) 128).bind fun _ => some (up2 (up2 (up2 mo_z 15 (Int32.toNatClampNeg (64 + (mo_z 22 0))) x1) 16 (Int32.toNatClampNeg (64 + (mo_z 22 0))) x2) 22 0 ((mo_z 22 0) + 1))
    else some mo_z)
set_option maxRecDepth 100000 in
theorem c_Mo_puts (l : Launch) (g : jG) (a : Nat → Nat) (mo_z : jZ) (mo_y : jY) (x1 : Int32) (x2 : Int32) (res : jZ) (hf : f_Mo_puts mo_z x1 x2 = some res) : MC l g yX12_puts cX12_puts 3 (none : Option Jvm.ClassFile.FieldType) rm_Mo_puts [.ref (a 0), .int x1, .int x2] (([n_Mo g a mo_z mo_y] : List va_W)) none (([n_Mo g a res mo_y] : List va_W)) 0 0 := by
  refine MC_of (own := RX12) (lv := [(0, .ref (a 0)), (1, .int x1), (2, .int x2)]) (by decide) rfl (Nat.le_of_ble_eq_true rfl) rfl rfl (fun E hE hq => ?_)
  unfold f_Mo_puts at hf
  refine j_aload_n hE dX12_puts_0 rfl 0 rfl ?_
  refine j_get (v := .int (mo_z 32 0)) hE lg_Mo_140 0 rfl 0 (wg_Mo_0 g a mo_z mo_y) rfl dX12_puts_1 ?_
  refine j_if_eq (tgt := 8) hE hf dX12_puts_4 (by decide) (fun c1 hf => ?_) (fun c1 hf => ?_)
  · refine j_aload_n hE dX12_puts_8 rfl 0 rfl ?_
    refine j_get (v := .ref (a 12)) hE lg_Mo_46 0 rfl 0 (wg_Mo_0 g a mo_z mo_y) rfl dX12_puts_9 ?_
    refine j_bipush (v := 64) hE dX12_puts_12 (by decide) ?_
    refine j_aload_n hE dX12_puts_14 rfl 0 rfl ?_
    refine j_get (v := .int (mo_z 22 0)) hE lg_Mo_197 0 rfl 0 (wg_Mo_0 g a mo_z mo_y) rfl dX12_puts_15 ?_
    refine j_iadd hE dX12_puts_18 ?_
    refine j_iload_n hE dX12_puts_19 rfl 1 rfl ?_
    refine j_iast (ws' := ([n_Mo g a (up2 mo_z 15 (Int32.toNatClampNeg (64 + (mo_z 22 0))) x1) mo_y] : List va_W)) hE hf 0 rfl 12 (wg_Mo_12 g a mo_z mo_y) (wa_Mo_12 g a mo_z mo_y (Int32.toNatClampNeg (64 + (mo_z 22 0))) x1) rfl dX12_puts_20 (fun hf => ?_)
    refine j_aload_n hE dX12_puts_21 rfl 0 rfl ?_
    refine j_get (v := .ref (a 13)) hE lg_Mo_49 0 rfl 0 (wg_Mo_0 g a (up2 mo_z 15 (Int32.toNatClampNeg (64 + (mo_z 22 0))) x1) mo_y) rfl dX12_puts_22 ?_
    refine j_bipush (v := 64) hE dX12_puts_25 (by decide) ?_
    refine j_aload_n hE dX12_puts_27 rfl 0 rfl ?_
    refine j_get (v := .int (mo_z 22 0)) hE lg_Mo_197 0 rfl 0 (wg_Mo_0 g a (up2 mo_z 15 (Int32.toNatClampNeg (64 + (mo_z 22 0))) x1) mo_y) rfl dX12_puts_28 ?_
    refine j_iadd hE dX12_puts_31 ?_
    refine j_iload_n hE dX12_puts_32 rfl 2 rfl ?_
    refine j_iast (ws' := ([n_Mo g a (up2 (up2 mo_z 15 (Int32.toNatClampNeg (64 + (mo_z 22 0))) x1) 16 (Int32.toNatClampNeg (64 + (mo_z 22 0))) x2) mo_y] : List va_W)) hE hf 0 rfl 13 (wg_Mo_13 g a (up2 mo_z 15 (Int32.toNatClampNeg (64 + (mo_z 22 0))) x1) mo_y) (wa_Mo_13 g a (up2 mo_z 15 (Int32.toNatClampNeg (64 + (mo_z 22 0))) x1) mo_y (Int32.toNatClampNeg (64 + (mo_z 22 0))) x2) rfl dX12_puts_33 (fun hf => ?_)
    refine j_aload_n hE dX12_puts_34 rfl 0 rfl ?_
    refine j_dup hE dX12_puts_35 rfl ?_
    refine j_get (v := .int (mo_z 22 0)) hE lg_Mo_197 0 rfl 0 (wg_Mo_0 g a (up2 (up2 mo_z 15 (Int32.toNatClampNeg (64 + (mo_z 22 0))) x1) 16 (Int32.toNatClampNeg (64 + (mo_z 22 0))) x2) mo_y) rfl dX12_puts_36 ?_
    refine j_iconst (v := 1) hE dX12_puts_39 (by decide) ?_
    refine j_iadd hE dX12_puts_40 ?_
    refine j_put (v := .int ((mo_z 22 0) + 1)) (ws' := ([n_Mo g a (up2 (up2 (up2 mo_z 15 (Int32.toNatClampNeg (64 + (mo_z 22 0))) x1) 16 (Int32.toNatClampNeg (64 + (mo_z 22 0))) x2) 22 0 ((mo_z 22 0) + 1)) mo_y] : List va_W)) hE lp_Mo_197 0 rfl 0 (wg_Mo_0 g a (up2 (up2 mo_z 15 (Int32.toNatClampNeg (64 + (mo_z 22 0))) x1) 16 (Int32.toNatClampNeg (64 + (mo_z 22 0))) x2) mo_y) rfl rfl (Nat.le_of_ble_eq_true rfl) (wp_Mo_22 g a (up2 (up2 mo_z 15 (Int32.toNatClampNeg (64 + (mo_z 22 0))) x1) 16 (Int32.toNatClampNeg (64 + (mo_z 22 0))) x2) mo_y ((mo_z 22 0) + 1)) rfl dX12_puts_41 ?_
    obtain rfl := Option.some.inj hf
    exact j_vret hE hq rfl rfl dX12_puts_44
  · obtain rfl := Option.some.inj hf
    exact j_vret hE hq rfl rfl dX12_puts_7
def rm_Mo_knot : Room := { frames := 1, cells := 0, slots := 0, locals := 21 }
def f_Mo_knot (mo_z : jZ)  : Option (jZ) := (if (mo_z 32 0) = 0 then (if (mo_z 37 0) = 64 then (f_Mo_wrong mo_z 2).bind fun q3 => some q3
    else some (up2 mo_z 37 0 ((mo_z 37 0) + 1)))
    else some mo_z)
set_option maxRecDepth 100000 in
theorem c_Mo_knot (l : Launch) (g : jG) (a : Nat → Nat) (mo_z : jZ) (mo_y : jY)  (res : jZ) (hf : f_Mo_knot mo_z = some res) : MC l g yX12_knot cX12_knot 1 (none : Option Jvm.ClassFile.FieldType) rm_Mo_knot [.ref (a 0)] (([n_Mo g a mo_z mo_y] : List va_W)) none (([n_Mo g a res mo_y] : List va_W)) 0 0 := by
  refine MC_of (own := RX12) (lv := [(0, .ref (a 0))]) (by decide) rfl (Nat.le_of_ble_eq_true rfl) rfl rfl (fun E hE hq => ?_)
  unfold f_Mo_knot at hf
  refine j_aload_n hE dX12_knot_0 rfl 0 rfl ?_
  refine j_get (v := .int (mo_z 32 0)) hE lg_Mo_140 0 rfl 0 (wg_Mo_0 g a mo_z mo_y) rfl dX12_knot_1 ?_
  refine j_if_eq (tgt := 8) hE hf dX12_knot_4 (by decide) (fun c1 hf => ?_) (fun c1 hf => ?_)
  · refine j_aload_n hE dX12_knot_8 rfl 0 rfl ?_
    refine j_get (v := .int (mo_z 37 0)) hE lg_Mo_200 0 rfl 0 (wg_Mo_0 g a mo_z mo_y) rfl dX12_knot_9 ?_
    refine j_bipush (v := 64) hE dX12_knot_12 (by decide) ?_
    refine j_icmp_ne (tgt := 25) hE hf dX12_knot_14 (by decide) (fun c2 hf => ?_) (fun c2 hf => ?_)
    · refine j_aload_n hE dX12_knot_25 rfl 0 rfl ?_
      refine j_dup hE dX12_knot_26 rfl ?_
      refine j_get (v := .int (mo_z 37 0)) hE lg_Mo_200 0 rfl 0 (wg_Mo_0 g a mo_z mo_y) rfl dX12_knot_27 ?_
      refine j_iconst (v := 1) hE dX12_knot_30 (by decide) ?_
      refine j_iadd hE dX12_knot_31 ?_
      refine j_put (v := .int ((mo_z 37 0) + 1)) (ws' := ([n_Mo g a (up2 mo_z 37 0 ((mo_z 37 0) + 1)) mo_y] : List va_W)) hE lp_Mo_200 0 rfl 0 (wg_Mo_0 g a mo_z mo_y) rfl rfl (Nat.le_of_ble_eq_true rfl) (wp_Mo_37 g a mo_z mo_y ((mo_z 37 0) + 1)) rfl dX12_knot_32 ?_
      obtain rfl := Option.some.inj hf
      exact j_vret hE hq rfl rfl dX12_knot_35
    · refine j_aload_n hE dX12_knot_17 rfl 0 rfl ?_
      refine j_iconst (v := 2) hE dX12_knot_18 (by decide) ?_
      obtain ⟨q3, hc4, hf⟩ := bind_of hf
      refine j_callV (ws' := ([n_Mo g a q3 mo_y] : List va_W)) (As := [.int 2]) (rest := []) (st2 := []) hE (fun l => c_Mo_wrong l g a mo_z mo_y 2 q3 hc4) cd_X12_wrong cv_X12_wrong ml_Mo_146 rfl rfl rfl (wg_Mo_0 _ _ _ _) ⟨⟨Nat.le_of_ble_eq_true rfl, Nat.le_of_ble_eq_true rfl⟩, ⟨Nat.zero_le _, Nat.zero_le _⟩, rfl, rfl⟩ [0] rfl rfl rfl (Nat.le_of_ble_eq_true rfl) rfl dX12_knot_19 ?_
      refine j_goto (tgt := 35) hE dX12_knot_22 (by decide) ?_
      obtain rfl := Option.some.inj hf
      exact j_vret hE hq rfl rfl dX12_knot_35
  · obtain rfl := Option.some.inj hf
    exact j_vret hE hq rfl rfl dX12_knot_7
def f_Mo_expression_4 (G : Nat → jZ → Option jZ)    : Nat → jZ → Option (jZ)
  | 0, _ => none
  | n + 1, mo_z => (f_Mo_isWord mo_z 7).bind fun q3 => (if q3 = 0 then some mo_z
    else (f_Mo_knot mo_z).bind fun q6 => (if (q6 32 0) = 0 then (f_Mo_next q6).bind fun q13 => (G 1 q13).bind fun q15 => (f_Mo_puts q15 2 262).bind fun q17 => f_Mo_expression_4 G n q17
    else (G 1 q6).bind fun q9 => (f_Mo_puts q9 2 262).bind fun q11 => f_Mo_expression_4 G n q11))
def f_Mo_expression (G : Nat → jZ → Option jZ) (mo_z : jZ)  : Option (jZ) := (G 1 mo_z).bind fun q1 => f_Mo_expression_4 G FU q1
set_option maxRecDepth 100000 in
theorem j_Mo_expression_4 (E : jT) (g : jG) (a : Nat → Nat) (mo_y : jY)  (G : Nat → jZ → Option jZ) (d : Nat) (hG : ∀ (k : Nat) (z z2 : jZ), G k z = some z2 → GC g a mo_y d k z z2) (res : jZ) (hE : jOk E g RX12 cX12_expression 1 (none : Option Jvm.ClassFile.FieldType) (rmG (d + 1))) (hq : jEnd E g none (([n_Mo g a res mo_y] : List va_W)) 0 0)  : ∀ (n : Nat) (mo_z : jZ), f_Mo_expression_4 G n mo_z = some res → J E g 0 0 (([n_Mo g a mo_z mo_y] : List va_W)) [(0, .ref (a 0))] 4 [] := by
  intro n
  induction n with
  | zero =>
    intro mo_z hf
    rw [f_Mo_expression_4] at hf
    cases hf
  | succ n ih =>
    intro mo_z hf
    rw [f_Mo_expression_4] at hf
    refine j_aload_n hE dX12_expression_4 rfl 0 rfl ?_
    refine j_bipush (v := 7) hE dX12_expression_5 (by decide) ?_
    obtain ⟨q3, hc4, hf⟩ := bind_of hf
    refine j_callV (ws' := ([n_Mo g a mo_z mo_y] : List va_W)) (As := [.int 7]) (rest := []) (st2 := [.int q3]) hE (fun l => c_Mo_isWord l g a mo_z mo_y 7 q3 hc4) cd_X12_isWord cv_X12_isWord ml_Mo_194 rfl rfl rfl (wg_Mo_0 _ _ _ _) (rg2 d (by decide) (by decide) (by decide) rfl rfl) [0] rfl rfl rfl (Nat.le_of_ble_eq_true rfl) rfl dX12_expression_7 ?_
    refine j_if_eq (tgt := 43) hE hf dX12_expression_10 (by decide) (fun c5 hf => ?_) (fun c5 hf => ?_)
    · obtain rfl := Option.some.inj hf
      exact j_vret hE hq rfl rfl dX12_expression_43
    · refine j_aload_n hE dX12_expression_13 rfl 0 rfl ?_
      obtain ⟨q6, hc7, hf⟩ := bind_of hf
      refine j_callV (ws' := ([n_Mo g a q6 mo_y] : List va_W)) (As := []) (rest := []) (st2 := []) hE (fun l => c_Mo_knot l g a mo_z mo_y q6 hc7) cd_X12_knot cv_X12_knot ml_Mo_206 rfl rfl rfl (wg_Mo_0 _ _ _ _) (rg2 d (by decide) (by decide) (by decide) rfl rfl) [0] rfl rfl rfl (Nat.le_of_ble_eq_true rfl) rfl dX12_expression_14 ?_
      refine j_aload_n hE dX12_expression_17 rfl 0 rfl ?_
      refine j_get (v := .int (q6 32 0)) hE lg_Mo_140 0 rfl 0 (wg_Mo_0 g a q6 mo_y) rfl dX12_expression_18 ?_
      refine j_if_ne (tgt := 28) hE hf dX12_expression_21 (by decide) (fun c8 hf => ?_) (fun c8 hf => ?_)
      · refine j_aload_n hE dX12_expression_28 rfl 0 rfl ?_
        obtain ⟨q9, hc10, hf⟩ := bind_of hf
        refine j_callV (ws' := ([n_Mo g a q9 mo_y] : List va_W)) (As := []) (rest := []) (st2 := []) hE (fun l => (hG _ _ _ hc10 l).2.1 rfl) cd_X12_conjunction cv_X12_conjunction ml_Mo_203 rfl rfl rfl (wg_Mo_0 _ _ _ _) (rg1 d (by decide)) [0] rfl rfl rfl (Nat.le_of_ble_eq_true rfl) rfl dX12_expression_29 ?_
        refine j_aload_n hE dX12_expression_32 rfl 0 rfl ?_
        refine j_iconst (v := 2) hE dX12_expression_33 (by decide) ?_
        refine j_sipush (v := 262) hE dX12_expression_34 (by decide) ?_
        obtain ⟨q11, hc12, hf⟩ := bind_of hf
        refine j_callV (ws' := ([n_Mo g a q11 mo_y] : List va_W)) (As := [.int 2, .int 262]) (rest := []) (st2 := []) hE (fun l => c_Mo_puts l g a q9 mo_y 2 262 q11 hc12) cd_X12_puts cv_X12_puts ml_Mo_209 rfl rfl rfl (wg_Mo_0 _ _ _ _) (rg2 d (by decide) (by decide) (by decide) rfl rfl) [0] rfl rfl rfl (Nat.le_of_ble_eq_true rfl) rfl dX12_expression_37 ?_
        refine j_goto (tgt := 4) hE dX12_expression_40 (by decide) ?_
        exact ih q11 hf
      · refine j_aload_n hE dX12_expression_24 rfl 0 rfl ?_
        obtain ⟨q13, hc14, hf⟩ := bind_of hf
        refine j_callV (ws' := ([n_Mo g a q13 mo_y] : List va_W)) (As := []) (rest := []) (st2 := []) hE (fun l => c_Mo_next l g a q6 mo_y q13 hc14) cd_X12_next cv_X12_next ml_Mo_149 rfl rfl rfl (wg_Mo_0 _ _ _ _) (rg2 d (by decide) (by decide) (by decide) rfl rfl) [0] rfl rfl rfl (Nat.le_of_ble_eq_true rfl) rfl dX12_expression_25 ?_
        refine j_aload_n hE dX12_expression_28 rfl 0 rfl ?_
        obtain ⟨q15, hc16, hf⟩ := bind_of hf
        refine j_callV (ws' := ([n_Mo g a q15 mo_y] : List va_W)) (As := []) (rest := []) (st2 := []) hE (fun l => (hG _ _ _ hc16 l).2.1 rfl) cd_X12_conjunction cv_X12_conjunction ml_Mo_203 rfl rfl rfl (wg_Mo_0 _ _ _ _) (rg1 d (by decide)) [0] rfl rfl rfl (Nat.le_of_ble_eq_true rfl) rfl dX12_expression_29 ?_
        refine j_aload_n hE dX12_expression_32 rfl 0 rfl ?_
        refine j_iconst (v := 2) hE dX12_expression_33 (by decide) ?_
        refine j_sipush (v := 262) hE dX12_expression_34 (by decide) ?_
        obtain ⟨q17, hc18, hf⟩ := bind_of hf
        refine j_callV (ws' := ([n_Mo g a q17 mo_y] : List va_W)) (As := [.int 2, .int 262]) (rest := []) (st2 := []) hE (fun l => c_Mo_puts l g a q15 mo_y 2 262 q17 hc18) cd_X12_puts cv_X12_puts ml_Mo_209 rfl rfl rfl (wg_Mo_0 _ _ _ _) (rg2 d (by decide) (by decide) (by decide) rfl rfl) [0] rfl rfl rfl (Nat.le_of_ble_eq_true rfl) rfl dX12_expression_37 ?_
        refine j_goto (tgt := 4) hE dX12_expression_40 (by decide) ?_
        exact ih q17 hf
set_option maxRecDepth 100000 in
theorem c_Mo_expression (l : Launch) (g : jG) (a : Nat → Nat) (mo_z : jZ) (mo_y : jY)  (G : Nat → jZ → Option jZ) (d : Nat) (hG : ∀ (k : Nat) (z z2 : jZ), G k z = some z2 → GC g a mo_y d k z z2) (res : jZ) (hf : f_Mo_expression G mo_z = some res) : MC l g yX12_expression cX12_expression 1 (none : Option Jvm.ClassFile.FieldType) (rmG (d + 1)) [.ref (a 0)] (([n_Mo g a mo_z mo_y] : List va_W)) none (([n_Mo g a res mo_y] : List va_W)) 0 0 := by
  refine MC_of (own := RX12) (lv := [(0, .ref (a 0))]) (by decide) rfl (Nat.le_of_ble_eq_true rfl) rfl rfl (fun E hE hq => ?_)
  unfold f_Mo_expression at hf
  refine j_aload_n hE dX12_expression_0 rfl 0 rfl ?_
  obtain ⟨q1, hc2, hf⟩ := bind_of hf
  refine j_callV (ws' := ([n_Mo g a q1 mo_y] : List va_W)) (As := []) (rest := []) (st2 := []) hE (fun l => (hG _ _ _ hc2 l).2.1 rfl) cd_X12_conjunction cv_X12_conjunction ml_Mo_203 rfl rfl rfl (wg_Mo_0 _ _ _ _) (rg1 d (by decide)) [0] rfl rfl rfl (Nat.le_of_ble_eq_true rfl) rfl dX12_expression_1 ?_
  exact j_Mo_expression_4 E g a mo_y G d hG res hE hq FU q1 hf
def f_Mo_conjunction_4 (G : Nat → jZ → Option jZ)    : Nat → jZ → Option (jZ)
  | 0, _ => none
  | n + 1, mo_z => (f_Mo_isWord mo_z 8).bind fun q3 => (if q3 = 0 then some mo_z
    else (f_Mo_knot mo_z).bind fun q6 => (if (q6 32 0) = 0 then (f_Mo_next q6).bind fun q13 => (G 2 q13).bind fun q15 => (f_Mo_puts q15 2 261).bind fun q17 => f_Mo_conjunction_4 G n q17
    else (G 2 q6).bind fun q9 => (f_Mo_puts q9 2 261).bind fun q11 => f_Mo_conjunction_4 G n q11))
def f_Mo_conjunction (G : Nat → jZ → Option jZ) (mo_z : jZ)  : Option (jZ) := (G 2 mo_z).bind fun q1 => f_Mo_conjunction_4 G FU q1
set_option maxRecDepth 100000 in
theorem j_Mo_conjunction_4 (E : jT) (g : jG) (a : Nat → Nat) (mo_y : jY)  (G : Nat → jZ → Option jZ) (d : Nat) (hG : ∀ (k : Nat) (z z2 : jZ), G k z = some z2 → GC g a mo_y d k z z2) (res : jZ) (hE : jOk E g RX12 cX12_conjunction 1 (none : Option Jvm.ClassFile.FieldType) (rmG (d + 1))) (hq : jEnd E g none (([n_Mo g a res mo_y] : List va_W)) 0 0)  : ∀ (n : Nat) (mo_z : jZ), f_Mo_conjunction_4 G n mo_z = some res → J E g 0 0 (([n_Mo g a mo_z mo_y] : List va_W)) [(0, .ref (a 0))] 4 [] := by
  intro n
  induction n with
  | zero =>
    intro mo_z hf
    rw [f_Mo_conjunction_4] at hf
    cases hf
  | succ n ih =>
    intro mo_z hf
    rw [f_Mo_conjunction_4] at hf
    refine j_aload_n hE dX12_conjunction_4 rfl 0 rfl ?_
    refine j_bipush (v := 8) hE dX12_conjunction_5 (by decide) ?_
    obtain ⟨q3, hc4, hf⟩ := bind_of hf
    refine j_callV (ws' := ([n_Mo g a mo_z mo_y] : List va_W)) (As := [.int 8]) (rest := []) (st2 := [.int q3]) hE (fun l => c_Mo_isWord l g a mo_z mo_y 8 q3 hc4) cd_X12_isWord cv_X12_isWord ml_Mo_194 rfl rfl rfl (wg_Mo_0 _ _ _ _) (rg2 d (by decide) (by decide) (by decide) rfl rfl) [0] rfl rfl rfl (Nat.le_of_ble_eq_true rfl) rfl dX12_conjunction_7 ?_
    refine j_if_eq (tgt := 43) hE hf dX12_conjunction_10 (by decide) (fun c5 hf => ?_) (fun c5 hf => ?_)
    · obtain rfl := Option.some.inj hf
      exact j_vret hE hq rfl rfl dX12_conjunction_43
    · refine j_aload_n hE dX12_conjunction_13 rfl 0 rfl ?_
      obtain ⟨q6, hc7, hf⟩ := bind_of hf
      refine j_callV (ws' := ([n_Mo g a q6 mo_y] : List va_W)) (As := []) (rest := []) (st2 := []) hE (fun l => c_Mo_knot l g a mo_z mo_y q6 hc7) cd_X12_knot cv_X12_knot ml_Mo_206 rfl rfl rfl (wg_Mo_0 _ _ _ _) (rg2 d (by decide) (by decide) (by decide) rfl rfl) [0] rfl rfl rfl (Nat.le_of_ble_eq_true rfl) rfl dX12_conjunction_14 ?_
      refine j_aload_n hE dX12_conjunction_17 rfl 0 rfl ?_
      refine j_get (v := .int (q6 32 0)) hE lg_Mo_140 0 rfl 0 (wg_Mo_0 g a q6 mo_y) rfl dX12_conjunction_18 ?_
      refine j_if_ne (tgt := 28) hE hf dX12_conjunction_21 (by decide) (fun c8 hf => ?_) (fun c8 hf => ?_)
      · refine j_aload_n hE dX12_conjunction_28 rfl 0 rfl ?_
        obtain ⟨q9, hc10, hf⟩ := bind_of hf
        refine j_callV (ws' := ([n_Mo g a q9 mo_y] : List va_W)) (As := []) (rest := []) (st2 := []) hE (fun l => (hG _ _ _ hc10 l).2.2.1 rfl) cd_X12_negation cv_X12_negation ml_Mo_213 rfl rfl rfl (wg_Mo_0 _ _ _ _) (rg1 d (by decide)) [0] rfl rfl rfl (Nat.le_of_ble_eq_true rfl) rfl dX12_conjunction_29 ?_
        refine j_aload_n hE dX12_conjunction_32 rfl 0 rfl ?_
        refine j_iconst (v := 2) hE dX12_conjunction_33 (by decide) ?_
        refine j_sipush (v := 261) hE dX12_conjunction_34 (by decide) ?_
        obtain ⟨q11, hc12, hf⟩ := bind_of hf
        refine j_callV (ws' := ([n_Mo g a q11 mo_y] : List va_W)) (As := [.int 2, .int 261]) (rest := []) (st2 := []) hE (fun l => c_Mo_puts l g a q9 mo_y 2 261 q11 hc12) cd_X12_puts cv_X12_puts ml_Mo_209 rfl rfl rfl (wg_Mo_0 _ _ _ _) (rg2 d (by decide) (by decide) (by decide) rfl rfl) [0] rfl rfl rfl (Nat.le_of_ble_eq_true rfl) rfl dX12_conjunction_37 ?_
        refine j_goto (tgt := 4) hE dX12_conjunction_40 (by decide) ?_
        exact ih q11 hf
      · refine j_aload_n hE dX12_conjunction_24 rfl 0 rfl ?_
        obtain ⟨q13, hc14, hf⟩ := bind_of hf
        refine j_callV (ws' := ([n_Mo g a q13 mo_y] : List va_W)) (As := []) (rest := []) (st2 := []) hE (fun l => c_Mo_next l g a q6 mo_y q13 hc14) cd_X12_next cv_X12_next ml_Mo_149 rfl rfl rfl (wg_Mo_0 _ _ _ _) (rg2 d (by decide) (by decide) (by decide) rfl rfl) [0] rfl rfl rfl (Nat.le_of_ble_eq_true rfl) rfl dX12_conjunction_25 ?_
        refine j_aload_n hE dX12_conjunction_28 rfl 0 rfl ?_
        obtain ⟨q15, hc16, hf⟩ := bind_of hf
        refine j_callV (ws' := ([n_Mo g a q15 mo_y] : List va_W)) (As := []) (rest := []) (st2 := []) hE (fun l => (hG _ _ _ hc16 l).2.2.1 rfl) cd_X12_negation cv_X12_negation ml_Mo_213 rfl rfl rfl (wg_Mo_0 _ _ _ _) (rg1 d (by decide)) [0] rfl rfl rfl (Nat.le_of_ble_eq_true rfl) rfl dX12_conjunction_29 ?_
        refine j_aload_n hE dX12_conjunction_32 rfl 0 rfl ?_
        refine j_iconst (v := 2) hE dX12_conjunction_33 (by decide) ?_
        refine j_sipush (v := 261) hE dX12_conjunction_34 (by decide) ?_
        obtain ⟨q17, hc18, hf⟩ := bind_of hf
        refine j_callV (ws' := ([n_Mo g a q17 mo_y] : List va_W)) (As := [.int 2, .int 261]) (rest := []) (st2 := []) hE (fun l => c_Mo_puts l g a q15 mo_y 2 261 q17 hc18) cd_X12_puts cv_X12_puts ml_Mo_209 rfl rfl rfl (wg_Mo_0 _ _ _ _) (rg2 d (by decide) (by decide) (by decide) rfl rfl) [0] rfl rfl rfl (Nat.le_of_ble_eq_true rfl) rfl dX12_conjunction_37 ?_
        refine j_goto (tgt := 4) hE dX12_conjunction_40 (by decide) ?_
        exact ih q17 hf
set_option maxRecDepth 100000 in
theorem c_Mo_conjunction (l : Launch) (g : jG) (a : Nat → Nat) (mo_z : jZ) (mo_y : jY)  (G : Nat → jZ → Option jZ) (d : Nat) (hG : ∀ (k : Nat) (z z2 : jZ), G k z = some z2 → GC g a mo_y d k z z2) (res : jZ) (hf : f_Mo_conjunction G mo_z = some res) : MC l g yX12_conjunction cX12_conjunction 1 (none : Option Jvm.ClassFile.FieldType) (rmG (d + 1)) [.ref (a 0)] (([n_Mo g a mo_z mo_y] : List va_W)) none (([n_Mo g a res mo_y] : List va_W)) 0 0 := by
  refine MC_of (own := RX12) (lv := [(0, .ref (a 0))]) (by decide) rfl (Nat.le_of_ble_eq_true rfl) rfl rfl (fun E hE hq => ?_)
  unfold f_Mo_conjunction at hf
  refine j_aload_n hE dX12_conjunction_0 rfl 0 rfl ?_
  obtain ⟨q1, hc2, hf⟩ := bind_of hf
  refine j_callV (ws' := ([n_Mo g a q1 mo_y] : List va_W)) (As := []) (rest := []) (st2 := []) hE (fun l => (hG _ _ _ hc2 l).2.2.1 rfl) cd_X12_negation cv_X12_negation ml_Mo_213 rfl rfl rfl (wg_Mo_0 _ _ _ _) (rg1 d (by decide)) [0] rfl rfl rfl (Nat.le_of_ble_eq_true rfl) rfl dX12_conjunction_1 ?_
  exact j_Mo_conjunction_4 E g a mo_y G d hG res hE hq FU q1 hf
def f_Mo_negation_94 (G : Nat → jZ → Option jZ)    (mo_z : jZ) : Option (jZ) := (f_Mo_knot mo_z).bind fun q25 => (if (q25 32 0) = 0 then (f_Mo_next q25).bind fun q32 => (G 3 q32).bind fun q34 => (f_Mo_puts q34 2 (mo_z 31 0)).bind fun q36 => some q36
    else (G 3 q25).bind fun q28 => (f_Mo_puts q28 2 (mo_z 31 0)).bind fun q30 => some q30)
def f_Mo_negation (G : Nat → jZ → Option jZ) (mo_z : jZ)  : Option (jZ) := (f_Mo_isWord mo_z 9).bind fun q1 => (if q1 = 0 then (G 3 mo_z).bind fun q4 => (if (q4 32 0) = 0 then (if (q4 30 0) = 3 then (if (q4 31 0) = 60 then f_Mo_negation_94 G q4
    else (if (q4 31 0) = 62 then f_Mo_negation_94 G q4
    else (if (q4 31 0) = 61 then f_Mo_negation_94 G q4
    else (if 256 ≤ (q4 31 0) then f_Mo_negation_94 G q4
    else some q4))))
    else some q4)
    else some q4)
    else (f_Mo_knot mo_z).bind fun q12 => (if (q12 32 0) = 0 then (f_Mo_next q12).bind fun q19 => (G 2 q19).bind fun q21 => (f_Mo_puts q21 2 260).bind fun q23 => some q23
    else (G 2 q12).bind fun q15 => (f_Mo_puts q15 2 260).bind fun q17 => some q17))
set_option maxRecDepth 100000 in
theorem j_Mo_negation_94 (E : jT) (g : jG) (a : Nat → Nat) (mo_y : jY)  (G : Nat → jZ → Option jZ) (d : Nat) (hG : ∀ (k : Nat) (z z2 : jZ), G k z = some z2 → GC g a mo_y d k z z2) (res : jZ) (hE : jOk E g RX12 cX12_negation 2 (none : Option Jvm.ClassFile.FieldType) (rmG (d + 1))) (hq : jEnd E g none (([n_Mo g a res mo_y] : List va_W)) 0 0)  (mo_z : jZ) (hf : f_Mo_negation_94 G mo_z = some res) : J E g 0 0 (([n_Mo g a mo_z mo_y] : List va_W)) [(0, .ref (a 0))] 94 [] := by
  unfold f_Mo_negation_94 at hf
  refine j_aload_n hE dX12_negation_94 rfl 0 rfl ?_
  refine j_get (v := .int (mo_z 31 0)) hE lg_Mo_116 0 rfl 0 (wg_Mo_0 g a mo_z mo_y) rfl dX12_negation_95 ?_
  refine j_istore_n (lv' := [(1, .int (mo_z 31 0)), (0, .ref (a 0))]) hE dX12_negation_98 rfl (by decide) rfl ?_
  refine j_aload_n hE dX12_negation_99 rfl 1 rfl ?_
  obtain ⟨q25, hc26, hf⟩ := bind_of hf
  refine j_callV (ws' := ([n_Mo g a q25 mo_y] : List va_W)) (As := []) (rest := []) (st2 := []) hE (fun l => c_Mo_knot l g a mo_z mo_y q25 hc26) cd_X12_knot cv_X12_knot ml_Mo_206 rfl rfl rfl (wg_Mo_0 _ _ _ _) (rg2 d (by decide) (by decide) (by decide) rfl rfl) [0] rfl rfl rfl (Nat.le_of_ble_eq_true rfl) rfl dX12_negation_100 ?_
  refine j_aload_n hE dX12_negation_103 rfl 1 rfl ?_
  refine j_get (v := .int (q25 32 0)) hE lg_Mo_140 0 rfl 0 (wg_Mo_0 g a q25 mo_y) rfl dX12_negation_104 ?_
  refine j_if_ne (tgt := 114) hE hf dX12_negation_107 (by decide) (fun c27 hf => ?_) (fun c27 hf => ?_)
  · refine j_aload_n hE dX12_negation_114 rfl 1 rfl ?_
    obtain ⟨q28, hc29, hf⟩ := bind_of hf
    refine j_callV (ws' := ([n_Mo g a q28 mo_y] : List va_W)) (As := []) (rest := []) (st2 := []) hE (fun l => (hG _ _ _ hc29 l).2.2.2.1 rfl) cd_X12_sum cv_X12_sum ml_Mo_216 rfl rfl rfl (wg_Mo_0 _ _ _ _) (rg1 d (by decide)) [0] rfl rfl rfl (Nat.le_of_ble_eq_true rfl) rfl dX12_negation_115 ?_
    refine j_aload_n hE dX12_negation_118 rfl 1 rfl ?_
    refine j_iconst (v := 2) hE dX12_negation_119 (by decide) ?_
    refine j_iload_n hE dX12_negation_120 rfl 0 rfl ?_
    obtain ⟨q30, hc31, hf⟩ := bind_of hf
    refine j_callV (ws' := ([n_Mo g a q30 mo_y] : List va_W)) (As := [.int 2, .int (mo_z 31 0)]) (rest := []) (st2 := []) hE (fun l => c_Mo_puts l g a q28 mo_y 2 (mo_z 31 0) q30 hc31) cd_X12_puts cv_X12_puts ml_Mo_209 rfl rfl rfl (wg_Mo_0 _ _ _ _) (rg2 d (by decide) (by decide) (by decide) rfl rfl) [0] rfl rfl rfl (Nat.le_of_ble_eq_true rfl) rfl dX12_negation_121 ?_
    obtain rfl := Option.some.inj hf
    exact j_vret hE hq rfl rfl dX12_negation_124
  · refine j_aload_n hE dX12_negation_110 rfl 1 rfl ?_
    obtain ⟨q32, hc33, hf⟩ := bind_of hf
    refine j_callV (ws' := ([n_Mo g a q32 mo_y] : List va_W)) (As := []) (rest := []) (st2 := []) hE (fun l => c_Mo_next l g a q25 mo_y q32 hc33) cd_X12_next cv_X12_next ml_Mo_149 rfl rfl rfl (wg_Mo_0 _ _ _ _) (rg2 d (by decide) (by decide) (by decide) rfl rfl) [0] rfl rfl rfl (Nat.le_of_ble_eq_true rfl) rfl dX12_negation_111 ?_
    refine j_aload_n hE dX12_negation_114 rfl 1 rfl ?_
    obtain ⟨q34, hc35, hf⟩ := bind_of hf
    refine j_callV (ws' := ([n_Mo g a q34 mo_y] : List va_W)) (As := []) (rest := []) (st2 := []) hE (fun l => (hG _ _ _ hc35 l).2.2.2.1 rfl) cd_X12_sum cv_X12_sum ml_Mo_216 rfl rfl rfl (wg_Mo_0 _ _ _ _) (rg1 d (by decide)) [0] rfl rfl rfl (Nat.le_of_ble_eq_true rfl) rfl dX12_negation_115 ?_
    refine j_aload_n hE dX12_negation_118 rfl 1 rfl ?_
    refine j_iconst (v := 2) hE dX12_negation_119 (by decide) ?_
    refine j_iload_n hE dX12_negation_120 rfl 0 rfl ?_
    obtain ⟨q36, hc37, hf⟩ := bind_of hf
    refine j_callV (ws' := ([n_Mo g a q36 mo_y] : List va_W)) (As := [.int 2, .int (mo_z 31 0)]) (rest := []) (st2 := []) hE (fun l => c_Mo_puts l g a q34 mo_y 2 (mo_z 31 0) q36 hc37) cd_X12_puts cv_X12_puts ml_Mo_209 rfl rfl rfl (wg_Mo_0 _ _ _ _) (rg2 d (by decide) (by decide) (by decide) rfl rfl) [0] rfl rfl rfl (Nat.le_of_ble_eq_true rfl) rfl dX12_negation_121 ?_
    obtain rfl := Option.some.inj hf
    exact j_vret hE hq rfl rfl dX12_negation_124
set_option maxRecDepth 100000 in
theorem c_Mo_negation (l : Launch) (g : jG) (a : Nat → Nat) (mo_z : jZ) (mo_y : jY)  (G : Nat → jZ → Option jZ) (d : Nat) (hG : ∀ (k : Nat) (z z2 : jZ), G k z = some z2 → GC g a mo_y d k z z2) (res : jZ) (hf : f_Mo_negation G mo_z = some res) : MC l g yX12_negation cX12_negation 2 (none : Option Jvm.ClassFile.FieldType) (rmG (d + 1)) [.ref (a 0)] (([n_Mo g a mo_z mo_y] : List va_W)) none (([n_Mo g a res mo_y] : List va_W)) 0 0 := by
  refine MC_of (own := RX12) (lv := [(0, .ref (a 0))]) (by decide) rfl (Nat.le_of_ble_eq_true rfl) rfl rfl (fun E hE hq => ?_)
  unfold f_Mo_negation at hf
  refine j_aload_n hE dX12_negation_0 rfl 0 rfl ?_
  refine j_bipush (v := 9) hE dX12_negation_1 (by decide) ?_
  obtain ⟨q1, hc2, hf⟩ := bind_of hf
  refine j_callV (ws' := ([n_Mo g a mo_z mo_y] : List va_W)) (As := [.int 9]) (rest := []) (st2 := [.int q1]) hE (fun l => c_Mo_isWord l g a mo_z mo_y 9 q1 hc2) cd_X12_isWord cv_X12_isWord ml_Mo_194 rfl rfl rfl (wg_Mo_0 _ _ _ _) (rg2 d (by decide) (by decide) (by decide) rfl rfl) [0] rfl rfl rfl (Nat.le_of_ble_eq_true rfl) rfl dX12_negation_3 ?_
  refine j_if_eq (tgt := 37) hE hf dX12_negation_6 (by decide) (fun c3 hf => ?_) (fun c3 hf => ?_)
  · refine j_aload_n hE dX12_negation_37 rfl 0 rfl ?_
    obtain ⟨q4, hc5, hf⟩ := bind_of hf
    refine j_callV (ws' := ([n_Mo g a q4 mo_y] : List va_W)) (As := []) (rest := []) (st2 := []) hE (fun l => (hG _ _ _ hc5 l).2.2.2.1 rfl) cd_X12_sum cv_X12_sum ml_Mo_216 rfl rfl rfl (wg_Mo_0 _ _ _ _) (rg1 d (by decide)) [0] rfl rfl rfl (Nat.le_of_ble_eq_true rfl) rfl dX12_negation_38 ?_
    refine j_aload_n hE dX12_negation_41 rfl 0 rfl ?_
    refine j_get (v := .int (q4 32 0)) hE lg_Mo_140 0 rfl 0 (wg_Mo_0 g a q4 mo_y) rfl dX12_negation_42 ?_
    refine j_if_ne (tgt := 93) hE hf dX12_negation_45 (by decide) (fun c6 hf => ?_) (fun c6 hf => ?_)
    · obtain rfl := Option.some.inj hf
      exact j_vret hE hq rfl rfl dX12_negation_93
    · refine j_aload_n hE dX12_negation_48 rfl 0 rfl ?_
      refine j_get (v := .int (q4 30 0)) hE lg_Mo_106 0 rfl 0 (wg_Mo_0 g a q4 mo_y) rfl dX12_negation_49 ?_
      refine j_iconst (v := 3) hE dX12_negation_52 (by decide) ?_
      refine j_icmp_ne (tgt := 93) hE hf dX12_negation_53 (by decide) (fun c7 hf => ?_) (fun c7 hf => ?_)
      · obtain rfl := Option.some.inj hf
        exact j_vret hE hq rfl rfl dX12_negation_93
      · refine j_aload_n hE dX12_negation_56 rfl 0 rfl ?_
        refine j_get (v := .int (q4 31 0)) hE lg_Mo_116 0 rfl 0 (wg_Mo_0 g a q4 mo_y) rfl dX12_negation_57 ?_
        refine j_bipush (v := 60) hE dX12_negation_60 (by decide) ?_
        refine j_icmp_eq (tgt := 94) hE hf dX12_negation_62 (by decide) (fun c8 hf => ?_) (fun c8 hf => ?_)
        · exact j_Mo_negation_94 E g a mo_y G d hG res hE hq q4 hf
        · refine j_aload_n hE dX12_negation_65 rfl 0 rfl ?_
          refine j_get (v := .int (q4 31 0)) hE lg_Mo_116 0 rfl 0 (wg_Mo_0 g a q4 mo_y) rfl dX12_negation_66 ?_
          refine j_bipush (v := 62) hE dX12_negation_69 (by decide) ?_
          refine j_icmp_eq (tgt := 94) hE hf dX12_negation_71 (by decide) (fun c9 hf => ?_) (fun c9 hf => ?_)
          · exact j_Mo_negation_94 E g a mo_y G d hG res hE hq q4 hf
          · refine j_aload_n hE dX12_negation_74 rfl 0 rfl ?_
            refine j_get (v := .int (q4 31 0)) hE lg_Mo_116 0 rfl 0 (wg_Mo_0 g a q4 mo_y) rfl dX12_negation_75 ?_
            refine j_bipush (v := 61) hE dX12_negation_78 (by decide) ?_
            refine j_icmp_eq (tgt := 94) hE hf dX12_negation_80 (by decide) (fun c10 hf => ?_) (fun c10 hf => ?_)
            · exact j_Mo_negation_94 E g a mo_y G d hG res hE hq q4 hf
            · refine j_aload_n hE dX12_negation_83 rfl 0 rfl ?_
              refine j_get (v := .int (q4 31 0)) hE lg_Mo_116 0 rfl 0 (wg_Mo_0 g a q4 mo_y) rfl dX12_negation_84 ?_
              refine j_sipush (v := 256) hE dX12_negation_87 (by decide) ?_
              refine j_icmp_ge (tgt := 94) hE hf dX12_negation_90 (by decide) (fun c11 hf => ?_) (fun c11 hf => ?_)
              · exact j_Mo_negation_94 E g a mo_y G d hG res hE hq q4 hf
              · obtain rfl := Option.some.inj hf
                exact j_vret hE hq rfl rfl dX12_negation_93
  · refine j_aload_n hE dX12_negation_9 rfl 0 rfl ?_
    obtain ⟨q12, hc13, hf⟩ := bind_of hf
    refine j_callV (ws' := ([n_Mo g a q12 mo_y] : List va_W)) (As := []) (rest := []) (st2 := []) hE (fun l => c_Mo_knot l g a mo_z mo_y q12 hc13) cd_X12_knot cv_X12_knot ml_Mo_206 rfl rfl rfl (wg_Mo_0 _ _ _ _) (rg2 d (by decide) (by decide) (by decide) rfl rfl) [0] rfl rfl rfl (Nat.le_of_ble_eq_true rfl) rfl dX12_negation_10 ?_
    refine j_aload_n hE dX12_negation_13 rfl 0 rfl ?_
    refine j_get (v := .int (q12 32 0)) hE lg_Mo_140 0 rfl 0 (wg_Mo_0 g a q12 mo_y) rfl dX12_negation_14 ?_
    refine j_if_ne (tgt := 24) hE hf dX12_negation_17 (by decide) (fun c14 hf => ?_) (fun c14 hf => ?_)
    · refine j_aload_n hE dX12_negation_24 rfl 0 rfl ?_
      obtain ⟨q15, hc16, hf⟩ := bind_of hf
      refine j_callV (ws' := ([n_Mo g a q15 mo_y] : List va_W)) (As := []) (rest := []) (st2 := []) hE (fun l => (hG _ _ _ hc16 l).2.2.1 rfl) cd_X12_negation cv_X12_negation ml_Mo_213 rfl rfl rfl (wg_Mo_0 _ _ _ _) (rg1 d (by decide)) [0] rfl rfl rfl (Nat.le_of_ble_eq_true rfl) rfl dX12_negation_25 ?_
      refine j_aload_n hE dX12_negation_28 rfl 0 rfl ?_
      refine j_iconst (v := 2) hE dX12_negation_29 (by decide) ?_
      refine j_sipush (v := 260) hE dX12_negation_30 (by decide) ?_
      obtain ⟨q17, hc18, hf⟩ := bind_of hf
      refine j_callV (ws' := ([n_Mo g a q17 mo_y] : List va_W)) (As := [.int 2, .int 260]) (rest := []) (st2 := []) hE (fun l => c_Mo_puts l g a q15 mo_y 2 260 q17 hc18) cd_X12_puts cv_X12_puts ml_Mo_209 rfl rfl rfl (wg_Mo_0 _ _ _ _) (rg2 d (by decide) (by decide) (by decide) rfl rfl) [0] rfl rfl rfl (Nat.le_of_ble_eq_true rfl) rfl dX12_negation_33 ?_
      obtain rfl := Option.some.inj hf
      exact j_vret hE hq rfl rfl dX12_negation_36
    · refine j_aload_n hE dX12_negation_20 rfl 0 rfl ?_
      obtain ⟨q19, hc20, hf⟩ := bind_of hf
      refine j_callV (ws' := ([n_Mo g a q19 mo_y] : List va_W)) (As := []) (rest := []) (st2 := []) hE (fun l => c_Mo_next l g a q12 mo_y q19 hc20) cd_X12_next cv_X12_next ml_Mo_149 rfl rfl rfl (wg_Mo_0 _ _ _ _) (rg2 d (by decide) (by decide) (by decide) rfl rfl) [0] rfl rfl rfl (Nat.le_of_ble_eq_true rfl) rfl dX12_negation_21 ?_
      refine j_aload_n hE dX12_negation_24 rfl 0 rfl ?_
      obtain ⟨q21, hc22, hf⟩ := bind_of hf
      refine j_callV (ws' := ([n_Mo g a q21 mo_y] : List va_W)) (As := []) (rest := []) (st2 := []) hE (fun l => (hG _ _ _ hc22 l).2.2.1 rfl) cd_X12_negation cv_X12_negation ml_Mo_213 rfl rfl rfl (wg_Mo_0 _ _ _ _) (rg1 d (by decide)) [0] rfl rfl rfl (Nat.le_of_ble_eq_true rfl) rfl dX12_negation_25 ?_
      refine j_aload_n hE dX12_negation_28 rfl 0 rfl ?_
      refine j_iconst (v := 2) hE dX12_negation_29 (by decide) ?_
      refine j_sipush (v := 260) hE dX12_negation_30 (by decide) ?_
      obtain ⟨q23, hc24, hf⟩ := bind_of hf
      refine j_callV (ws' := ([n_Mo g a q23 mo_y] : List va_W)) (As := [.int 2, .int 260]) (rest := []) (st2 := []) hE (fun l => c_Mo_puts l g a q21 mo_y 2 260 q23 hc24) cd_X12_puts cv_X12_puts ml_Mo_209 rfl rfl rfl (wg_Mo_0 _ _ _ _) (rg2 d (by decide) (by decide) (by decide) rfl rfl) [0] rfl rfl rfl (Nat.le_of_ble_eq_true rfl) rfl dX12_negation_33 ?_
      obtain rfl := Option.some.inj hf
      exact j_vret hE hq rfl rfl dX12_negation_36
def f_Mo_sum_22 (G : Nat → jZ → Option jZ)   (k4 : jZ → Option (jZ)) (mo_z : jZ) : Option (jZ) := (f_Mo_knot mo_z).bind fun q9 => (if (q9 32 0) = 0 then (f_Mo_next q9).bind fun q16 => (G 4 q16).bind fun q18 => (f_Mo_puts q18 2 (mo_z 31 0)).bind fun q20 => k4 q20
    else (G 4 q9).bind fun q12 => (f_Mo_puts q12 2 (mo_z 31 0)).bind fun q14 => k4 q14)
def f_Mo_sum_4 (G : Nat → jZ → Option jZ)    : Nat → jZ → Option (jZ)
  | 0, _ => none
  | n + 1, mo_z => (f_Mo_isSign mo_z 43).bind fun q3 => (if q3 = 0 then (f_Mo_isSign mo_z 45).bind fun q6 => (if q6 = 0 then some mo_z
    else f_Mo_sum_22 G (fun mo_z => f_Mo_sum_4 G n mo_z) mo_z)
    else f_Mo_sum_22 G (fun mo_z => f_Mo_sum_4 G n mo_z) mo_z)
def f_Mo_sum (G : Nat → jZ → Option jZ) (mo_z : jZ)  : Option (jZ) := (G 4 mo_z).bind fun q1 => f_Mo_sum_4 G FU q1
set_option maxRecDepth 100000 in
theorem j_Mo_sum_22 (E : jT) (g : jG) (a : Nat → Nat) (mo_y : jY)  (G : Nat → jZ → Option jZ) (d : Nat) (hG : ∀ (k : Nat) (z z2 : jZ), G k z = some z2 → GC g a mo_y d k z z2) (res : jZ) (hE : jOk E g RX12 cX12_sum 2 (none : Option Jvm.ClassFile.FieldType) (rmG (d + 1))) (hq : jEnd E g none (([n_Mo g a res mo_y] : List va_W)) 0 0) (k4 : jZ → Option (jZ)) (hk4 : ∀ (mo_z : jZ), k4 mo_z = some res → J E g 0 0 (([n_Mo g a mo_z mo_y] : List va_W)) [(0, .ref (a 0))] 4 []) (mo_z : jZ) (hf : f_Mo_sum_22 G k4 mo_z = some res) : J E g 0 0 (([n_Mo g a mo_z mo_y] : List va_W)) [(0, .ref (a 0))] 22 [] := by
  unfold f_Mo_sum_22 at hf
  refine j_aload_n hE dX12_sum_22 rfl 0 rfl ?_
  refine j_get (v := .int (mo_z 31 0)) hE lg_Mo_116 0 rfl 0 (wg_Mo_0 g a mo_z mo_y) rfl dX12_sum_23 ?_
  refine j_istore_n (lv' := [(1, .int (mo_z 31 0)), (0, .ref (a 0))]) hE dX12_sum_26 rfl (by decide) rfl ?_
  refine j_aload_n hE dX12_sum_27 rfl 1 rfl ?_
  obtain ⟨q9, hc10, hf⟩ := bind_of hf
  refine j_callV (ws' := ([n_Mo g a q9 mo_y] : List va_W)) (As := []) (rest := []) (st2 := []) hE (fun l => c_Mo_knot l g a mo_z mo_y q9 hc10) cd_X12_knot cv_X12_knot ml_Mo_206 rfl rfl rfl (wg_Mo_0 _ _ _ _) (rg2 d (by decide) (by decide) (by decide) rfl rfl) [0] rfl rfl rfl (Nat.le_of_ble_eq_true rfl) rfl dX12_sum_28 ?_
  refine j_aload_n hE dX12_sum_31 rfl 1 rfl ?_
  refine j_get (v := .int (q9 32 0)) hE lg_Mo_140 0 rfl 0 (wg_Mo_0 g a q9 mo_y) rfl dX12_sum_32 ?_
  refine j_if_ne (tgt := 42) hE hf dX12_sum_35 (by decide) (fun c11 hf => ?_) (fun c11 hf => ?_)
  · refine j_aload_n hE dX12_sum_42 rfl 1 rfl ?_
    obtain ⟨q12, hc13, hf⟩ := bind_of hf
    refine j_callV (ws' := ([n_Mo g a q12 mo_y] : List va_W)) (As := []) (rest := []) (st2 := []) hE (fun l => (hG _ _ _ hc13 l).2.2.2.2.1 rfl) cd_X12_product cv_X12_product ml_Mo_219 rfl rfl rfl (wg_Mo_0 _ _ _ _) (rg1 d (by decide)) [0] rfl rfl rfl (Nat.le_of_ble_eq_true rfl) rfl dX12_sum_43 ?_
    refine j_aload_n hE dX12_sum_46 rfl 1 rfl ?_
    refine j_iconst (v := 2) hE dX12_sum_47 (by decide) ?_
    refine j_iload_n hE dX12_sum_48 rfl 0 rfl ?_
    obtain ⟨q14, hc15, hf⟩ := bind_of hf
    refine j_callV (ws' := ([n_Mo g a q14 mo_y] : List va_W)) (As := [.int 2, .int (mo_z 31 0)]) (rest := []) (st2 := []) hE (fun l => c_Mo_puts l g a q12 mo_y 2 (mo_z 31 0) q14 hc15) cd_X12_puts cv_X12_puts ml_Mo_209 rfl rfl rfl (wg_Mo_0 _ _ _ _) (rg2 d (by decide) (by decide) (by decide) rfl rfl) [0] rfl rfl rfl (Nat.le_of_ble_eq_true rfl) rfl dX12_sum_49 ?_
    refine j_goto (tgt := 4) hE dX12_sum_52 (by decide) ?_
    exact j_sub [1] rfl (hk4 q14 hf)
  · refine j_aload_n hE dX12_sum_38 rfl 1 rfl ?_
    obtain ⟨q16, hc17, hf⟩ := bind_of hf
    refine j_callV (ws' := ([n_Mo g a q16 mo_y] : List va_W)) (As := []) (rest := []) (st2 := []) hE (fun l => c_Mo_next l g a q9 mo_y q16 hc17) cd_X12_next cv_X12_next ml_Mo_149 rfl rfl rfl (wg_Mo_0 _ _ _ _) (rg2 d (by decide) (by decide) (by decide) rfl rfl) [0] rfl rfl rfl (Nat.le_of_ble_eq_true rfl) rfl dX12_sum_39 ?_
    refine j_aload_n hE dX12_sum_42 rfl 1 rfl ?_
    obtain ⟨q18, hc19, hf⟩ := bind_of hf
    refine j_callV (ws' := ([n_Mo g a q18 mo_y] : List va_W)) (As := []) (rest := []) (st2 := []) hE (fun l => (hG _ _ _ hc19 l).2.2.2.2.1 rfl) cd_X12_product cv_X12_product ml_Mo_219 rfl rfl rfl (wg_Mo_0 _ _ _ _) (rg1 d (by decide)) [0] rfl rfl rfl (Nat.le_of_ble_eq_true rfl) rfl dX12_sum_43 ?_
    refine j_aload_n hE dX12_sum_46 rfl 1 rfl ?_
    refine j_iconst (v := 2) hE dX12_sum_47 (by decide) ?_
    refine j_iload_n hE dX12_sum_48 rfl 0 rfl ?_
    obtain ⟨q20, hc21, hf⟩ := bind_of hf
    refine j_callV (ws' := ([n_Mo g a q20 mo_y] : List va_W)) (As := [.int 2, .int (mo_z 31 0)]) (rest := []) (st2 := []) hE (fun l => c_Mo_puts l g a q18 mo_y 2 (mo_z 31 0) q20 hc21) cd_X12_puts cv_X12_puts ml_Mo_209 rfl rfl rfl (wg_Mo_0 _ _ _ _) (rg2 d (by decide) (by decide) (by decide) rfl rfl) [0] rfl rfl rfl (Nat.le_of_ble_eq_true rfl) rfl dX12_sum_49 ?_
    refine j_goto (tgt := 4) hE dX12_sum_52 (by decide) ?_
    exact j_sub [1] rfl (hk4 q20 hf)
set_option maxRecDepth 100000 in
theorem j_Mo_sum_4 (E : jT) (g : jG) (a : Nat → Nat) (mo_y : jY)  (G : Nat → jZ → Option jZ) (d : Nat) (hG : ∀ (k : Nat) (z z2 : jZ), G k z = some z2 → GC g a mo_y d k z z2) (res : jZ) (hE : jOk E g RX12 cX12_sum 2 (none : Option Jvm.ClassFile.FieldType) (rmG (d + 1))) (hq : jEnd E g none (([n_Mo g a res mo_y] : List va_W)) 0 0)  : ∀ (n : Nat) (mo_z : jZ), f_Mo_sum_4 G n mo_z = some res → J E g 0 0 (([n_Mo g a mo_z mo_y] : List va_W)) [(0, .ref (a 0))] 4 [] := by
  intro n
  induction n with
  | zero =>
    intro mo_z hf
    rw [f_Mo_sum_4] at hf
    cases hf
  | succ n ih =>
    intro mo_z hf
    rw [f_Mo_sum_4] at hf
    refine j_aload_n hE dX12_sum_4 rfl 0 rfl ?_
    refine j_bipush (v := 43) hE dX12_sum_5 (by decide) ?_
    obtain ⟨q3, hc4, hf⟩ := bind_of hf
    refine j_callV (ws' := ([n_Mo g a mo_z mo_y] : List va_W)) (As := [.int 43]) (rest := []) (st2 := [.int q3]) hE (fun l => c_Mo_isSign l g a mo_z mo_y 43 q3 hc4) cd_X12_isSign cv_X12_isSign ml_Mo_184 rfl rfl rfl (wg_Mo_0 _ _ _ _) (rg2 d (by decide) (by decide) (by decide) rfl rfl) [0] rfl rfl rfl (Nat.le_of_ble_eq_true rfl) rfl dX12_sum_7 ?_
    refine j_if_ne (tgt := 22) hE hf dX12_sum_10 (by decide) (fun c5 hf => ?_) (fun c5 hf => ?_)
    · exact j_Mo_sum_22 E g a mo_y G d hG res hE hq (fun mo_z => f_Mo_sum_4 G n mo_z) (fun mo_z hf => ih mo_z hf) mo_z hf
    · refine j_aload_n hE dX12_sum_13 rfl 0 rfl ?_
      refine j_bipush (v := 45) hE dX12_sum_14 (by decide) ?_
      obtain ⟨q6, hc7, hf⟩ := bind_of hf
      refine j_callV (ws' := ([n_Mo g a mo_z mo_y] : List va_W)) (As := [.int 45]) (rest := []) (st2 := [.int q6]) hE (fun l => c_Mo_isSign l g a mo_z mo_y 45 q6 hc7) cd_X12_isSign cv_X12_isSign ml_Mo_184 rfl rfl rfl (wg_Mo_0 _ _ _ _) (rg2 d (by decide) (by decide) (by decide) rfl rfl) [0] rfl rfl rfl (Nat.le_of_ble_eq_true rfl) rfl dX12_sum_16 ?_
      refine j_if_eq (tgt := 55) hE hf dX12_sum_19 (by decide) (fun c8 hf => ?_) (fun c8 hf => ?_)
      · obtain rfl := Option.some.inj hf
        exact j_vret hE hq rfl rfl dX12_sum_55
      · exact j_Mo_sum_22 E g a mo_y G d hG res hE hq (fun mo_z => f_Mo_sum_4 G n mo_z) (fun mo_z hf => ih mo_z hf) mo_z hf
set_option maxRecDepth 100000 in
theorem c_Mo_sum (l : Launch) (g : jG) (a : Nat → Nat) (mo_z : jZ) (mo_y : jY)  (G : Nat → jZ → Option jZ) (d : Nat) (hG : ∀ (k : Nat) (z z2 : jZ), G k z = some z2 → GC g a mo_y d k z z2) (res : jZ) (hf : f_Mo_sum G mo_z = some res) : MC l g yX12_sum cX12_sum 2 (none : Option Jvm.ClassFile.FieldType) (rmG (d + 1)) [.ref (a 0)] (([n_Mo g a mo_z mo_y] : List va_W)) none (([n_Mo g a res mo_y] : List va_W)) 0 0 := by
  refine MC_of (own := RX12) (lv := [(0, .ref (a 0))]) (by decide) rfl (Nat.le_of_ble_eq_true rfl) rfl rfl (fun E hE hq => ?_)
  unfold f_Mo_sum at hf
  refine j_aload_n hE dX12_sum_0 rfl 0 rfl ?_
  obtain ⟨q1, hc2, hf⟩ := bind_of hf
  refine j_callV (ws' := ([n_Mo g a q1 mo_y] : List va_W)) (As := []) (rest := []) (st2 := []) hE (fun l => (hG _ _ _ hc2 l).2.2.2.2.1 rfl) cd_X12_product cv_X12_product ml_Mo_219 rfl rfl rfl (wg_Mo_0 _ _ _ _) (rg1 d (by decide)) [0] rfl rfl rfl (Nat.le_of_ble_eq_true rfl) rfl dX12_sum_1 ?_
  exact j_Mo_sum_4 E g a mo_y G d hG res hE hq FU q1 hf
def f_Mo_product_22 (G : Nat → jZ → Option jZ)   (k4 : jZ → Option (jZ)) (mo_z : jZ) : Option (jZ) := (f_Mo_knot mo_z).bind fun q9 => (if (q9 32 0) = 0 then (f_Mo_next q9).bind fun q16 => (G 5 q16).bind fun q18 => (f_Mo_puts q18 2 (mo_z 31 0)).bind fun q20 => k4 q20
    else (G 5 q9).bind fun q12 => (f_Mo_puts q12 2 (mo_z 31 0)).bind fun q14 => k4 q14)
def f_Mo_product_4 (G : Nat → jZ → Option jZ)    : Nat → jZ → Option (jZ)
  | 0, _ => none
  | n + 1, mo_z => (f_Mo_isSign mo_z 42).bind fun q3 => (if q3 = 0 then (f_Mo_isSign mo_z 47).bind fun q6 => (if q6 = 0 then some mo_z
    else f_Mo_product_22 G (fun mo_z => f_Mo_product_4 G n mo_z) mo_z)
    else f_Mo_product_22 G (fun mo_z => f_Mo_product_4 G n mo_z) mo_z)
def f_Mo_product (G : Nat → jZ → Option jZ) (mo_z : jZ)  : Option (jZ) := (G 5 mo_z).bind fun q1 => f_Mo_product_4 G FU q1
set_option maxRecDepth 100000 in
theorem j_Mo_product_22 (E : jT) (g : jG) (a : Nat → Nat) (mo_y : jY)  (G : Nat → jZ → Option jZ) (d : Nat) (hG : ∀ (k : Nat) (z z2 : jZ), G k z = some z2 → GC g a mo_y d k z z2) (res : jZ) (hE : jOk E g RX12 cX12_product 2 (none : Option Jvm.ClassFile.FieldType) (rmG (d + 1))) (hq : jEnd E g none (([n_Mo g a res mo_y] : List va_W)) 0 0) (k4 : jZ → Option (jZ)) (hk4 : ∀ (mo_z : jZ), k4 mo_z = some res → J E g 0 0 (([n_Mo g a mo_z mo_y] : List va_W)) [(0, .ref (a 0))] 4 []) (mo_z : jZ) (hf : f_Mo_product_22 G k4 mo_z = some res) : J E g 0 0 (([n_Mo g a mo_z mo_y] : List va_W)) [(0, .ref (a 0))] 22 [] := by
  unfold f_Mo_product_22 at hf
  refine j_aload_n hE dX12_product_22 rfl 0 rfl ?_
  refine j_get (v := .int (mo_z 31 0)) hE lg_Mo_116 0 rfl 0 (wg_Mo_0 g a mo_z mo_y) rfl dX12_product_23 ?_
  refine j_istore_n (lv' := [(1, .int (mo_z 31 0)), (0, .ref (a 0))]) hE dX12_product_26 rfl (by decide) rfl ?_
  refine j_aload_n hE dX12_product_27 rfl 1 rfl ?_
  obtain ⟨q9, hc10, hf⟩ := bind_of hf
  refine j_callV (ws' := ([n_Mo g a q9 mo_y] : List va_W)) (As := []) (rest := []) (st2 := []) hE (fun l => c_Mo_knot l g a mo_z mo_y q9 hc10) cd_X12_knot cv_X12_knot ml_Mo_206 rfl rfl rfl (wg_Mo_0 _ _ _ _) (rg2 d (by decide) (by decide) (by decide) rfl rfl) [0] rfl rfl rfl (Nat.le_of_ble_eq_true rfl) rfl dX12_product_28 ?_
  refine j_aload_n hE dX12_product_31 rfl 1 rfl ?_
  refine j_get (v := .int (q9 32 0)) hE lg_Mo_140 0 rfl 0 (wg_Mo_0 g a q9 mo_y) rfl dX12_product_32 ?_
  refine j_if_ne (tgt := 42) hE hf dX12_product_35 (by decide) (fun c11 hf => ?_) (fun c11 hf => ?_)
  · refine j_aload_n hE dX12_product_42 rfl 1 rfl ?_
    obtain ⟨q12, hc13, hf⟩ := bind_of hf
    refine j_callV (ws' := ([n_Mo g a q12 mo_y] : List va_W)) (As := []) (rest := []) (st2 := []) hE (fun l => (hG _ _ _ hc13 l).2.2.2.2.2 rfl) cd_X12_primary cv_X12_primary ml_Mo_222 rfl rfl rfl (wg_Mo_0 _ _ _ _) (rg1 d (by decide)) [0] rfl rfl rfl (Nat.le_of_ble_eq_true rfl) rfl dX12_product_43 ?_
    refine j_aload_n hE dX12_product_46 rfl 1 rfl ?_
    refine j_iconst (v := 2) hE dX12_product_47 (by decide) ?_
    refine j_iload_n hE dX12_product_48 rfl 0 rfl ?_
    obtain ⟨q14, hc15, hf⟩ := bind_of hf
    refine j_callV (ws' := ([n_Mo g a q14 mo_y] : List va_W)) (As := [.int 2, .int (mo_z 31 0)]) (rest := []) (st2 := []) hE (fun l => c_Mo_puts l g a q12 mo_y 2 (mo_z 31 0) q14 hc15) cd_X12_puts cv_X12_puts ml_Mo_209 rfl rfl rfl (wg_Mo_0 _ _ _ _) (rg2 d (by decide) (by decide) (by decide) rfl rfl) [0] rfl rfl rfl (Nat.le_of_ble_eq_true rfl) rfl dX12_product_49 ?_
    refine j_goto (tgt := 4) hE dX12_product_52 (by decide) ?_
    exact j_sub [1] rfl (hk4 q14 hf)
  · refine j_aload_n hE dX12_product_38 rfl 1 rfl ?_
    obtain ⟨q16, hc17, hf⟩ := bind_of hf
    refine j_callV (ws' := ([n_Mo g a q16 mo_y] : List va_W)) (As := []) (rest := []) (st2 := []) hE (fun l => c_Mo_next l g a q9 mo_y q16 hc17) cd_X12_next cv_X12_next ml_Mo_149 rfl rfl rfl (wg_Mo_0 _ _ _ _) (rg2 d (by decide) (by decide) (by decide) rfl rfl) [0] rfl rfl rfl (Nat.le_of_ble_eq_true rfl) rfl dX12_product_39 ?_
    refine j_aload_n hE dX12_product_42 rfl 1 rfl ?_
    obtain ⟨q18, hc19, hf⟩ := bind_of hf
    refine j_callV (ws' := ([n_Mo g a q18 mo_y] : List va_W)) (As := []) (rest := []) (st2 := []) hE (fun l => (hG _ _ _ hc19 l).2.2.2.2.2 rfl) cd_X12_primary cv_X12_primary ml_Mo_222 rfl rfl rfl (wg_Mo_0 _ _ _ _) (rg1 d (by decide)) [0] rfl rfl rfl (Nat.le_of_ble_eq_true rfl) rfl dX12_product_43 ?_
    refine j_aload_n hE dX12_product_46 rfl 1 rfl ?_
    refine j_iconst (v := 2) hE dX12_product_47 (by decide) ?_
    refine j_iload_n hE dX12_product_48 rfl 0 rfl ?_
    obtain ⟨q20, hc21, hf⟩ := bind_of hf
    refine j_callV (ws' := ([n_Mo g a q20 mo_y] : List va_W)) (As := [.int 2, .int (mo_z 31 0)]) (rest := []) (st2 := []) hE (fun l => c_Mo_puts l g a q18 mo_y 2 (mo_z 31 0) q20 hc21) cd_X12_puts cv_X12_puts ml_Mo_209 rfl rfl rfl (wg_Mo_0 _ _ _ _) (rg2 d (by decide) (by decide) (by decide) rfl rfl) [0] rfl rfl rfl (Nat.le_of_ble_eq_true rfl) rfl dX12_product_49 ?_
    refine j_goto (tgt := 4) hE dX12_product_52 (by decide) ?_
    exact j_sub [1] rfl (hk4 q20 hf)
set_option maxRecDepth 100000 in
theorem j_Mo_product_4 (E : jT) (g : jG) (a : Nat → Nat) (mo_y : jY)  (G : Nat → jZ → Option jZ) (d : Nat) (hG : ∀ (k : Nat) (z z2 : jZ), G k z = some z2 → GC g a mo_y d k z z2) (res : jZ) (hE : jOk E g RX12 cX12_product 2 (none : Option Jvm.ClassFile.FieldType) (rmG (d + 1))) (hq : jEnd E g none (([n_Mo g a res mo_y] : List va_W)) 0 0)  : ∀ (n : Nat) (mo_z : jZ), f_Mo_product_4 G n mo_z = some res → J E g 0 0 (([n_Mo g a mo_z mo_y] : List va_W)) [(0, .ref (a 0))] 4 [] := by
  intro n
  induction n with
  | zero =>
    intro mo_z hf
    rw [f_Mo_product_4] at hf
    cases hf
  | succ n ih =>
    intro mo_z hf
    rw [f_Mo_product_4] at hf
    refine j_aload_n hE dX12_product_4 rfl 0 rfl ?_
    refine j_bipush (v := 42) hE dX12_product_5 (by decide) ?_
    obtain ⟨q3, hc4, hf⟩ := bind_of hf
    refine j_callV (ws' := ([n_Mo g a mo_z mo_y] : List va_W)) (As := [.int 42]) (rest := []) (st2 := [.int q3]) hE (fun l => c_Mo_isSign l g a mo_z mo_y 42 q3 hc4) cd_X12_isSign cv_X12_isSign ml_Mo_184 rfl rfl rfl (wg_Mo_0 _ _ _ _) (rg2 d (by decide) (by decide) (by decide) rfl rfl) [0] rfl rfl rfl (Nat.le_of_ble_eq_true rfl) rfl dX12_product_7 ?_
    refine j_if_ne (tgt := 22) hE hf dX12_product_10 (by decide) (fun c5 hf => ?_) (fun c5 hf => ?_)
    · exact j_Mo_product_22 E g a mo_y G d hG res hE hq (fun mo_z => f_Mo_product_4 G n mo_z) (fun mo_z hf => ih mo_z hf) mo_z hf
    · refine j_aload_n hE dX12_product_13 rfl 0 rfl ?_
      refine j_bipush (v := 47) hE dX12_product_14 (by decide) ?_
      obtain ⟨q6, hc7, hf⟩ := bind_of hf
      refine j_callV (ws' := ([n_Mo g a mo_z mo_y] : List va_W)) (As := [.int 47]) (rest := []) (st2 := [.int q6]) hE (fun l => c_Mo_isSign l g a mo_z mo_y 47 q6 hc7) cd_X12_isSign cv_X12_isSign ml_Mo_184 rfl rfl rfl (wg_Mo_0 _ _ _ _) (rg2 d (by decide) (by decide) (by decide) rfl rfl) [0] rfl rfl rfl (Nat.le_of_ble_eq_true rfl) rfl dX12_product_16 ?_
      refine j_if_eq (tgt := 55) hE hf dX12_product_19 (by decide) (fun c8 hf => ?_) (fun c8 hf => ?_)
      · obtain rfl := Option.some.inj hf
        exact j_vret hE hq rfl rfl dX12_product_55
      · exact j_Mo_product_22 E g a mo_y G d hG res hE hq (fun mo_z => f_Mo_product_4 G n mo_z) (fun mo_z hf => ih mo_z hf) mo_z hf
set_option maxRecDepth 100000 in
theorem c_Mo_product (l : Launch) (g : jG) (a : Nat → Nat) (mo_z : jZ) (mo_y : jY)  (G : Nat → jZ → Option jZ) (d : Nat) (hG : ∀ (k : Nat) (z z2 : jZ), G k z = some z2 → GC g a mo_y d k z z2) (res : jZ) (hf : f_Mo_product G mo_z = some res) : MC l g yX12_product cX12_product 2 (none : Option Jvm.ClassFile.FieldType) (rmG (d + 1)) [.ref (a 0)] (([n_Mo g a mo_z mo_y] : List va_W)) none (([n_Mo g a res mo_y] : List va_W)) 0 0 := by
  refine MC_of (own := RX12) (lv := [(0, .ref (a 0))]) (by decide) rfl (Nat.le_of_ble_eq_true rfl) rfl rfl (fun E hE hq => ?_)
  unfold f_Mo_product at hf
  refine j_aload_n hE dX12_product_0 rfl 0 rfl ?_
  obtain ⟨q1, hc2, hf⟩ := bind_of hf
  refine j_callV (ws' := ([n_Mo g a q1 mo_y] : List va_W)) (As := []) (rest := []) (st2 := []) hE (fun l => (hG _ _ _ hc2 l).2.2.2.2.2 rfl) cd_X12_primary cv_X12_primary ml_Mo_222 rfl rfl rfl (wg_Mo_0 _ _ _ _) (rg1 d (by decide)) [0] rfl rfl rfl (Nat.le_of_ble_eq_true rfl) rfl dX12_product_1 ?_
  exact j_Mo_product_4 E g a mo_y G d hG res hE hq FU q1 hf
def f_Mo_primary_184 (G : Nat → jZ → Option jZ)    (mo_z : jZ) (v1 : Int32) (s0 : Int32) : Option (jZ) := (if v1 = 0 then (f_Mo_puts mo_z s0 ((mo_z 31 0) - 10)).bind fun q49 => (f_Mo_next q49).bind fun q51 => some q51
    else (f_Mo_puts mo_z s0 (mo_z 31 0)).bind fun q53 => (f_Mo_next q53).bind fun q55 => some q55)
def f_Mo_primary_157 (G : Nat → jZ → Option jZ)    (mo_z : jZ) (v1 : Int32) : Option (jZ) := (f_Mo_wrong mo_z 1).bind fun q57 => (f_Mo_knot q57).bind fun q59 => (if (q59 32 0) = 0 then (if v1 = 0 then f_Mo_primary_184 G q59 v1 1
    else f_Mo_primary_184 G q59 v1 0)
    else some q59)
def f_Mo_primary_137 (G : Nat → jZ → Option jZ)    (mo_z : jZ) (v1 : Int32) : Option (jZ) := (if v1 = 0 then (if (mo_z 30 0) = 0 then (if 10 ≤ (mo_z 31 0) then (f_Mo_knot mo_z).bind fun q44 => (if (q44 32 0) = 0 then (if v1 = 0 then f_Mo_primary_184 G q44 v1 1
    else f_Mo_primary_184 G q44 v1 0)
    else some q44)
    else f_Mo_primary_157 G mo_z v1)
    else f_Mo_primary_157 G mo_z v1)
    else (f_Mo_knot mo_z).bind fun q38 => (if (q38 32 0) = 0 then (if v1 = 0 then f_Mo_primary_184 G q38 v1 1
    else f_Mo_primary_184 G q38 v1 0)
    else some q38))
def f_Mo_primary_114 (G : Nat → jZ → Option jZ)    (mo_z : jZ) (s0 : Int32) : Option (jZ) := (if s0 = 0 then f_Mo_primary_137 G mo_z s0
    else (if (mo_z 31 0) ≤ 999 then f_Mo_primary_137 G mo_z s0
    else (f_Mo_wrong mo_z 2).bind fun q11 => (f_Mo_knot q11).bind fun q13 => (if (q13 32 0) = 0 then (if s0 = 0 then f_Mo_primary_184 G q13 s0 1
    else f_Mo_primary_184 G q13 s0 0)
    else some q13)))
def f_Mo_primary_31 (G : Nat → jZ → Option jZ)    (mo_z : jZ) : Option (jZ) := (if (mo_z 32 0) = 0 then (f_Mo_next (up2 mo_z 36 0 ((mo_z 36 0) + 1))).bind fun q18 => (G 0 q18).bind fun q20 => (if (q20 32 0) = 0 then (f_Mo_isSign q20 41).bind fun q26 => (if q26 = 0 then (f_Mo_wrong q20 1).bind fun q32 => (if (q32 32 0) = 0 then (f_Mo_next (up2 q32 36 0 ((q32 36 0) - 1))).bind fun q35 => some q35
    else some q32)
    else (if (q20 32 0) = 0 then (f_Mo_next (up2 q20 36 0 ((q20 36 0) - 1))).bind fun q30 => some q30
    else some q20))
    else (if (q20 32 0) = 0 then (f_Mo_next (up2 q20 36 0 ((q20 36 0) - 1))).bind fun q24 => some q24
    else some q20))
    else some mo_z)
def f_Mo_primary (G : Nat → jZ → Option jZ) (mo_z : jZ)  : Option (jZ) := (if (mo_z 32 0) = 0 then (f_Mo_isSign mo_z 40).bind fun q2 => (if q2 = 0 then (if (mo_z 30 0) = 2 then f_Mo_primary_114 G mo_z 1
    else f_Mo_primary_114 G mo_z 0)
    else (if (mo_z 36 0) = 8 then (f_Mo_wrong mo_z 2).bind fun q7 => f_Mo_primary_31 G q7
    else f_Mo_primary_31 G mo_z))
    else some mo_z)
set_option maxRecDepth 100000 in
theorem j_Mo_primary_184 (E : jT) (g : jG) (a : Nat → Nat) (mo_y : jY)  (G : Nat → jZ → Option jZ) (d : Nat) (hG : ∀ (k : Nat) (z z2 : jZ), G k z = some z2 → GC g a mo_y d k z z2) (res : jZ) (hE : jOk E g RX12 cX12_primary 2 (none : Option Jvm.ClassFile.FieldType) (rmG (d + 1))) (hq : jEnd E g none (([n_Mo g a res mo_y] : List va_W)) 0 0)  (mo_z : jZ) (v1 : Int32) (s0 : Int32) (hf : f_Mo_primary_184 G mo_z v1 s0 = some res) : J E g 0 0 (([n_Mo g a mo_z mo_y] : List va_W)) [(0, .ref (a 0)), (1, .int v1)] 184 [.int s0, .ref (a 0)] := by
  unfold f_Mo_primary_184 at hf
  refine j_iload_n hE dX12_primary_184 rfl 1 rfl ?_
  refine j_if_eq (tgt := 195) hE hf dX12_primary_185 (by decide) (fun c48 hf => ?_) (fun c48 hf => ?_)
  · refine j_aload_n hE dX12_primary_195 rfl 0 rfl ?_
    refine j_get (v := .int (mo_z 31 0)) hE lg_Mo_116 0 rfl 0 (wg_Mo_0 g a mo_z mo_y) rfl dX12_primary_196 ?_
    refine j_bipush (v := 10) hE dX12_primary_199 (by decide) ?_
    refine j_isub hE dX12_primary_201 ?_
    obtain ⟨q49, hc50, hf⟩ := bind_of hf
    refine j_callV (ws' := ([n_Mo g a q49 mo_y] : List va_W)) (As := [.int s0, .int ((mo_z 31 0) - 10)]) (rest := []) (st2 := []) hE (fun l => c_Mo_puts l g a mo_z mo_y s0 ((mo_z 31 0) - 10) q49 hc50) cd_X12_puts cv_X12_puts ml_Mo_209 rfl rfl rfl (wg_Mo_0 _ _ _ _) (rg2 d (by decide) (by decide) (by decide) rfl rfl) [0] rfl rfl rfl (Nat.le_of_ble_eq_true rfl) rfl dX12_primary_202 ?_
    refine j_aload_n hE dX12_primary_205 rfl 0 rfl ?_
    obtain ⟨q51, hc52, hf⟩ := bind_of hf
    refine j_callV (ws' := ([n_Mo g a q51 mo_y] : List va_W)) (As := []) (rest := []) (st2 := []) hE (fun l => c_Mo_next l g a q49 mo_y q51 hc52) cd_X12_next cv_X12_next ml_Mo_149 rfl rfl rfl (wg_Mo_0 _ _ _ _) (rg2 d (by decide) (by decide) (by decide) rfl rfl) [0] rfl rfl rfl (Nat.le_of_ble_eq_true rfl) rfl dX12_primary_206 ?_
    obtain rfl := Option.some.inj hf
    exact j_vret hE hq rfl rfl dX12_primary_209
  · refine j_aload_n hE dX12_primary_188 rfl 0 rfl ?_
    refine j_get (v := .int (mo_z 31 0)) hE lg_Mo_116 0 rfl 0 (wg_Mo_0 g a mo_z mo_y) rfl dX12_primary_189 ?_
    refine j_goto (tgt := 202) hE dX12_primary_192 (by decide) ?_
    obtain ⟨q53, hc54, hf⟩ := bind_of hf
    refine j_callV (ws' := ([n_Mo g a q53 mo_y] : List va_W)) (As := [.int s0, .int (mo_z 31 0)]) (rest := []) (st2 := []) hE (fun l => c_Mo_puts l g a mo_z mo_y s0 (mo_z 31 0) q53 hc54) cd_X12_puts cv_X12_puts ml_Mo_209 rfl rfl rfl (wg_Mo_0 _ _ _ _) (rg2 d (by decide) (by decide) (by decide) rfl rfl) [0] rfl rfl rfl (Nat.le_of_ble_eq_true rfl) rfl dX12_primary_202 ?_
    refine j_aload_n hE dX12_primary_205 rfl 0 rfl ?_
    obtain ⟨q55, hc56, hf⟩ := bind_of hf
    refine j_callV (ws' := ([n_Mo g a q55 mo_y] : List va_W)) (As := []) (rest := []) (st2 := []) hE (fun l => c_Mo_next l g a q53 mo_y q55 hc56) cd_X12_next cv_X12_next ml_Mo_149 rfl rfl rfl (wg_Mo_0 _ _ _ _) (rg2 d (by decide) (by decide) (by decide) rfl rfl) [0] rfl rfl rfl (Nat.le_of_ble_eq_true rfl) rfl dX12_primary_206 ?_
    obtain rfl := Option.some.inj hf
    exact j_vret hE hq rfl rfl dX12_primary_209
set_option maxRecDepth 100000 in
theorem j_Mo_primary_157 (E : jT) (g : jG) (a : Nat → Nat) (mo_y : jY)  (G : Nat → jZ → Option jZ) (d : Nat) (hG : ∀ (k : Nat) (z z2 : jZ), G k z = some z2 → GC g a mo_y d k z z2) (res : jZ) (hE : jOk E g RX12 cX12_primary 2 (none : Option Jvm.ClassFile.FieldType) (rmG (d + 1))) (hq : jEnd E g none (([n_Mo g a res mo_y] : List va_W)) 0 0)  (mo_z : jZ) (v1 : Int32) (hf : f_Mo_primary_157 G mo_z v1 = some res) : J E g 0 0 (([n_Mo g a mo_z mo_y] : List va_W)) [(0, .ref (a 0)), (1, .int v1)] 157 [] := by
  unfold f_Mo_primary_157 at hf
  refine j_aload_n hE dX12_primary_157 rfl 0 rfl ?_
  refine j_iconst (v := 1) hE dX12_primary_158 (by decide) ?_
  obtain ⟨q57, hc58, hf⟩ := bind_of hf
  refine j_callV (ws' := ([n_Mo g a q57 mo_y] : List va_W)) (As := [.int 1]) (rest := []) (st2 := []) hE (fun l => c_Mo_wrong l g a mo_z mo_y 1 q57 hc58) cd_X12_wrong cv_X12_wrong ml_Mo_146 rfl rfl rfl (wg_Mo_0 _ _ _ _) (rg2 d (by decide) (by decide) (by decide) rfl rfl) [0] rfl rfl rfl (Nat.le_of_ble_eq_true rfl) rfl dX12_primary_159 ?_
  refine j_aload_n hE dX12_primary_162 rfl 0 rfl ?_
  obtain ⟨q59, hc60, hf⟩ := bind_of hf
  refine j_callV (ws' := ([n_Mo g a q59 mo_y] : List va_W)) (As := []) (rest := []) (st2 := []) hE (fun l => c_Mo_knot l g a q57 mo_y q59 hc60) cd_X12_knot cv_X12_knot ml_Mo_206 rfl rfl rfl (wg_Mo_0 _ _ _ _) (rg2 d (by decide) (by decide) (by decide) rfl rfl) [0] rfl rfl rfl (Nat.le_of_ble_eq_true rfl) rfl dX12_primary_163 ?_
  refine j_aload_n hE dX12_primary_166 rfl 0 rfl ?_
  refine j_get (v := .int (q59 32 0)) hE lg_Mo_140 0 rfl 0 (wg_Mo_0 g a q59 mo_y) rfl dX12_primary_167 ?_
  refine j_if_eq (tgt := 174) hE hf dX12_primary_170 (by decide) (fun c61 hf => ?_) (fun c61 hf => ?_)
  · refine j_aload_n hE dX12_primary_174 rfl 0 rfl ?_
    refine j_iload_n hE dX12_primary_175 rfl 1 rfl ?_
    refine j_if_eq (tgt := 183) hE hf dX12_primary_176 (by decide) (fun c62 hf => ?_) (fun c62 hf => ?_)
    · refine j_iconst (v := 1) hE dX12_primary_183 (by decide) ?_
      exact j_Mo_primary_184 E g a mo_y G d hG res hE hq q59 v1 1 hf
    · refine j_iconst (v := 0) hE dX12_primary_179 (by decide) ?_
      refine j_goto (tgt := 184) hE dX12_primary_180 (by decide) ?_
      exact j_Mo_primary_184 E g a mo_y G d hG res hE hq q59 v1 0 hf
  · obtain rfl := Option.some.inj hf
    exact j_vret hE hq rfl rfl dX12_primary_173
set_option maxRecDepth 100000 in
theorem j_Mo_primary_137 (E : jT) (g : jG) (a : Nat → Nat) (mo_y : jY)  (G : Nat → jZ → Option jZ) (d : Nat) (hG : ∀ (k : Nat) (z z2 : jZ), G k z = some z2 → GC g a mo_y d k z z2) (res : jZ) (hE : jOk E g RX12 cX12_primary 2 (none : Option Jvm.ClassFile.FieldType) (rmG (d + 1))) (hq : jEnd E g none (([n_Mo g a res mo_y] : List va_W)) 0 0)  (mo_z : jZ) (v1 : Int32) (hf : f_Mo_primary_137 G mo_z v1 = some res) : J E g 0 0 (([n_Mo g a mo_z mo_y] : List va_W)) [(0, .ref (a 0)), (1, .int v1)] 137 [] := by
  unfold f_Mo_primary_137 at hf
  refine j_iload_n hE dX12_primary_137 rfl 1 rfl ?_
  refine j_if_ne (tgt := 162) hE hf dX12_primary_138 (by decide) (fun c37 hf => ?_) (fun c37 hf => ?_)
  · refine j_aload_n hE dX12_primary_162 rfl 0 rfl ?_
    obtain ⟨q38, hc39, hf⟩ := bind_of hf
    refine j_callV (ws' := ([n_Mo g a q38 mo_y] : List va_W)) (As := []) (rest := []) (st2 := []) hE (fun l => c_Mo_knot l g a mo_z mo_y q38 hc39) cd_X12_knot cv_X12_knot ml_Mo_206 rfl rfl rfl (wg_Mo_0 _ _ _ _) (rg2 d (by decide) (by decide) (by decide) rfl rfl) [0] rfl rfl rfl (Nat.le_of_ble_eq_true rfl) rfl dX12_primary_163 ?_
    refine j_aload_n hE dX12_primary_166 rfl 0 rfl ?_
    refine j_get (v := .int (q38 32 0)) hE lg_Mo_140 0 rfl 0 (wg_Mo_0 g a q38 mo_y) rfl dX12_primary_167 ?_
    refine j_if_eq (tgt := 174) hE hf dX12_primary_170 (by decide) (fun c40 hf => ?_) (fun c40 hf => ?_)
    · refine j_aload_n hE dX12_primary_174 rfl 0 rfl ?_
      refine j_iload_n hE dX12_primary_175 rfl 1 rfl ?_
      refine j_if_eq (tgt := 183) hE hf dX12_primary_176 (by decide) (fun c41 hf => ?_) (fun c41 hf => ?_)
      · refine j_iconst (v := 1) hE dX12_primary_183 (by decide) ?_
        exact j_Mo_primary_184 E g a mo_y G d hG res hE hq q38 v1 1 hf
      · refine j_iconst (v := 0) hE dX12_primary_179 (by decide) ?_
        refine j_goto (tgt := 184) hE dX12_primary_180 (by decide) ?_
        exact j_Mo_primary_184 E g a mo_y G d hG res hE hq q38 v1 0 hf
    · obtain rfl := Option.some.inj hf
      exact j_vret hE hq rfl rfl dX12_primary_173
  · refine j_aload_n hE dX12_primary_141 rfl 0 rfl ?_
    refine j_get (v := .int (mo_z 30 0)) hE lg_Mo_106 0 rfl 0 (wg_Mo_0 g a mo_z mo_y) rfl dX12_primary_142 ?_
    refine j_if_ne (tgt := 157) hE hf dX12_primary_145 (by decide) (fun c42 hf => ?_) (fun c42 hf => ?_)
    · exact j_Mo_primary_157 E g a mo_y G d hG res hE hq mo_z v1 hf
    · refine j_aload_n hE dX12_primary_148 rfl 0 rfl ?_
      refine j_get (v := .int (mo_z 31 0)) hE lg_Mo_116 0 rfl 0 (wg_Mo_0 g a mo_z mo_y) rfl dX12_primary_149 ?_
      refine j_bipush (v := 10) hE dX12_primary_152 (by decide) ?_
      refine j_icmp_ge (tgt := 162) hE hf dX12_primary_154 (by decide) (fun c43 hf => ?_) (fun c43 hf => ?_)
      · refine j_aload_n hE dX12_primary_162 rfl 0 rfl ?_
        obtain ⟨q44, hc45, hf⟩ := bind_of hf
        refine j_callV (ws' := ([n_Mo g a q44 mo_y] : List va_W)) (As := []) (rest := []) (st2 := []) hE (fun l => c_Mo_knot l g a mo_z mo_y q44 hc45) cd_X12_knot cv_X12_knot ml_Mo_206 rfl rfl rfl (wg_Mo_0 _ _ _ _) (rg2 d (by decide) (by decide) (by decide) rfl rfl) [0] rfl rfl rfl (Nat.le_of_ble_eq_true rfl) rfl dX12_primary_163 ?_
        refine j_aload_n hE dX12_primary_166 rfl 0 rfl ?_
        refine j_get (v := .int (q44 32 0)) hE lg_Mo_140 0 rfl 0 (wg_Mo_0 g a q44 mo_y) rfl dX12_primary_167 ?_
        refine j_if_eq (tgt := 174) hE hf dX12_primary_170 (by decide) (fun c46 hf => ?_) (fun c46 hf => ?_)
        · refine j_aload_n hE dX12_primary_174 rfl 0 rfl ?_
          refine j_iload_n hE dX12_primary_175 rfl 1 rfl ?_
          refine j_if_eq (tgt := 183) hE hf dX12_primary_176 (by decide) (fun c47 hf => ?_) (fun c47 hf => ?_)
          · refine j_iconst (v := 1) hE dX12_primary_183 (by decide) ?_
            exact j_Mo_primary_184 E g a mo_y G d hG res hE hq q44 v1 1 hf
          · refine j_iconst (v := 0) hE dX12_primary_179 (by decide) ?_
            refine j_goto (tgt := 184) hE dX12_primary_180 (by decide) ?_
            exact j_Mo_primary_184 E g a mo_y G d hG res hE hq q44 v1 0 hf
        · obtain rfl := Option.some.inj hf
          exact j_vret hE hq rfl rfl dX12_primary_173
      · exact j_Mo_primary_157 E g a mo_y G d hG res hE hq mo_z v1 hf
set_option maxRecDepth 100000 in
theorem j_Mo_primary_114 (E : jT) (g : jG) (a : Nat → Nat) (mo_y : jY)  (G : Nat → jZ → Option jZ) (d : Nat) (hG : ∀ (k : Nat) (z z2 : jZ), G k z = some z2 → GC g a mo_y d k z z2) (res : jZ) (hE : jOk E g RX12 cX12_primary 2 (none : Option Jvm.ClassFile.FieldType) (rmG (d + 1))) (hq : jEnd E g none (([n_Mo g a res mo_y] : List va_W)) 0 0)  (mo_z : jZ) (s0 : Int32) (hf : f_Mo_primary_114 G mo_z s0 = some res) : J E g 0 0 (([n_Mo g a mo_z mo_y] : List va_W)) [(0, .ref (a 0))] 114 [.int s0] := by
  unfold f_Mo_primary_114 at hf
  refine j_istore_n (lv' := [(1, .int s0), (0, .ref (a 0))]) hE dX12_primary_114 rfl (by decide) rfl ?_
  refine j_iload_n hE dX12_primary_115 rfl 0 rfl ?_
  refine j_if_eq (tgt := 137) hE hf dX12_primary_116 (by decide) (fun c9 hf => ?_) (fun c9 hf => ?_)
  · exact j_sub [1, 0] rfl (j_Mo_primary_137 E g a mo_y G d hG res hE hq mo_z s0 hf)
  · refine j_aload_n hE dX12_primary_119 rfl 1 rfl ?_
    refine j_get (v := .int (mo_z 31 0)) hE lg_Mo_116 0 rfl 0 (wg_Mo_0 g a mo_z mo_y) rfl dX12_primary_120 ?_
    refine j_sipush (v := 999) hE dX12_primary_123 (by decide) ?_
    refine j_icmp_le (tgt := 137) hE hf dX12_primary_126 (by decide) (fun c10 hf => ?_) (fun c10 hf => ?_)
    · exact j_sub [1, 0] rfl (j_Mo_primary_137 E g a mo_y G d hG res hE hq mo_z s0 hf)
    · refine j_aload_n hE dX12_primary_129 rfl 1 rfl ?_
      refine j_iconst (v := 2) hE dX12_primary_130 (by decide) ?_
      obtain ⟨q11, hc12, hf⟩ := bind_of hf
      refine j_callV (ws' := ([n_Mo g a q11 mo_y] : List va_W)) (As := [.int 2]) (rest := []) (st2 := []) hE (fun l => c_Mo_wrong l g a mo_z mo_y 2 q11 hc12) cd_X12_wrong cv_X12_wrong ml_Mo_146 rfl rfl rfl (wg_Mo_0 _ _ _ _) (rg2 d (by decide) (by decide) (by decide) rfl rfl) [0] rfl rfl rfl (Nat.le_of_ble_eq_true rfl) rfl dX12_primary_131 ?_
      refine j_goto (tgt := 162) hE dX12_primary_134 (by decide) ?_
      refine j_aload_n hE dX12_primary_162 rfl 1 rfl ?_
      obtain ⟨q13, hc14, hf⟩ := bind_of hf
      refine j_callV (ws' := ([n_Mo g a q13 mo_y] : List va_W)) (As := []) (rest := []) (st2 := []) hE (fun l => c_Mo_knot l g a q11 mo_y q13 hc14) cd_X12_knot cv_X12_knot ml_Mo_206 rfl rfl rfl (wg_Mo_0 _ _ _ _) (rg2 d (by decide) (by decide) (by decide) rfl rfl) [0] rfl rfl rfl (Nat.le_of_ble_eq_true rfl) rfl dX12_primary_163 ?_
      refine j_aload_n hE dX12_primary_166 rfl 1 rfl ?_
      refine j_get (v := .int (q13 32 0)) hE lg_Mo_140 0 rfl 0 (wg_Mo_0 g a q13 mo_y) rfl dX12_primary_167 ?_
      refine j_if_eq (tgt := 174) hE hf dX12_primary_170 (by decide) (fun c15 hf => ?_) (fun c15 hf => ?_)
      · refine j_aload_n hE dX12_primary_174 rfl 1 rfl ?_
        refine j_iload_n hE dX12_primary_175 rfl 0 rfl ?_
        refine j_if_eq (tgt := 183) hE hf dX12_primary_176 (by decide) (fun c16 hf => ?_) (fun c16 hf => ?_)
        · refine j_iconst (v := 1) hE dX12_primary_183 (by decide) ?_
          exact j_sub [1, 0] rfl (j_Mo_primary_184 E g a mo_y G d hG res hE hq q13 s0 1 hf)
        · refine j_iconst (v := 0) hE dX12_primary_179 (by decide) ?_
          refine j_goto (tgt := 184) hE dX12_primary_180 (by decide) ?_
          exact j_sub [1, 0] rfl (j_Mo_primary_184 E g a mo_y G d hG res hE hq q13 s0 0 hf)
      · obtain rfl := Option.some.inj hf
        exact j_vret hE hq rfl rfl dX12_primary_173
set_option maxRecDepth 100000 in
theorem j_Mo_primary_31 (E : jT) (g : jG) (a : Nat → Nat) (mo_y : jY)  (G : Nat → jZ → Option jZ) (d : Nat) (hG : ∀ (k : Nat) (z z2 : jZ), G k z = some z2 → GC g a mo_y d k z z2) (res : jZ) (hE : jOk E g RX12 cX12_primary 2 (none : Option Jvm.ClassFile.FieldType) (rmG (d + 1))) (hq : jEnd E g none (([n_Mo g a res mo_y] : List va_W)) 0 0)  (mo_z : jZ) (hf : f_Mo_primary_31 G mo_z = some res) : J E g 0 0 (([n_Mo g a mo_z mo_y] : List va_W)) [(0, .ref (a 0))] 31 [] := by
  unfold f_Mo_primary_31 at hf
  refine j_aload_n hE dX12_primary_31 rfl 0 rfl ?_
  refine j_get (v := .int (mo_z 32 0)) hE lg_Mo_140 0 rfl 0 (wg_Mo_0 g a mo_z mo_y) rfl dX12_primary_32 ?_
  refine j_if_eq (tgt := 39) hE hf dX12_primary_35 (by decide) (fun c17 hf => ?_) (fun c17 hf => ?_)
  · refine j_aload_n hE dX12_primary_39 rfl 0 rfl ?_
    refine j_dup hE dX12_primary_40 rfl ?_
    refine j_get (v := .int (mo_z 36 0)) hE lg_Mo_225 0 rfl 0 (wg_Mo_0 g a mo_z mo_y) rfl dX12_primary_41 ?_
    refine j_iconst (v := 1) hE dX12_primary_44 (by decide) ?_
    refine j_iadd hE dX12_primary_45 ?_
    refine j_put (v := .int ((mo_z 36 0) + 1)) (ws' := ([n_Mo g a (up2 mo_z 36 0 ((mo_z 36 0) + 1)) mo_y] : List va_W)) hE lp_Mo_225 0 rfl 0 (wg_Mo_0 g a mo_z mo_y) rfl rfl (Nat.le_of_ble_eq_true rfl) (wp_Mo_36 g a mo_z mo_y ((mo_z 36 0) + 1)) rfl dX12_primary_46 ?_
    refine j_aload_n hE dX12_primary_49 rfl 0 rfl ?_
    obtain ⟨q18, hc19, hf⟩ := bind_of hf
    refine j_callV (ws' := ([n_Mo g a q18 mo_y] : List va_W)) (As := []) (rest := []) (st2 := []) hE (fun l => c_Mo_next l g a (up2 mo_z 36 0 ((mo_z 36 0) + 1)) mo_y q18 hc19) cd_X12_next cv_X12_next ml_Mo_149 rfl rfl rfl (wg_Mo_0 _ _ _ _) (rg2 d (by decide) (by decide) (by decide) rfl rfl) [0] rfl rfl rfl (Nat.le_of_ble_eq_true rfl) rfl dX12_primary_50 ?_
    refine j_aload_n hE dX12_primary_53 rfl 0 rfl ?_
    obtain ⟨q20, hc21, hf⟩ := bind_of hf
    refine j_callV (ws' := ([n_Mo g a q20 mo_y] : List va_W)) (As := []) (rest := []) (st2 := []) hE (fun l => (hG _ _ _ hc21 l).1 rfl) cd_X12_expression cv_X12_expression ml_Mo_171 rfl rfl rfl (wg_Mo_0 _ _ _ _) (rg1 d (by decide)) [0] rfl rfl rfl (Nat.le_of_ble_eq_true rfl) rfl dX12_primary_54 ?_
    refine j_aload_n hE dX12_primary_57 rfl 0 rfl ?_
    refine j_get (v := .int (q20 32 0)) hE lg_Mo_140 0 rfl 0 (wg_Mo_0 g a q20 mo_y) rfl dX12_primary_58 ?_
    refine j_if_ne (tgt := 78) hE hf dX12_primary_61 (by decide) (fun c22 hf => ?_) (fun c22 hf => ?_)
    · refine j_aload_n hE dX12_primary_78 rfl 0 rfl ?_
      refine j_get (v := .int (q20 32 0)) hE lg_Mo_140 0 rfl 0 (wg_Mo_0 g a q20 mo_y) rfl dX12_primary_79 ?_
      refine j_if_eq (tgt := 86) hE hf dX12_primary_82 (by decide) (fun c23 hf => ?_) (fun c23 hf => ?_)
      · refine j_aload_n hE dX12_primary_86 rfl 0 rfl ?_
        refine j_dup hE dX12_primary_87 rfl ?_
        refine j_get (v := .int (q20 36 0)) hE lg_Mo_225 0 rfl 0 (wg_Mo_0 g a q20 mo_y) rfl dX12_primary_88 ?_
        refine j_iconst (v := 1) hE dX12_primary_91 (by decide) ?_
        refine j_isub hE dX12_primary_92 ?_
        refine j_put (v := .int ((q20 36 0) - 1)) (ws' := ([n_Mo g a (up2 q20 36 0 ((q20 36 0) - 1)) mo_y] : List va_W)) hE lp_Mo_225 0 rfl 0 (wg_Mo_0 g a q20 mo_y) rfl rfl (Nat.le_of_ble_eq_true rfl) (wp_Mo_36 g a q20 mo_y ((q20 36 0) - 1)) rfl dX12_primary_93 ?_
        refine j_aload_n hE dX12_primary_96 rfl 0 rfl ?_
        obtain ⟨q24, hc25, hf⟩ := bind_of hf
        refine j_callV (ws' := ([n_Mo g a q24 mo_y] : List va_W)) (As := []) (rest := []) (st2 := []) hE (fun l => c_Mo_next l g a (up2 q20 36 0 ((q20 36 0) - 1)) mo_y q24 hc25) cd_X12_next cv_X12_next ml_Mo_149 rfl rfl rfl (wg_Mo_0 _ _ _ _) (rg2 d (by decide) (by decide) (by decide) rfl rfl) [0] rfl rfl rfl (Nat.le_of_ble_eq_true rfl) rfl dX12_primary_97 ?_
        obtain rfl := Option.some.inj hf
        exact j_vret hE hq rfl rfl dX12_primary_100
      · obtain rfl := Option.some.inj hf
        exact j_vret hE hq rfl rfl dX12_primary_85
    · refine j_aload_n hE dX12_primary_64 rfl 0 rfl ?_
      refine j_bipush (v := 41) hE dX12_primary_65 (by decide) ?_
      obtain ⟨q26, hc27, hf⟩ := bind_of hf
      refine j_callV (ws' := ([n_Mo g a q20 mo_y] : List va_W)) (As := [.int 41]) (rest := []) (st2 := [.int q26]) hE (fun l => c_Mo_isSign l g a q20 mo_y 41 q26 hc27) cd_X12_isSign cv_X12_isSign ml_Mo_184 rfl rfl rfl (wg_Mo_0 _ _ _ _) (rg2 d (by decide) (by decide) (by decide) rfl rfl) [0] rfl rfl rfl (Nat.le_of_ble_eq_true rfl) rfl dX12_primary_67 ?_
      refine j_if_ne (tgt := 78) hE hf dX12_primary_70 (by decide) (fun c28 hf => ?_) (fun c28 hf => ?_)
      · refine j_aload_n hE dX12_primary_78 rfl 0 rfl ?_
        refine j_get (v := .int (q20 32 0)) hE lg_Mo_140 0 rfl 0 (wg_Mo_0 g a q20 mo_y) rfl dX12_primary_79 ?_
        refine j_if_eq (tgt := 86) hE hf dX12_primary_82 (by decide) (fun c29 hf => ?_) (fun c29 hf => ?_)
        · refine j_aload_n hE dX12_primary_86 rfl 0 rfl ?_
          refine j_dup hE dX12_primary_87 rfl ?_
          refine j_get (v := .int (q20 36 0)) hE lg_Mo_225 0 rfl 0 (wg_Mo_0 g a q20 mo_y) rfl dX12_primary_88 ?_
          refine j_iconst (v := 1) hE dX12_primary_91 (by decide) ?_
          refine j_isub hE dX12_primary_92 ?_
          refine j_put (v := .int ((q20 36 0) - 1)) (ws' := ([n_Mo g a (up2 q20 36 0 ((q20 36 0) - 1)) mo_y] : List va_W)) hE lp_Mo_225 0 rfl 0 (wg_Mo_0 g a q20 mo_y) rfl rfl (Nat.le_of_ble_eq_true rfl) (wp_Mo_36 g a q20 mo_y ((q20 36 0) - 1)) rfl dX12_primary_93 ?_
          refine j_aload_n hE dX12_primary_96 rfl 0 rfl ?_
          obtain ⟨q30, hc31, hf⟩ := bind_of hf
          refine j_callV (ws' := ([n_Mo g a q30 mo_y] : List va_W)) (As := []) (rest := []) (st2 := []) hE (fun l => c_Mo_next l g a (up2 q20 36 0 ((q20 36 0) - 1)) mo_y q30 hc31) cd_X12_next cv_X12_next ml_Mo_149 rfl rfl rfl (wg_Mo_0 _ _ _ _) (rg2 d (by decide) (by decide) (by decide) rfl rfl) [0] rfl rfl rfl (Nat.le_of_ble_eq_true rfl) rfl dX12_primary_97 ?_
          obtain rfl := Option.some.inj hf
          exact j_vret hE hq rfl rfl dX12_primary_100
        · obtain rfl := Option.some.inj hf
          exact j_vret hE hq rfl rfl dX12_primary_85
      · refine j_aload_n hE dX12_primary_73 rfl 0 rfl ?_
        refine j_iconst (v := 1) hE dX12_primary_74 (by decide) ?_
        obtain ⟨q32, hc33, hf⟩ := bind_of hf
        refine j_callV (ws' := ([n_Mo g a q32 mo_y] : List va_W)) (As := [.int 1]) (rest := []) (st2 := []) hE (fun l => c_Mo_wrong l g a q20 mo_y 1 q32 hc33) cd_X12_wrong cv_X12_wrong ml_Mo_146 rfl rfl rfl (wg_Mo_0 _ _ _ _) (rg2 d (by decide) (by decide) (by decide) rfl rfl) [0] rfl rfl rfl (Nat.le_of_ble_eq_true rfl) rfl dX12_primary_75 ?_
        refine j_aload_n hE dX12_primary_78 rfl 0 rfl ?_
        refine j_get (v := .int (q32 32 0)) hE lg_Mo_140 0 rfl 0 (wg_Mo_0 g a q32 mo_y) rfl dX12_primary_79 ?_
        refine j_if_eq (tgt := 86) hE hf dX12_primary_82 (by decide) (fun c34 hf => ?_) (fun c34 hf => ?_)
        · refine j_aload_n hE dX12_primary_86 rfl 0 rfl ?_
          refine j_dup hE dX12_primary_87 rfl ?_
          refine j_get (v := .int (q32 36 0)) hE lg_Mo_225 0 rfl 0 (wg_Mo_0 g a q32 mo_y) rfl dX12_primary_88 ?_
          refine j_iconst (v := 1) hE dX12_primary_91 (by decide) ?_
          refine j_isub hE dX12_primary_92 ?_
          refine j_put (v := .int ((q32 36 0) - 1)) (ws' := ([n_Mo g a (up2 q32 36 0 ((q32 36 0) - 1)) mo_y] : List va_W)) hE lp_Mo_225 0 rfl 0 (wg_Mo_0 g a q32 mo_y) rfl rfl (Nat.le_of_ble_eq_true rfl) (wp_Mo_36 g a q32 mo_y ((q32 36 0) - 1)) rfl dX12_primary_93 ?_
          refine j_aload_n hE dX12_primary_96 rfl 0 rfl ?_
          obtain ⟨q35, hc36, hf⟩ := bind_of hf
          refine j_callV (ws' := ([n_Mo g a q35 mo_y] : List va_W)) (As := []) (rest := []) (st2 := []) hE (fun l => c_Mo_next l g a (up2 q32 36 0 ((q32 36 0) - 1)) mo_y q35 hc36) cd_X12_next cv_X12_next ml_Mo_149 rfl rfl rfl (wg_Mo_0 _ _ _ _) (rg2 d (by decide) (by decide) (by decide) rfl rfl) [0] rfl rfl rfl (Nat.le_of_ble_eq_true rfl) rfl dX12_primary_97 ?_
          obtain rfl := Option.some.inj hf
          exact j_vret hE hq rfl rfl dX12_primary_100
        · obtain rfl := Option.some.inj hf
          exact j_vret hE hq rfl rfl dX12_primary_85
  · obtain rfl := Option.some.inj hf
    exact j_vret hE hq rfl rfl dX12_primary_38
set_option maxRecDepth 100000 in
theorem c_Mo_primary (l : Launch) (g : jG) (a : Nat → Nat) (mo_z : jZ) (mo_y : jY)  (G : Nat → jZ → Option jZ) (d : Nat) (hG : ∀ (k : Nat) (z z2 : jZ), G k z = some z2 → GC g a mo_y d k z z2) (res : jZ) (hf : f_Mo_primary G mo_z = some res) : MC l g yX12_primary cX12_primary 2 (none : Option Jvm.ClassFile.FieldType) (rmG (d + 1)) [.ref (a 0)] (([n_Mo g a mo_z mo_y] : List va_W)) none (([n_Mo g a res mo_y] : List va_W)) 0 0 := by
  refine MC_of (own := RX12) (lv := [(0, .ref (a 0))]) (by decide) rfl (Nat.le_of_ble_eq_true rfl) rfl rfl (fun E hE hq => ?_)
  unfold f_Mo_primary at hf
  refine j_aload_n hE dX12_primary_0 rfl 0 rfl ?_
  refine j_get (v := .int (mo_z 32 0)) hE lg_Mo_140 0 rfl 0 (wg_Mo_0 g a mo_z mo_y) rfl dX12_primary_1 ?_
  refine j_if_eq (tgt := 8) hE hf dX12_primary_4 (by decide) (fun c1 hf => ?_) (fun c1 hf => ?_)
  · refine j_aload_n hE dX12_primary_8 rfl 0 rfl ?_
    refine j_bipush (v := 40) hE dX12_primary_9 (by decide) ?_
    obtain ⟨q2, hc3, hf⟩ := bind_of hf
    refine j_callV (ws' := ([n_Mo g a mo_z mo_y] : List va_W)) (As := [.int 40]) (rest := []) (st2 := [.int q2]) hE (fun l => c_Mo_isSign l g a mo_z mo_y 40 q2 hc3) cd_X12_isSign cv_X12_isSign ml_Mo_184 rfl rfl rfl (wg_Mo_0 _ _ _ _) (rg2 d (by decide) (by decide) (by decide) rfl rfl) [0] rfl rfl rfl (Nat.le_of_ble_eq_true rfl) rfl dX12_primary_11 ?_
    refine j_if_eq (tgt := 101) hE hf dX12_primary_14 (by decide) (fun c4 hf => ?_) (fun c4 hf => ?_)
    · refine j_aload_n hE dX12_primary_101 rfl 0 rfl ?_
      refine j_get (v := .int (mo_z 30 0)) hE lg_Mo_106 0 rfl 0 (wg_Mo_0 g a mo_z mo_y) rfl dX12_primary_102 ?_
      refine j_iconst (v := 2) hE dX12_primary_105 (by decide) ?_
      refine j_icmp_ne (tgt := 113) hE hf dX12_primary_106 (by decide) (fun c5 hf => ?_) (fun c5 hf => ?_)
      · refine j_iconst (v := 0) hE dX12_primary_113 (by decide) ?_
        exact j_Mo_primary_114 E g a mo_y G d hG res hE hq mo_z 0 hf
      · refine j_iconst (v := 1) hE dX12_primary_109 (by decide) ?_
        refine j_goto (tgt := 114) hE dX12_primary_110 (by decide) ?_
        exact j_Mo_primary_114 E g a mo_y G d hG res hE hq mo_z 1 hf
    · refine j_aload_n hE dX12_primary_17 rfl 0 rfl ?_
      refine j_get (v := .int (mo_z 36 0)) hE lg_Mo_225 0 rfl 0 (wg_Mo_0 g a mo_z mo_y) rfl dX12_primary_18 ?_
      refine j_bipush (v := 8) hE dX12_primary_21 (by decide) ?_
      refine j_icmp_ne (tgt := 31) hE hf dX12_primary_23 (by decide) (fun c6 hf => ?_) (fun c6 hf => ?_)
      · exact j_Mo_primary_31 E g a mo_y G d hG res hE hq mo_z hf
      · refine j_aload_n hE dX12_primary_26 rfl 0 rfl ?_
        refine j_iconst (v := 2) hE dX12_primary_27 (by decide) ?_
        obtain ⟨q7, hc8, hf⟩ := bind_of hf
        refine j_callV (ws' := ([n_Mo g a q7 mo_y] : List va_W)) (As := [.int 2]) (rest := []) (st2 := []) hE (fun l => c_Mo_wrong l g a mo_z mo_y 2 q7 hc8) cd_X12_wrong cv_X12_wrong ml_Mo_146 rfl rfl rfl (wg_Mo_0 _ _ _ _) (rg2 d (by decide) (by decide) (by decide) rfl rfl) [0] rfl rfl rfl (Nat.le_of_ble_eq_true rfl) rfl dX12_primary_28 ?_
        exact j_Mo_primary_31 E g a mo_y G d hG res hE hq q7 hf
  · obtain rfl := Option.some.inj hf
    exact j_vret hE hq rfl rfl dX12_primary_7
def rm_Mo_lays : Room := { frames := 0, cells := 0, slots := 0, locals := 0 }
def f_Mo_lays_233    : Nat → jZ → Int32 → Option (jZ)
  | 0, _, _ => none
  | n + 1, mo_z, v1 => (if 64 ≤ v1 then some mo_z
    else (ix (64 + v1) 128).bind fun _ => (ix v1 128).bind fun _ => (ix (64 + v1) 128).bind fun _ => (ix v1 128).bind fun _ => f_Mo_lays_233  n (up2 (up2 mo_z 15 (Int32.toNatClampNeg v1) (mo_z 15 (Int32.toNatClampNeg (64 + v1)))) 16 (Int32.toNatClampNeg v1) (mo_z 16 (Int32.toNatClampNeg (64 + v1)))) (v1 + 1))
def f_Mo_lays_122    : Nat → jZ → Int32 → Option (jZ)
  | 0, _, _ => none
  | n + 1, mo_z, v1 => (if 12 ≤ v1 then f_Mo_lays_233 FU mo_z 0
    else (ix (12 + v1) 24).bind fun _ => (ix v1 24).bind fun _ => (ix (12 + v1) 24).bind fun _ => (ix v1 24).bind fun _ => (ix (12 + v1) 24).bind fun _ => (ix v1 24).bind fun _ => (ix (12 + v1) 24).bind fun _ => (ix v1 24).bind fun _ => (ix (12 + v1) 24).bind fun _ => (ix v1 24).bind fun _ => (ix (12 + v1) 24).bind fun _ => (ix v1 24).bind fun _ => (ix v1 12).bind fun _ => f_Mo_lays_122  n (up2 (up2 (up2 (up2 (up2 (up2 (up2 mo_z 8 (Int32.toNatClampNeg v1) (mo_z 8 (Int32.toNatClampNeg (12 + v1)))) 9 (Int32.toNatClampNeg v1) (mo_z 9 (Int32.toNatClampNeg (12 + v1)))) 10 (Int32.toNatClampNeg v1) (vp_nar .boolean (mo_z 10 (Int32.toNatClampNeg (12 + v1))))) 11 (Int32.toNatClampNeg v1) (mo_z 11 (Int32.toNatClampNeg (12 + v1)))) 12 (Int32.toNatClampNeg v1) (mo_z 12 (Int32.toNatClampNeg (12 + v1)))) 13 (Int32.toNatClampNeg v1) (mo_z 13 (Int32.toNatClampNeg (12 + v1)))) 14 (Int32.toNatClampNeg v1) 0) (v1 + 1))
def f_Mo_lays_93    : Nat → jZ → Int32 → Option (jZ)
  | 0, _, _ => none
  | n + 1, mo_z, v1 => (if 50 ≤ v1 then f_Mo_lays_122 FU mo_z 0
    else (ix (50 + v1) 100).bind fun _ => (ix v1 100).bind fun _ => f_Mo_lays_93  n (up2 mo_z 7 (Int32.toNatClampNeg v1) (mo_z 7 (Int32.toNatClampNeg (50 + v1)))) (v1 + 1))
def f_Mo_lays_52    : Nat → jZ → Int32 → Option (jZ)
  | 0, _, _ => none
  | n + 1, mo_z, v1 => (if 5 ≤ v1 then f_Mo_lays_93 FU mo_z 0
    else (ix (5 + v1) 10).bind fun _ => (ix v1 10).bind fun _ => (ix (5 + v1) 10).bind fun _ => (ix v1 10).bind fun _ => f_Mo_lays_52  n (up2 (up2 mo_z 5 (Int32.toNatClampNeg v1) (mo_z 5 (Int32.toNatClampNeg (5 + v1)))) 6 (Int32.toNatClampNeg v1) (mo_z 6 (Int32.toNatClampNeg (5 + v1)))) (v1 + 1))
def f_Mo_lays (mo_z : jZ)  : Option (jZ) := f_Mo_lays_52 FU (up2 (up2 (up2 (up2 (up2 (up2 (up2 mo_z 3 0 (mo_z 20 0)) 4 0 (mo_z 21 0)) 17 0 (mo_z 22 0)) 18 0 (mo_z 23 0)) 19 0 (mo_z 24 0)) 38 0 0) 39 0 (-1)) 0
set_option maxRecDepth 100000 in
theorem j_Mo_lays_233 (E : jT) (g : jG) (a : Nat → Nat) (mo_y : jY)  (res : jZ) (hE : jOk E g RX12 cX12_lays 2 (none : Option Jvm.ClassFile.FieldType) rm_Mo_lays) (hq : jEnd E g none (([n_Mo g a res mo_y] : List va_W)) 0 0)  : ∀ (n : Nat) (mo_z : jZ) (v1 : Int32), f_Mo_lays_233 n mo_z v1 = some res → J E g 0 0 (([n_Mo g a mo_z mo_y] : List va_W)) [(0, .ref (a 0)), (1, .int v1)] 233 [] := by
  intro n
  induction n with
  | zero =>
    intro mo_z v1 hf
    rw [f_Mo_lays_233] at hf
    cases hf
  | succ n ih =>
    intro mo_z v1 hf
    rw [f_Mo_lays_233] at hf
    refine j_iload_n hE dX12_lays_233 rfl 1 rfl ?_
    refine j_bipush (v := 64) hE dX12_lays_234 (by decide) ?_
    refine j_icmp_ge (tgt := 275) hE hf dX12_lays_236 (by decide) (fun c13 hf => ?_) (fun c13 hf => ?_)
    · obtain rfl := Option.some.inj hf
      exact j_vret hE hq rfl rfl dX12_lays_275
    · refine j_aload_n hE dX12_lays_239 rfl 0 rfl ?_
      refine j_get (v := .ref (a 12)) hE lg_Mo_46 0 rfl 0 (wg_Mo_0 g a mo_z mo_y) rfl dX12_lays_240 ?_
      refine j_iload_n hE dX12_lays_243 rfl 1 rfl ?_
      refine j_aload_n hE dX12_lays_244 rfl 0 rfl ?_
      refine j_get (v := .ref (a 12)) hE lg_Mo_46 0 rfl 0 (wg_Mo_0 g a mo_z mo_y) rfl dX12_lays_245 ?_
      refine j_bipush (v := 64) hE dX12_lays_248 (by decide) ?_
      refine j_iload_n hE dX12_lays_250 rfl 1 rfl ?_
      refine j_iadd hE dX12_lays_251 ?_
      refine j_iald hE hf 0 rfl 12 (wg_Mo_12 g a mo_z mo_y) dX12_lays_252 (fun hf => ?_)
      refine j_iast (ws' := ([n_Mo g a (up2 mo_z 15 (Int32.toNatClampNeg v1) (mo_z 15 (Int32.toNatClampNeg (64 + v1)))) mo_y] : List va_W)) hE hf 0 rfl 12 (wg_Mo_12 g a mo_z mo_y) (wa_Mo_12 g a mo_z mo_y (Int32.toNatClampNeg v1) (mo_z 15 (Int32.toNatClampNeg (64 + v1)))) rfl dX12_lays_253 (fun hf => ?_)
      refine j_aload_n hE dX12_lays_254 rfl 0 rfl ?_
      refine j_get (v := .ref (a 13)) hE lg_Mo_49 0 rfl 0 (wg_Mo_0 g a (up2 mo_z 15 (Int32.toNatClampNeg v1) (mo_z 15 (Int32.toNatClampNeg (64 + v1)))) mo_y) rfl dX12_lays_255 ?_
      refine j_iload_n hE dX12_lays_258 rfl 1 rfl ?_
      refine j_aload_n hE dX12_lays_259 rfl 0 rfl ?_
      refine j_get (v := .ref (a 13)) hE lg_Mo_49 0 rfl 0 (wg_Mo_0 g a (up2 mo_z 15 (Int32.toNatClampNeg v1) (mo_z 15 (Int32.toNatClampNeg (64 + v1)))) mo_y) rfl dX12_lays_260 ?_
      refine j_bipush (v := 64) hE dX12_lays_263 (by decide) ?_
      refine j_iload_n hE dX12_lays_265 rfl 1 rfl ?_
      refine j_iadd hE dX12_lays_266 ?_
      refine j_iald hE hf 0 rfl 13 (wg_Mo_13 g a (up2 mo_z 15 (Int32.toNatClampNeg v1) (mo_z 15 (Int32.toNatClampNeg (64 + v1)))) mo_y) dX12_lays_267 (fun hf => ?_)
      refine j_st (st' := [.int (mo_z 16 (Int32.toNatClampNeg (64 + v1))), .int v1, .ref (a 13)]) rfl ?_
      refine j_iast (ws' := ([n_Mo g a (up2 (up2 mo_z 15 (Int32.toNatClampNeg v1) (mo_z 15 (Int32.toNatClampNeg (64 + v1)))) 16 (Int32.toNatClampNeg v1) (mo_z 16 (Int32.toNatClampNeg (64 + v1)))) mo_y] : List va_W)) hE hf 0 rfl 13 (wg_Mo_13 g a (up2 mo_z 15 (Int32.toNatClampNeg v1) (mo_z 15 (Int32.toNatClampNeg (64 + v1)))) mo_y) (wa_Mo_13 g a (up2 mo_z 15 (Int32.toNatClampNeg v1) (mo_z 15 (Int32.toNatClampNeg (64 + v1)))) mo_y (Int32.toNatClampNeg v1) (mo_z 16 (Int32.toNatClampNeg (64 + v1)))) rfl dX12_lays_268 (fun hf => ?_)
      refine j_iinc (v := (v1 + 1)) (lv' := [(1, .int (v1 + 1)), (0, .ref (a 0))]) hE dX12_lays_269 1 rfl rfl (by decide) rfl ?_
      refine j_goto (tgt := 233) hE dX12_lays_272 (by decide) ?_
      exact j_sub [1, 0] rfl (ih (up2 (up2 mo_z 15 (Int32.toNatClampNeg v1) (mo_z 15 (Int32.toNatClampNeg (64 + v1)))) 16 (Int32.toNatClampNeg v1) (mo_z 16 (Int32.toNatClampNeg (64 + v1)))) (v1 + 1) hf)
set_option maxRecDepth 100000 in
theorem j_Mo_lays_122 (E : jT) (g : jG) (a : Nat → Nat) (mo_y : jY)  (res : jZ) (hE : jOk E g RX12 cX12_lays 2 (none : Option Jvm.ClassFile.FieldType) rm_Mo_lays) (hq : jEnd E g none (([n_Mo g a res mo_y] : List va_W)) 0 0)  : ∀ (n : Nat) (mo_z : jZ) (v1 : Int32), f_Mo_lays_122 n mo_z v1 = some res → J E g 0 0 (([n_Mo g a mo_z mo_y] : List va_W)) [(0, .ref (a 0)), (1, .int v1)] 122 [] := by
  intro n
  induction n with
  | zero =>
    intro mo_z v1 hf
    rw [f_Mo_lays_122] at hf
    cases hf
  | succ n ih =>
    intro mo_z v1 hf
    rw [f_Mo_lays_122] at hf
    refine j_iload_n hE dX12_lays_122 rfl 1 rfl ?_
    refine j_bipush (v := 12) hE dX12_lays_123 (by decide) ?_
    refine j_icmp_ge (tgt := 231) hE hf dX12_lays_125 (by decide) (fun c6 hf => ?_) (fun c6 hf => ?_)
    · refine j_iconst (v := 0) hE dX12_lays_231 (by decide) ?_
      refine j_istore_n (lv' := [(1, .int 0), (0, .ref (a 0))]) hE dX12_lays_232 rfl (by decide) rfl ?_
      exact j_sub [1, 0] rfl (j_Mo_lays_233 E g a mo_y res hE hq FU mo_z 0 hf)
    · refine j_aload_n hE dX12_lays_128 rfl 0 rfl ?_
      refine j_get (v := .ref (a 5)) hE lg_Mo_24 0 rfl 0 (wg_Mo_0 g a mo_z mo_y) rfl dX12_lays_129 ?_
      refine j_iload_n hE dX12_lays_132 rfl 1 rfl ?_
      refine j_aload_n hE dX12_lays_133 rfl 0 rfl ?_
      refine j_get (v := .ref (a 5)) hE lg_Mo_24 0 rfl 0 (wg_Mo_0 g a mo_z mo_y) rfl dX12_lays_134 ?_
      refine j_bipush (v := 12) hE dX12_lays_137 (by decide) ?_
      refine j_iload_n hE dX12_lays_139 rfl 1 rfl ?_
      refine j_iadd hE dX12_lays_140 ?_
      refine j_iald hE hf 0 rfl 5 (wg_Mo_5 g a mo_z mo_y) dX12_lays_141 (fun hf => ?_)
      refine j_iast (ws' := ([n_Mo g a (up2 mo_z 8 (Int32.toNatClampNeg v1) (mo_z 8 (Int32.toNatClampNeg (12 + v1)))) mo_y] : List va_W)) hE hf 0 rfl 5 (wg_Mo_5 g a mo_z mo_y) (wa_Mo_5 g a mo_z mo_y (Int32.toNatClampNeg v1) (mo_z 8 (Int32.toNatClampNeg (12 + v1)))) rfl dX12_lays_142 (fun hf => ?_)
      refine j_aload_n hE dX12_lays_143 rfl 0 rfl ?_
      refine j_get (v := .ref (a 6)) hE lg_Mo_27 0 rfl 0 (wg_Mo_0 g a (up2 mo_z 8 (Int32.toNatClampNeg v1) (mo_z 8 (Int32.toNatClampNeg (12 + v1)))) mo_y) rfl dX12_lays_144 ?_
      refine j_iload_n hE dX12_lays_147 rfl 1 rfl ?_
      refine j_aload_n hE dX12_lays_148 rfl 0 rfl ?_
      refine j_get (v := .ref (a 6)) hE lg_Mo_27 0 rfl 0 (wg_Mo_0 g a (up2 mo_z 8 (Int32.toNatClampNeg v1) (mo_z 8 (Int32.toNatClampNeg (12 + v1)))) mo_y) rfl dX12_lays_149 ?_
      refine j_bipush (v := 12) hE dX12_lays_152 (by decide) ?_
      refine j_iload_n hE dX12_lays_154 rfl 1 rfl ?_
      refine j_iadd hE dX12_lays_155 ?_
      refine j_iald hE hf 0 rfl 6 (wg_Mo_6 g a (up2 mo_z 8 (Int32.toNatClampNeg v1) (mo_z 8 (Int32.toNatClampNeg (12 + v1)))) mo_y) dX12_lays_156 (fun hf => ?_)
      refine j_st (st' := [.int (mo_z 9 (Int32.toNatClampNeg (12 + v1))), .int v1, .ref (a 6)]) rfl ?_
      refine j_iast (ws' := ([n_Mo g a (up2 (up2 mo_z 8 (Int32.toNatClampNeg v1) (mo_z 8 (Int32.toNatClampNeg (12 + v1)))) 9 (Int32.toNatClampNeg v1) (mo_z 9 (Int32.toNatClampNeg (12 + v1)))) mo_y] : List va_W)) hE hf 0 rfl 6 (wg_Mo_6 g a (up2 mo_z 8 (Int32.toNatClampNeg v1) (mo_z 8 (Int32.toNatClampNeg (12 + v1)))) mo_y) (wa_Mo_6 g a (up2 mo_z 8 (Int32.toNatClampNeg v1) (mo_z 8 (Int32.toNatClampNeg (12 + v1)))) mo_y (Int32.toNatClampNeg v1) (mo_z 9 (Int32.toNatClampNeg (12 + v1)))) rfl dX12_lays_157 (fun hf => ?_)
      refine j_aload_n hE dX12_lays_158 rfl 0 rfl ?_
      refine j_get (v := .ref (a 7)) hE lg_Mo_30 0 rfl 0 (wg_Mo_0 g a (up2 (up2 mo_z 8 (Int32.toNatClampNeg v1) (mo_z 8 (Int32.toNatClampNeg (12 + v1)))) 9 (Int32.toNatClampNeg v1) (mo_z 9 (Int32.toNatClampNeg (12 + v1)))) mo_y) rfl dX12_lays_159 ?_
      refine j_iload_n hE dX12_lays_162 rfl 1 rfl ?_
      refine j_aload_n hE dX12_lays_163 rfl 0 rfl ?_
      refine j_get (v := .ref (a 7)) hE lg_Mo_30 0 rfl 0 (wg_Mo_0 g a (up2 (up2 mo_z 8 (Int32.toNatClampNeg v1) (mo_z 8 (Int32.toNatClampNeg (12 + v1)))) 9 (Int32.toNatClampNeg v1) (mo_z 9 (Int32.toNatClampNeg (12 + v1)))) mo_y) rfl dX12_lays_164 ?_
      refine j_bipush (v := 12) hE dX12_lays_167 (by decide) ?_
      refine j_iload_n hE dX12_lays_169 rfl 1 rfl ?_
      refine j_iadd hE dX12_lays_170 ?_
      refine j_zald hE hf 0 rfl 7 (wg_Mo_7 g a (up2 (up2 mo_z 8 (Int32.toNatClampNeg v1) (mo_z 8 (Int32.toNatClampNeg (12 + v1)))) 9 (Int32.toNatClampNeg v1) (mo_z 9 (Int32.toNatClampNeg (12 + v1)))) mo_y) dX12_lays_171 (fun hf => ?_)
      refine j_st (st' := [.int (mo_z 10 (Int32.toNatClampNeg (12 + v1))), .int v1, .ref (a 7)]) rfl ?_
      refine j_zast (ws' := ([n_Mo g a (up2 (up2 (up2 mo_z 8 (Int32.toNatClampNeg v1) (mo_z 8 (Int32.toNatClampNeg (12 + v1)))) 9 (Int32.toNatClampNeg v1) (mo_z 9 (Int32.toNatClampNeg (12 + v1)))) 10 (Int32.toNatClampNeg v1) (vp_nar .boolean (mo_z 10 (Int32.toNatClampNeg (12 + v1))))) mo_y] : List va_W)) hE hf 0 rfl 7 (wg_Mo_7 g a (up2 (up2 mo_z 8 (Int32.toNatClampNeg v1) (mo_z 8 (Int32.toNatClampNeg (12 + v1)))) 9 (Int32.toNatClampNeg v1) (mo_z 9 (Int32.toNatClampNeg (12 + v1)))) mo_y) (wa_Mo_7 g a (up2 (up2 mo_z 8 (Int32.toNatClampNeg v1) (mo_z 8 (Int32.toNatClampNeg (12 + v1)))) 9 (Int32.toNatClampNeg v1) (mo_z 9 (Int32.toNatClampNeg (12 + v1)))) mo_y (Int32.toNatClampNeg v1) (vp_nar .boolean (mo_z 10 (Int32.toNatClampNeg (12 + v1))))) rfl dX12_lays_172 (fun hf => ?_)
      refine j_aload_n hE dX12_lays_173 rfl 0 rfl ?_
      refine j_get (v := .ref (a 8)) hE lg_Mo_34 0 rfl 0 (wg_Mo_0 g a (up2 (up2 (up2 mo_z 8 (Int32.toNatClampNeg v1) (mo_z 8 (Int32.toNatClampNeg (12 + v1)))) 9 (Int32.toNatClampNeg v1) (mo_z 9 (Int32.toNatClampNeg (12 + v1)))) 10 (Int32.toNatClampNeg v1) (vp_nar .boolean (mo_z 10 (Int32.toNatClampNeg (12 + v1))))) mo_y) rfl dX12_lays_174 ?_
      refine j_iload_n hE dX12_lays_177 rfl 1 rfl ?_
      refine j_aload_n hE dX12_lays_178 rfl 0 rfl ?_
      refine j_get (v := .ref (a 8)) hE lg_Mo_34 0 rfl 0 (wg_Mo_0 g a (up2 (up2 (up2 mo_z 8 (Int32.toNatClampNeg v1) (mo_z 8 (Int32.toNatClampNeg (12 + v1)))) 9 (Int32.toNatClampNeg v1) (mo_z 9 (Int32.toNatClampNeg (12 + v1)))) 10 (Int32.toNatClampNeg v1) (vp_nar .boolean (mo_z 10 (Int32.toNatClampNeg (12 + v1))))) mo_y) rfl dX12_lays_179 ?_
      refine j_bipush (v := 12) hE dX12_lays_182 (by decide) ?_
      refine j_iload_n hE dX12_lays_184 rfl 1 rfl ?_
      refine j_iadd hE dX12_lays_185 ?_
      refine j_iald hE hf 0 rfl 8 (wg_Mo_8 g a (up2 (up2 (up2 mo_z 8 (Int32.toNatClampNeg v1) (mo_z 8 (Int32.toNatClampNeg (12 + v1)))) 9 (Int32.toNatClampNeg v1) (mo_z 9 (Int32.toNatClampNeg (12 + v1)))) 10 (Int32.toNatClampNeg v1) (vp_nar .boolean (mo_z 10 (Int32.toNatClampNeg (12 + v1))))) mo_y) dX12_lays_186 (fun hf => ?_)
      refine j_st (st' := [.int (mo_z 11 (Int32.toNatClampNeg (12 + v1))), .int v1, .ref (a 8)]) rfl ?_
      refine j_iast (ws' := ([n_Mo g a (up2 (up2 (up2 (up2 mo_z 8 (Int32.toNatClampNeg v1) (mo_z 8 (Int32.toNatClampNeg (12 + v1)))) 9 (Int32.toNatClampNeg v1) (mo_z 9 (Int32.toNatClampNeg (12 + v1)))) 10 (Int32.toNatClampNeg v1) (vp_nar .boolean (mo_z 10 (Int32.toNatClampNeg (12 + v1))))) 11 (Int32.toNatClampNeg v1) (mo_z 11 (Int32.toNatClampNeg (12 + v1)))) mo_y] : List va_W)) hE hf 0 rfl 8 (wg_Mo_8 g a (up2 (up2 (up2 mo_z 8 (Int32.toNatClampNeg v1) (mo_z 8 (Int32.toNatClampNeg (12 + v1)))) 9 (Int32.toNatClampNeg v1) (mo_z 9 (Int32.toNatClampNeg (12 + v1)))) 10 (Int32.toNatClampNeg v1) (vp_nar .boolean (mo_z 10 (Int32.toNatClampNeg (12 + v1))))) mo_y) (wa_Mo_8 g a (up2 (up2 (up2 mo_z 8 (Int32.toNatClampNeg v1) (mo_z 8 (Int32.toNatClampNeg (12 + v1)))) 9 (Int32.toNatClampNeg v1) (mo_z 9 (Int32.toNatClampNeg (12 + v1)))) 10 (Int32.toNatClampNeg v1) (vp_nar .boolean (mo_z 10 (Int32.toNatClampNeg (12 + v1))))) mo_y (Int32.toNatClampNeg v1) (mo_z 11 (Int32.toNatClampNeg (12 + v1)))) rfl dX12_lays_187 (fun hf => ?_)
      refine j_aload_n hE dX12_lays_188 rfl 0 rfl ?_
      refine j_get (v := .ref (a 9)) hE lg_Mo_37 0 rfl 0 (wg_Mo_0 g a (up2 (up2 (up2 (up2 mo_z 8 (Int32.toNatClampNeg v1) (mo_z 8 (Int32.toNatClampNeg (12 + v1)))) 9 (Int32.toNatClampNeg v1) (mo_z 9 (Int32.toNatClampNeg (12 + v1)))) 10 (Int32.toNatClampNeg v1) (vp_nar .boolean (mo_z 10 (Int32.toNatClampNeg (12 + v1))))) 11 (Int32.toNatClampNeg v1) (mo_z 11 (Int32.toNatClampNeg (12 + v1)))) mo_y) rfl dX12_lays_189 ?_
      refine j_iload_n hE dX12_lays_192 rfl 1 rfl ?_
      refine j_aload_n hE dX12_lays_193 rfl 0 rfl ?_
      refine j_get (v := .ref (a 9)) hE lg_Mo_37 0 rfl 0 (wg_Mo_0 g a (up2 (up2 (up2 (up2 mo_z 8 (Int32.toNatClampNeg v1) (mo_z 8 (Int32.toNatClampNeg (12 + v1)))) 9 (Int32.toNatClampNeg v1) (mo_z 9 (Int32.toNatClampNeg (12 + v1)))) 10 (Int32.toNatClampNeg v1) (vp_nar .boolean (mo_z 10 (Int32.toNatClampNeg (12 + v1))))) 11 (Int32.toNatClampNeg v1) (mo_z 11 (Int32.toNatClampNeg (12 + v1)))) mo_y) rfl dX12_lays_194 ?_
      refine j_bipush (v := 12) hE dX12_lays_197 (by decide) ?_
      refine j_iload_n hE dX12_lays_199 rfl 1 rfl ?_
      refine j_iadd hE dX12_lays_200 ?_
      refine j_iald hE hf 0 rfl 9 (wg_Mo_9 g a (up2 (up2 (up2 (up2 mo_z 8 (Int32.toNatClampNeg v1) (mo_z 8 (Int32.toNatClampNeg (12 + v1)))) 9 (Int32.toNatClampNeg v1) (mo_z 9 (Int32.toNatClampNeg (12 + v1)))) 10 (Int32.toNatClampNeg v1) (vp_nar .boolean (mo_z 10 (Int32.toNatClampNeg (12 + v1))))) 11 (Int32.toNatClampNeg v1) (mo_z 11 (Int32.toNatClampNeg (12 + v1)))) mo_y) dX12_lays_201 (fun hf => ?_)
      refine j_st (st' := [.int (mo_z 12 (Int32.toNatClampNeg (12 + v1))), .int v1, .ref (a 9)]) rfl ?_
      refine j_iast (ws' := ([n_Mo g a (up2 (up2 (up2 (up2 (up2 mo_z 8 (Int32.toNatClampNeg v1) (mo_z 8 (Int32.toNatClampNeg (12 + v1)))) 9 (Int32.toNatClampNeg v1) (mo_z 9 (Int32.toNatClampNeg (12 + v1)))) 10 (Int32.toNatClampNeg v1) (vp_nar .boolean (mo_z 10 (Int32.toNatClampNeg (12 + v1))))) 11 (Int32.toNatClampNeg v1) (mo_z 11 (Int32.toNatClampNeg (12 + v1)))) 12 (Int32.toNatClampNeg v1) (mo_z 12 (Int32.toNatClampNeg (12 + v1)))) mo_y] : List va_W)) hE hf 0 rfl 9 (wg_Mo_9 g a (up2 (up2 (up2 (up2 mo_z 8 (Int32.toNatClampNeg v1) (mo_z 8 (Int32.toNatClampNeg (12 + v1)))) 9 (Int32.toNatClampNeg v1) (mo_z 9 (Int32.toNatClampNeg (12 + v1)))) 10 (Int32.toNatClampNeg v1) (vp_nar .boolean (mo_z 10 (Int32.toNatClampNeg (12 + v1))))) 11 (Int32.toNatClampNeg v1) (mo_z 11 (Int32.toNatClampNeg (12 + v1)))) mo_y) (wa_Mo_9 g a (up2 (up2 (up2 (up2 mo_z 8 (Int32.toNatClampNeg v1) (mo_z 8 (Int32.toNatClampNeg (12 + v1)))) 9 (Int32.toNatClampNeg v1) (mo_z 9 (Int32.toNatClampNeg (12 + v1)))) 10 (Int32.toNatClampNeg v1) (vp_nar .boolean (mo_z 10 (Int32.toNatClampNeg (12 + v1))))) 11 (Int32.toNatClampNeg v1) (mo_z 11 (Int32.toNatClampNeg (12 + v1)))) mo_y (Int32.toNatClampNeg v1) (mo_z 12 (Int32.toNatClampNeg (12 + v1)))) rfl dX12_lays_202 (fun hf => ?_)
      refine j_aload_n hE dX12_lays_203 rfl 0 rfl ?_
      refine j_get (v := .ref (a 10)) hE lg_Mo_40 0 rfl 0 (wg_Mo_0 g a (up2 (up2 (up2 (up2 (up2 mo_z 8 (Int32.toNatClampNeg v1) (mo_z 8 (Int32.toNatClampNeg (12 + v1)))) 9 (Int32.toNatClampNeg v1) (mo_z 9 (Int32.toNatClampNeg (12 + v1)))) 10 (Int32.toNatClampNeg v1) (vp_nar .boolean (mo_z 10 (Int32.toNatClampNeg (12 + v1))))) 11 (Int32.toNatClampNeg v1) (mo_z 11 (Int32.toNatClampNeg (12 + v1)))) 12 (Int32.toNatClampNeg v1) (mo_z 12 (Int32.toNatClampNeg (12 + v1)))) mo_y) rfl dX12_lays_204 ?_
      refine j_iload_n hE dX12_lays_207 rfl 1 rfl ?_
      refine j_aload_n hE dX12_lays_208 rfl 0 rfl ?_
      refine j_get (v := .ref (a 10)) hE lg_Mo_40 0 rfl 0 (wg_Mo_0 g a (up2 (up2 (up2 (up2 (up2 mo_z 8 (Int32.toNatClampNeg v1) (mo_z 8 (Int32.toNatClampNeg (12 + v1)))) 9 (Int32.toNatClampNeg v1) (mo_z 9 (Int32.toNatClampNeg (12 + v1)))) 10 (Int32.toNatClampNeg v1) (vp_nar .boolean (mo_z 10 (Int32.toNatClampNeg (12 + v1))))) 11 (Int32.toNatClampNeg v1) (mo_z 11 (Int32.toNatClampNeg (12 + v1)))) 12 (Int32.toNatClampNeg v1) (mo_z 12 (Int32.toNatClampNeg (12 + v1)))) mo_y) rfl dX12_lays_209 ?_
      refine j_bipush (v := 12) hE dX12_lays_212 (by decide) ?_
      refine j_iload_n hE dX12_lays_214 rfl 1 rfl ?_
      refine j_iadd hE dX12_lays_215 ?_
      refine j_iald hE hf 0 rfl 10 (wg_Mo_10 g a (up2 (up2 (up2 (up2 (up2 mo_z 8 (Int32.toNatClampNeg v1) (mo_z 8 (Int32.toNatClampNeg (12 + v1)))) 9 (Int32.toNatClampNeg v1) (mo_z 9 (Int32.toNatClampNeg (12 + v1)))) 10 (Int32.toNatClampNeg v1) (vp_nar .boolean (mo_z 10 (Int32.toNatClampNeg (12 + v1))))) 11 (Int32.toNatClampNeg v1) (mo_z 11 (Int32.toNatClampNeg (12 + v1)))) 12 (Int32.toNatClampNeg v1) (mo_z 12 (Int32.toNatClampNeg (12 + v1)))) mo_y) dX12_lays_216 (fun hf => ?_)
      refine j_st (st' := [.int (mo_z 13 (Int32.toNatClampNeg (12 + v1))), .int v1, .ref (a 10)]) rfl ?_
      refine j_iast (ws' := ([n_Mo g a (up2 (up2 (up2 (up2 (up2 (up2 mo_z 8 (Int32.toNatClampNeg v1) (mo_z 8 (Int32.toNatClampNeg (12 + v1)))) 9 (Int32.toNatClampNeg v1) (mo_z 9 (Int32.toNatClampNeg (12 + v1)))) 10 (Int32.toNatClampNeg v1) (vp_nar .boolean (mo_z 10 (Int32.toNatClampNeg (12 + v1))))) 11 (Int32.toNatClampNeg v1) (mo_z 11 (Int32.toNatClampNeg (12 + v1)))) 12 (Int32.toNatClampNeg v1) (mo_z 12 (Int32.toNatClampNeg (12 + v1)))) 13 (Int32.toNatClampNeg v1) (mo_z 13 (Int32.toNatClampNeg (12 + v1)))) mo_y] : List va_W)) hE hf 0 rfl 10 (wg_Mo_10 g a (up2 (up2 (up2 (up2 (up2 mo_z 8 (Int32.toNatClampNeg v1) (mo_z 8 (Int32.toNatClampNeg (12 + v1)))) 9 (Int32.toNatClampNeg v1) (mo_z 9 (Int32.toNatClampNeg (12 + v1)))) 10 (Int32.toNatClampNeg v1) (vp_nar .boolean (mo_z 10 (Int32.toNatClampNeg (12 + v1))))) 11 (Int32.toNatClampNeg v1) (mo_z 11 (Int32.toNatClampNeg (12 + v1)))) 12 (Int32.toNatClampNeg v1) (mo_z 12 (Int32.toNatClampNeg (12 + v1)))) mo_y) (wa_Mo_10 g a (up2 (up2 (up2 (up2 (up2 mo_z 8 (Int32.toNatClampNeg v1) (mo_z 8 (Int32.toNatClampNeg (12 + v1)))) 9 (Int32.toNatClampNeg v1) (mo_z 9 (Int32.toNatClampNeg (12 + v1)))) 10 (Int32.toNatClampNeg v1) (vp_nar .boolean (mo_z 10 (Int32.toNatClampNeg (12 + v1))))) 11 (Int32.toNatClampNeg v1) (mo_z 11 (Int32.toNatClampNeg (12 + v1)))) 12 (Int32.toNatClampNeg v1) (mo_z 12 (Int32.toNatClampNeg (12 + v1)))) mo_y (Int32.toNatClampNeg v1) (mo_z 13 (Int32.toNatClampNeg (12 + v1)))) rfl dX12_lays_217 (fun hf => ?_)
      refine j_aload_n hE dX12_lays_218 rfl 0 rfl ?_
      refine j_get (v := .ref (a 11)) hE lg_Mo_43 0 rfl 0 (wg_Mo_0 g a (up2 (up2 (up2 (up2 (up2 (up2 mo_z 8 (Int32.toNatClampNeg v1) (mo_z 8 (Int32.toNatClampNeg (12 + v1)))) 9 (Int32.toNatClampNeg v1) (mo_z 9 (Int32.toNatClampNeg (12 + v1)))) 10 (Int32.toNatClampNeg v1) (vp_nar .boolean (mo_z 10 (Int32.toNatClampNeg (12 + v1))))) 11 (Int32.toNatClampNeg v1) (mo_z 11 (Int32.toNatClampNeg (12 + v1)))) 12 (Int32.toNatClampNeg v1) (mo_z 12 (Int32.toNatClampNeg (12 + v1)))) 13 (Int32.toNatClampNeg v1) (mo_z 13 (Int32.toNatClampNeg (12 + v1)))) mo_y) rfl dX12_lays_219 ?_
      refine j_iload_n hE dX12_lays_222 rfl 1 rfl ?_
      refine j_iconst (v := 0) hE dX12_lays_223 (by decide) ?_
      refine j_iast (ws' := ([n_Mo g a (up2 (up2 (up2 (up2 (up2 (up2 (up2 mo_z 8 (Int32.toNatClampNeg v1) (mo_z 8 (Int32.toNatClampNeg (12 + v1)))) 9 (Int32.toNatClampNeg v1) (mo_z 9 (Int32.toNatClampNeg (12 + v1)))) 10 (Int32.toNatClampNeg v1) (vp_nar .boolean (mo_z 10 (Int32.toNatClampNeg (12 + v1))))) 11 (Int32.toNatClampNeg v1) (mo_z 11 (Int32.toNatClampNeg (12 + v1)))) 12 (Int32.toNatClampNeg v1) (mo_z 12 (Int32.toNatClampNeg (12 + v1)))) 13 (Int32.toNatClampNeg v1) (mo_z 13 (Int32.toNatClampNeg (12 + v1)))) 14 (Int32.toNatClampNeg v1) 0) mo_y] : List va_W)) hE hf 0 rfl 11 (wg_Mo_11 g a (up2 (up2 (up2 (up2 (up2 (up2 mo_z 8 (Int32.toNatClampNeg v1) (mo_z 8 (Int32.toNatClampNeg (12 + v1)))) 9 (Int32.toNatClampNeg v1) (mo_z 9 (Int32.toNatClampNeg (12 + v1)))) 10 (Int32.toNatClampNeg v1) (vp_nar .boolean (mo_z 10 (Int32.toNatClampNeg (12 + v1))))) 11 (Int32.toNatClampNeg v1) (mo_z 11 (Int32.toNatClampNeg (12 + v1)))) 12 (Int32.toNatClampNeg v1) (mo_z 12 (Int32.toNatClampNeg (12 + v1)))) 13 (Int32.toNatClampNeg v1) (mo_z 13 (Int32.toNatClampNeg (12 + v1)))) mo_y) (wa_Mo_11 g a (up2 (up2 (up2 (up2 (up2 (up2 mo_z 8 (Int32.toNatClampNeg v1) (mo_z 8 (Int32.toNatClampNeg (12 + v1)))) 9 (Int32.toNatClampNeg v1) (mo_z 9 (Int32.toNatClampNeg (12 + v1)))) 10 (Int32.toNatClampNeg v1) (vp_nar .boolean (mo_z 10 (Int32.toNatClampNeg (12 + v1))))) 11 (Int32.toNatClampNeg v1) (mo_z 11 (Int32.toNatClampNeg (12 + v1)))) 12 (Int32.toNatClampNeg v1) (mo_z 12 (Int32.toNatClampNeg (12 + v1)))) 13 (Int32.toNatClampNeg v1) (mo_z 13 (Int32.toNatClampNeg (12 + v1)))) mo_y (Int32.toNatClampNeg v1) 0) rfl dX12_lays_224 (fun hf => ?_)
      refine j_iinc (v := (v1 + 1)) (lv' := [(1, .int (v1 + 1)), (0, .ref (a 0))]) hE dX12_lays_225 1 rfl rfl (by decide) rfl ?_
      refine j_goto (tgt := 122) hE dX12_lays_228 (by decide) ?_
      exact j_sub [1, 0] rfl (ih (up2 (up2 (up2 (up2 (up2 (up2 (up2 mo_z 8 (Int32.toNatClampNeg v1) (mo_z 8 (Int32.toNatClampNeg (12 + v1)))) 9 (Int32.toNatClampNeg v1) (mo_z 9 (Int32.toNatClampNeg (12 + v1)))) 10 (Int32.toNatClampNeg v1) (vp_nar .boolean (mo_z 10 (Int32.toNatClampNeg (12 + v1))))) 11 (Int32.toNatClampNeg v1) (mo_z 11 (Int32.toNatClampNeg (12 + v1)))) 12 (Int32.toNatClampNeg v1) (mo_z 12 (Int32.toNatClampNeg (12 + v1)))) 13 (Int32.toNatClampNeg v1) (mo_z 13 (Int32.toNatClampNeg (12 + v1)))) 14 (Int32.toNatClampNeg v1) 0) (v1 + 1) hf)
set_option maxRecDepth 100000 in
theorem j_Mo_lays_93 (E : jT) (g : jG) (a : Nat → Nat) (mo_y : jY)  (res : jZ) (hE : jOk E g RX12 cX12_lays 2 (none : Option Jvm.ClassFile.FieldType) rm_Mo_lays) (hq : jEnd E g none (([n_Mo g a res mo_y] : List va_W)) 0 0)  : ∀ (n : Nat) (mo_z : jZ) (v1 : Int32), f_Mo_lays_93 n mo_z v1 = some res → J E g 0 0 (([n_Mo g a mo_z mo_y] : List va_W)) [(0, .ref (a 0)), (1, .int v1)] 93 [] := by
  intro n
  induction n with
  | zero =>
    intro mo_z v1 hf
    rw [f_Mo_lays_93] at hf
    cases hf
  | succ n ih =>
    intro mo_z v1 hf
    rw [f_Mo_lays_93] at hf
    refine j_iload_n hE dX12_lays_93 rfl 1 rfl ?_
    refine j_bipush (v := 50) hE dX12_lays_94 (by decide) ?_
    refine j_icmp_ge (tgt := 120) hE hf dX12_lays_96 (by decide) (fun c4 hf => ?_) (fun c4 hf => ?_)
    · refine j_iconst (v := 0) hE dX12_lays_120 (by decide) ?_
      refine j_istore_n (lv' := [(1, .int 0), (0, .ref (a 0))]) hE dX12_lays_121 rfl (by decide) rfl ?_
      exact j_sub [1, 0] rfl (j_Mo_lays_122 E g a mo_y res hE hq FU mo_z 0 hf)
    · refine j_aload_n hE dX12_lays_99 rfl 0 rfl ?_
      refine j_get (v := .ref (a 4)) hE lg_Mo_21 0 rfl 0 (wg_Mo_0 g a mo_z mo_y) rfl dX12_lays_100 ?_
      refine j_iload_n hE dX12_lays_103 rfl 1 rfl ?_
      refine j_aload_n hE dX12_lays_104 rfl 0 rfl ?_
      refine j_get (v := .ref (a 4)) hE lg_Mo_21 0 rfl 0 (wg_Mo_0 g a mo_z mo_y) rfl dX12_lays_105 ?_
      refine j_bipush (v := 50) hE dX12_lays_108 (by decide) ?_
      refine j_iload_n hE dX12_lays_110 rfl 1 rfl ?_
      refine j_iadd hE dX12_lays_111 ?_
      refine j_iald hE hf 0 rfl 4 (wg_Mo_4 g a mo_z mo_y) dX12_lays_112 (fun hf => ?_)
      refine j_iast (ws' := ([n_Mo g a (up2 mo_z 7 (Int32.toNatClampNeg v1) (mo_z 7 (Int32.toNatClampNeg (50 + v1)))) mo_y] : List va_W)) hE hf 0 rfl 4 (wg_Mo_4 g a mo_z mo_y) (wa_Mo_4 g a mo_z mo_y (Int32.toNatClampNeg v1) (mo_z 7 (Int32.toNatClampNeg (50 + v1)))) rfl dX12_lays_113 (fun hf => ?_)
      refine j_iinc (v := (v1 + 1)) (lv' := [(1, .int (v1 + 1)), (0, .ref (a 0))]) hE dX12_lays_114 1 rfl rfl (by decide) rfl ?_
      refine j_goto (tgt := 93) hE dX12_lays_117 (by decide) ?_
      exact j_sub [1, 0] rfl (ih (up2 mo_z 7 (Int32.toNatClampNeg v1) (mo_z 7 (Int32.toNatClampNeg (50 + v1)))) (v1 + 1) hf)
set_option maxRecDepth 100000 in
theorem j_Mo_lays_52 (E : jT) (g : jG) (a : Nat → Nat) (mo_y : jY)  (res : jZ) (hE : jOk E g RX12 cX12_lays 2 (none : Option Jvm.ClassFile.FieldType) rm_Mo_lays) (hq : jEnd E g none (([n_Mo g a res mo_y] : List va_W)) 0 0)  : ∀ (n : Nat) (mo_z : jZ) (v1 : Int32), f_Mo_lays_52 n mo_z v1 = some res → J E g 0 0 (([n_Mo g a mo_z mo_y] : List va_W)) [(0, .ref (a 0)), (1, .int v1)] 52 [] := by
  intro n
  induction n with
  | zero =>
    intro mo_z v1 hf
    rw [f_Mo_lays_52] at hf
    cases hf
  | succ n ih =>
    intro mo_z v1 hf
    rw [f_Mo_lays_52] at hf
    refine j_iload_n hE dX12_lays_52 rfl 1 rfl ?_
    refine j_iconst (v := 5) hE dX12_lays_53 (by decide) ?_
    refine j_icmp_ge (tgt := 91) hE hf dX12_lays_54 (by decide) (fun c1 hf => ?_) (fun c1 hf => ?_)
    · refine j_iconst (v := 0) hE dX12_lays_91 (by decide) ?_
      refine j_istore_n (lv' := [(1, .int 0), (0, .ref (a 0))]) hE dX12_lays_92 rfl (by decide) rfl ?_
      exact j_sub [1, 0] rfl (j_Mo_lays_93 E g a mo_y res hE hq FU mo_z 0 hf)
    · refine j_aload_n hE dX12_lays_57 rfl 0 rfl ?_
      refine j_get (v := .ref (a 2)) hE lg_Mo_15 0 rfl 0 (wg_Mo_0 g a mo_z mo_y) rfl dX12_lays_58 ?_
      refine j_iload_n hE dX12_lays_61 rfl 1 rfl ?_
      refine j_aload_n hE dX12_lays_62 rfl 0 rfl ?_
      refine j_get (v := .ref (a 2)) hE lg_Mo_15 0 rfl 0 (wg_Mo_0 g a mo_z mo_y) rfl dX12_lays_63 ?_
      refine j_iconst (v := 5) hE dX12_lays_66 (by decide) ?_
      refine j_iload_n hE dX12_lays_67 rfl 1 rfl ?_
      refine j_iadd hE dX12_lays_68 ?_
      refine j_iald hE hf 0 rfl 2 (wg_Mo_2 g a mo_z mo_y) dX12_lays_69 (fun hf => ?_)
      refine j_iast (ws' := ([n_Mo g a (up2 mo_z 5 (Int32.toNatClampNeg v1) (mo_z 5 (Int32.toNatClampNeg (5 + v1)))) mo_y] : List va_W)) hE hf 0 rfl 2 (wg_Mo_2 g a mo_z mo_y) (wa_Mo_2 g a mo_z mo_y (Int32.toNatClampNeg v1) (mo_z 5 (Int32.toNatClampNeg (5 + v1)))) rfl dX12_lays_70 (fun hf => ?_)
      refine j_aload_n hE dX12_lays_71 rfl 0 rfl ?_
      refine j_get (v := .ref (a 3)) hE lg_Mo_18 0 rfl 0 (wg_Mo_0 g a (up2 mo_z 5 (Int32.toNatClampNeg v1) (mo_z 5 (Int32.toNatClampNeg (5 + v1)))) mo_y) rfl dX12_lays_72 ?_
      refine j_iload_n hE dX12_lays_75 rfl 1 rfl ?_
      refine j_aload_n hE dX12_lays_76 rfl 0 rfl ?_
      refine j_get (v := .ref (a 3)) hE lg_Mo_18 0 rfl 0 (wg_Mo_0 g a (up2 mo_z 5 (Int32.toNatClampNeg v1) (mo_z 5 (Int32.toNatClampNeg (5 + v1)))) mo_y) rfl dX12_lays_77 ?_
      refine j_iconst (v := 5) hE dX12_lays_80 (by decide) ?_
      refine j_iload_n hE dX12_lays_81 rfl 1 rfl ?_
      refine j_iadd hE dX12_lays_82 ?_
      refine j_iald hE hf 0 rfl 3 (wg_Mo_3 g a (up2 mo_z 5 (Int32.toNatClampNeg v1) (mo_z 5 (Int32.toNatClampNeg (5 + v1)))) mo_y) dX12_lays_83 (fun hf => ?_)
      refine j_st (st' := [.int (mo_z 6 (Int32.toNatClampNeg (5 + v1))), .int v1, .ref (a 3)]) rfl ?_
      refine j_iast (ws' := ([n_Mo g a (up2 (up2 mo_z 5 (Int32.toNatClampNeg v1) (mo_z 5 (Int32.toNatClampNeg (5 + v1)))) 6 (Int32.toNatClampNeg v1) (mo_z 6 (Int32.toNatClampNeg (5 + v1)))) mo_y] : List va_W)) hE hf 0 rfl 3 (wg_Mo_3 g a (up2 mo_z 5 (Int32.toNatClampNeg v1) (mo_z 5 (Int32.toNatClampNeg (5 + v1)))) mo_y) (wa_Mo_3 g a (up2 mo_z 5 (Int32.toNatClampNeg v1) (mo_z 5 (Int32.toNatClampNeg (5 + v1)))) mo_y (Int32.toNatClampNeg v1) (mo_z 6 (Int32.toNatClampNeg (5 + v1)))) rfl dX12_lays_84 (fun hf => ?_)
      refine j_iinc (v := (v1 + 1)) (lv' := [(1, .int (v1 + 1)), (0, .ref (a 0))]) hE dX12_lays_85 1 rfl rfl (by decide) rfl ?_
      refine j_goto (tgt := 52) hE dX12_lays_88 (by decide) ?_
      exact j_sub [1, 0] rfl (ih (up2 (up2 mo_z 5 (Int32.toNatClampNeg v1) (mo_z 5 (Int32.toNatClampNeg (5 + v1)))) 6 (Int32.toNatClampNeg v1) (mo_z 6 (Int32.toNatClampNeg (5 + v1)))) (v1 + 1) hf)
set_option maxRecDepth 100000 in
theorem c_Mo_lays (l : Launch) (g : jG) (a : Nat → Nat) (mo_z : jZ) (mo_y : jY)  (res : jZ) (hf : f_Mo_lays mo_z = some res) : MC l g yX12_lays cX12_lays 2 (none : Option Jvm.ClassFile.FieldType) rm_Mo_lays [.ref (a 0)] (([n_Mo g a mo_z mo_y] : List va_W)) none (([n_Mo g a res mo_y] : List va_W)) 0 0 := by
  refine MC_of (own := RX12) (lv := [(0, .ref (a 0))]) (by decide) rfl (Nat.le_of_ble_eq_true rfl) rfl rfl (fun E hE hq => ?_)
  unfold f_Mo_lays at hf
  refine j_aload_n hE dX12_lays_0 rfl 0 rfl ?_
  refine j_aload_n hE dX12_lays_1 rfl 0 rfl ?_
  refine j_get (v := .int (mo_z 20 0)) hE lg_Mo_156 0 rfl 0 (wg_Mo_0 g a mo_z mo_y) rfl dX12_lays_2 ?_
  refine j_put (v := .int (mo_z 20 0)) (ws' := ([n_Mo g a (up2 mo_z 3 0 (mo_z 20 0)) mo_y] : List va_W)) hE lp_Mo_237 0 rfl 0 (wg_Mo_0 g a mo_z mo_y) rfl rfl (Nat.le_of_ble_eq_true rfl) (wp_Mo_3 g a mo_z mo_y (mo_z 20 0)) rfl dX12_lays_5 ?_
  refine j_aload_n hE dX12_lays_8 rfl 0 rfl ?_
  refine j_aload_n hE dX12_lays_9 rfl 0 rfl ?_
  refine j_get (v := .int (mo_z 21 0)) hE lg_Mo_159 0 rfl 0 (wg_Mo_0 g a (up2 mo_z 3 0 (mo_z 20 0)) mo_y) rfl dX12_lays_10 ?_
  refine j_put (v := .int (mo_z 21 0)) (ws' := ([n_Mo g a (up2 (up2 mo_z 3 0 (mo_z 20 0)) 4 0 (mo_z 21 0)) mo_y] : List va_W)) hE lp_Mo_240 0 rfl 0 (wg_Mo_0 g a (up2 mo_z 3 0 (mo_z 20 0)) mo_y) rfl rfl (Nat.le_of_ble_eq_true rfl) (wp_Mo_4 g a (up2 mo_z 3 0 (mo_z 20 0)) mo_y (mo_z 21 0)) rfl dX12_lays_13 ?_
  refine j_aload_n hE dX12_lays_16 rfl 0 rfl ?_
  refine j_aload_n hE dX12_lays_17 rfl 0 rfl ?_
  refine j_get (v := .int (mo_z 22 0)) hE lg_Mo_197 0 rfl 0 (wg_Mo_0 g a (up2 (up2 mo_z 3 0 (mo_z 20 0)) 4 0 (mo_z 21 0)) mo_y) rfl dX12_lays_18 ?_
  refine j_put (v := .int (mo_z 22 0)) (ws' := ([n_Mo g a (up2 (up2 (up2 mo_z 3 0 (mo_z 20 0)) 4 0 (mo_z 21 0)) 17 0 (mo_z 22 0)) mo_y] : List va_W)) hE lp_Mo_243 0 rfl 0 (wg_Mo_0 g a (up2 (up2 mo_z 3 0 (mo_z 20 0)) 4 0 (mo_z 21 0)) mo_y) rfl rfl (Nat.le_of_ble_eq_true rfl) (wp_Mo_17 g a (up2 (up2 mo_z 3 0 (mo_z 20 0)) 4 0 (mo_z 21 0)) mo_y (mo_z 22 0)) rfl dX12_lays_21 ?_
  refine j_aload_n hE dX12_lays_24 rfl 0 rfl ?_
  refine j_aload_n hE dX12_lays_25 rfl 0 rfl ?_
  refine j_get (v := .int (mo_z 23 0)) hE lg_Mo_178 0 rfl 0 (wg_Mo_0 g a (up2 (up2 (up2 mo_z 3 0 (mo_z 20 0)) 4 0 (mo_z 21 0)) 17 0 (mo_z 22 0)) mo_y) rfl dX12_lays_26 ?_
  refine j_put (v := .int (mo_z 23 0)) (ws' := ([n_Mo g a (up2 (up2 (up2 (up2 mo_z 3 0 (mo_z 20 0)) 4 0 (mo_z 21 0)) 17 0 (mo_z 22 0)) 18 0 (mo_z 23 0)) mo_y] : List va_W)) hE lp_Mo_52 0 rfl 0 (wg_Mo_0 g a (up2 (up2 (up2 mo_z 3 0 (mo_z 20 0)) 4 0 (mo_z 21 0)) 17 0 (mo_z 22 0)) mo_y) rfl rfl (Nat.le_of_ble_eq_true rfl) (wp_Mo_18 g a (up2 (up2 (up2 mo_z 3 0 (mo_z 20 0)) 4 0 (mo_z 21 0)) 17 0 (mo_z 22 0)) mo_y (mo_z 23 0)) rfl dX12_lays_29 ?_
  refine j_aload_n hE dX12_lays_32 rfl 0 rfl ?_
  refine j_aload_n hE dX12_lays_33 rfl 0 rfl ?_
  refine j_get (v := .int (mo_z 24 0)) hE lg_Mo_181 0 rfl 0 (wg_Mo_0 g a (up2 (up2 (up2 (up2 mo_z 3 0 (mo_z 20 0)) 4 0 (mo_z 21 0)) 17 0 (mo_z 22 0)) 18 0 (mo_z 23 0)) mo_y) rfl dX12_lays_34 ?_
  refine j_put (v := .int (mo_z 24 0)) (ws' := ([n_Mo g a (up2 (up2 (up2 (up2 (up2 mo_z 3 0 (mo_z 20 0)) 4 0 (mo_z 21 0)) 17 0 (mo_z 22 0)) 18 0 (mo_z 23 0)) 19 0 (mo_z 24 0)) mo_y] : List va_W)) hE lp_Mo_246 0 rfl 0 (wg_Mo_0 g a (up2 (up2 (up2 (up2 mo_z 3 0 (mo_z 20 0)) 4 0 (mo_z 21 0)) 17 0 (mo_z 22 0)) 18 0 (mo_z 23 0)) mo_y) rfl rfl (Nat.le_of_ble_eq_true rfl) (wp_Mo_19 g a (up2 (up2 (up2 (up2 mo_z 3 0 (mo_z 20 0)) 4 0 (mo_z 21 0)) 17 0 (mo_z 22 0)) 18 0 (mo_z 23 0)) mo_y (mo_z 24 0)) rfl dX12_lays_37 ?_
  refine j_aload_n hE dX12_lays_40 rfl 0 rfl ?_
  refine j_iconst (v := 0) hE dX12_lays_41 (by decide) ?_
  refine j_put (v := .int 0) (ws' := ([n_Mo g a (up2 (up2 (up2 (up2 (up2 (up2 mo_z 3 0 (mo_z 20 0)) 4 0 (mo_z 21 0)) 17 0 (mo_z 22 0)) 18 0 (mo_z 23 0)) 19 0 (mo_z 24 0)) 38 0 0) mo_y] : List va_W)) hE lp_Mo_249 0 rfl 0 (wg_Mo_0 g a (up2 (up2 (up2 (up2 (up2 mo_z 3 0 (mo_z 20 0)) 4 0 (mo_z 21 0)) 17 0 (mo_z 22 0)) 18 0 (mo_z 23 0)) 19 0 (mo_z 24 0)) mo_y) rfl rfl (Nat.le_of_ble_eq_true rfl) (wp_Mo_38 g a (up2 (up2 (up2 (up2 (up2 mo_z 3 0 (mo_z 20 0)) 4 0 (mo_z 21 0)) 17 0 (mo_z 22 0)) 18 0 (mo_z 23 0)) 19 0 (mo_z 24 0)) mo_y 0) rfl dX12_lays_42 ?_
  refine j_aload_n hE dX12_lays_45 rfl 0 rfl ?_
  refine j_iconst (v := (-1)) hE dX12_lays_46 (by decide) ?_
  refine j_put (v := .int (-1)) (ws' := ([n_Mo g a (up2 (up2 (up2 (up2 (up2 (up2 (up2 mo_z 3 0 (mo_z 20 0)) 4 0 (mo_z 21 0)) 17 0 (mo_z 22 0)) 18 0 (mo_z 23 0)) 19 0 (mo_z 24 0)) 38 0 0) 39 0 (-1)) mo_y] : List va_W)) hE lp_Mo_59 0 rfl 0 (wg_Mo_0 g a (up2 (up2 (up2 (up2 (up2 (up2 mo_z 3 0 (mo_z 20 0)) 4 0 (mo_z 21 0)) 17 0 (mo_z 22 0)) 18 0 (mo_z 23 0)) 19 0 (mo_z 24 0)) 38 0 0) mo_y) rfl rfl (Nat.le_of_ble_eq_true rfl) (wp_Mo_39 g a (up2 (up2 (up2 (up2 (up2 (up2 mo_z 3 0 (mo_z 20 0)) 4 0 (mo_z 21 0)) 17 0 (mo_z 22 0)) 18 0 (mo_z 23 0)) 19 0 (mo_z 24 0)) 38 0 0) mo_y (-1)) rfl dX12_lays_47 ?_
  refine j_iconst (v := 0) hE dX12_lays_50 (by decide) ?_
  refine j_istore_n (lv' := [(1, .int 0), (0, .ref (a 0))]) hE dX12_lays_51 rfl (by decide) rfl ?_
  exact j_sub [1, 0] rfl (j_Mo_lays_52 E g a mo_y res hE hq FU (up2 (up2 (up2 (up2 (up2 (up2 (up2 mo_z 3 0 (mo_z 20 0)) 4 0 (mo_z 21 0)) 17 0 (mo_z 22 0)) 18 0 (mo_z 23 0)) 19 0 (mo_z 24 0)) 38 0 0) 39 0 (-1)) 0 hf)
def rm_Mo_fault : Room := { frames := 0, cells := 0, slots := 0, locals := 0 }
def f_Mo_fault (mo_z : jZ) (x1 : Int32) : Option (jZ × Int32) := (if x1 = 0 then some ((up2 mo_z 0 0 0), (mo_z 34 0))
    else (if x1 = 1 then some ((up2 mo_z 0 0 0), (mo_z 35 0))
    else some ((up2 mo_z 0 0 0), (-1))))
set_option maxRecDepth 100000 in
theorem c_Mo_fault (l : Launch) (g : jG) (a : Nat → Nat) (mo_z : jZ) (mo_y : jY) (x1 : Int32) (res : jZ × Int32) (hf : f_Mo_fault mo_z x1 = some res) : MC l g yX12_fault cX12_fault 2 (some .int) rm_Mo_fault [.ref (a 0), .int x1] (([n_Mo g a mo_z mo_y] : List va_W)) (some (.int res.2)) (([n_Mo g a res.1 mo_y] : List va_W)) 0 0 := by
  refine MC_of (own := RX12) (lv := [(0, .ref (a 0)), (1, .int x1)]) (by decide) rfl (Nat.le_of_ble_eq_true rfl) rfl rfl (fun E hE hq => ?_)
  unfold f_Mo_fault at hf
  refine j_aload_n hE dX12_fault_0 rfl 0 rfl ?_
  refine j_iconst (v := 0) hE dX12_fault_1 (by decide) ?_
  refine j_put (v := .int 0) (ws' := ([n_Mo g a (up2 mo_z 0 0 0) mo_y] : List va_W)) hE lp_Mo_87 0 rfl 0 (wg_Mo_0 g a mo_z mo_y) rfl rfl (Nat.le_of_ble_eq_true rfl) (wp_Mo_0 g a mo_z mo_y 0) rfl dX12_fault_2 ?_
  refine j_iload_n hE dX12_fault_5 rfl 1 rfl ?_
  refine j_if_ne (tgt := 16) hE hf dX12_fault_6 (by decide) (fun c1 hf => ?_) (fun c1 hf => ?_)
  · refine j_iload_n hE dX12_fault_16 rfl 1 rfl ?_
    refine j_iconst (v := 1) hE dX12_fault_17 (by decide) ?_
    refine j_icmp_ne (tgt := 28) hE hf dX12_fault_18 (by decide) (fun c2 hf => ?_) (fun c2 hf => ?_)
    · refine j_iconst (v := (-1)) hE dX12_fault_28 (by decide) ?_
      obtain rfl := Option.some.inj hf
      exact j_iret hE hq rfl rfl dX12_fault_29
    · refine j_aload_n hE dX12_fault_21 rfl 0 rfl ?_
      refine j_get (v := .int (mo_z 35 0)) hE lg_Mo_56 0 rfl 0 (wg_Mo_0 g a (up2 mo_z 0 0 0) mo_y) rfl dX12_fault_22 ?_
      refine j_goto (tgt := 29) hE dX12_fault_25 (by decide) ?_
      obtain rfl := Option.some.inj hf
      exact j_iret hE hq rfl rfl dX12_fault_29
  · refine j_aload_n hE dX12_fault_9 rfl 0 rfl ?_
    refine j_get (v := .int (mo_z 34 0)) hE lg_Mo_231 0 rfl 0 (wg_Mo_0 g a (up2 mo_z 0 0 0) mo_y) rfl dX12_fault_10 ?_
    refine j_goto (tgt := 29) hE dX12_fault_13 (by decide) ?_
    obtain rfl := Option.some.inj hf
    exact j_iret hE hq rfl rfl dX12_fault_29
def rm_Mo_named : Room := { frames := 1, cells := 0, slots := 0, locals := 24 }
def f_Mo_named (mo_z : jZ) (x1 : Int32) (x2 : Int32) : Option (jZ × Int32) := (if x1 = 0 then (f_Mo_foundMo_kindName (up2 mo_z 0 0 0) 0 (mo_z 3 0) x2).bind fun q5 => some ((up2 mo_z 0 0 0), q5)
    else (if x1 = 1 then (f_Mo_foundMo_placeName (up2 mo_z 0 0 0) 0 (mo_z 4 0) x2).bind fun q3 => some ((up2 mo_z 0 0 0), q3)
    else some ((up2 mo_z 0 0 0), (-1))))
set_option maxRecDepth 100000 in
theorem c_Mo_named (l : Launch) (g : jG) (a : Nat → Nat) (mo_z : jZ) (mo_y : jY) (x1 : Int32) (x2 : Int32) (res : jZ × Int32) (hf : f_Mo_named mo_z x1 x2 = some res) : MC l g yX12_named cX12_named 3 (some .int) rm_Mo_named [.ref (a 0), .int x1, .int x2] (([n_Mo g a mo_z mo_y] : List va_W)) (some (.int res.2)) (([n_Mo g a res.1 mo_y] : List va_W)) 0 0 := by
  refine MC_of (own := RX12) (lv := [(0, .ref (a 0)), (1, .int x1), (2, .int x2)]) (by decide) rfl (Nat.le_of_ble_eq_true rfl) rfl rfl (fun E hE hq => ?_)
  unfold f_Mo_named at hf
  refine j_aload_n hE dX12_named_0 rfl 0 rfl ?_
  refine j_iconst (v := 0) hE dX12_named_1 (by decide) ?_
  refine j_put (v := .int 0) (ws' := ([n_Mo g a (up2 mo_z 0 0 0) mo_y] : List va_W)) hE lp_Mo_87 0 rfl 0 (wg_Mo_0 g a mo_z mo_y) rfl rfl (Nat.le_of_ble_eq_true rfl) (wp_Mo_0 g a mo_z mo_y 0) rfl dX12_named_2 ?_
  refine j_iload_n hE dX12_named_5 rfl 1 rfl ?_
  refine j_if_ne (tgt := 25) hE hf dX12_named_6 (by decide) (fun c1 hf => ?_) (fun c1 hf => ?_)
  · refine j_iload_n hE dX12_named_25 rfl 1 rfl ?_
    refine j_iconst (v := 1) hE dX12_named_26 (by decide) ?_
    refine j_icmp_ne (tgt := 46) hE hf dX12_named_27 (by decide) (fun c2 hf => ?_) (fun c2 hf => ?_)
    · refine j_iconst (v := (-1)) hE dX12_named_46 (by decide) ?_
      obtain rfl := Option.some.inj hf
      exact j_iret hE hq rfl rfl dX12_named_47
    · refine j_aload_n hE dX12_named_30 rfl 0 rfl ?_
      refine j_get (v := .ref (a 5)) hE lg_Mo_24 0 rfl 0 (wg_Mo_0 g a (up2 mo_z 0 0 0) mo_y) rfl dX12_named_31 ?_
      refine j_iconst (v := 0) hE dX12_named_34 (by decide) ?_
      refine j_aload_n hE dX12_named_35 rfl 0 rfl ?_
      refine j_get (v := .int (mo_z 4 0)) hE lg_Mo_240 0 rfl 0 (wg_Mo_0 g a (up2 mo_z 0 0 0) mo_y) rfl dX12_named_36 ?_
      refine j_iload_n hE dX12_named_39 rfl 2 rfl ?_
      obtain ⟨q3, hc4, hf⟩ := bind_of hf
      refine j_callS (ws' := ([n_Mo g a (up2 mo_z 0 0 0) mo_y] : List va_W)) (As := [.ref (a 5), .int 0, .int (mo_z 4 0), .int x2]) (rest := []) (st2 := [.int q3]) hE (fun l => c_Mo_foundMo_placeName l g a (up2 mo_z 0 0 0) mo_y 0 (mo_z 4 0) x2 q3 hc4) cd_X12_found st_X12_found ml_Mo_152 rfl rfl ⟨⟨Nat.le_of_ble_eq_true rfl, Nat.le_of_ble_eq_true rfl⟩, ⟨Nat.zero_le _, Nat.zero_le _⟩, rfl, rfl⟩ [0] rfl rfl rfl (Nat.le_of_ble_eq_true rfl) rfl dX12_named_40 ?_
      refine j_goto (tgt := 47) hE dX12_named_43 (by decide) ?_
      obtain rfl := Option.some.inj hf
      exact j_iret hE hq rfl rfl dX12_named_47
  · refine j_aload_n hE dX12_named_9 rfl 0 rfl ?_
    refine j_get (v := .ref (a 2)) hE lg_Mo_15 0 rfl 0 (wg_Mo_0 g a (up2 mo_z 0 0 0) mo_y) rfl dX12_named_10 ?_
    refine j_iconst (v := 0) hE dX12_named_13 (by decide) ?_
    refine j_aload_n hE dX12_named_14 rfl 0 rfl ?_
    refine j_get (v := .int (mo_z 3 0)) hE lg_Mo_237 0 rfl 0 (wg_Mo_0 g a (up2 mo_z 0 0 0) mo_y) rfl dX12_named_15 ?_
    refine j_iload_n hE dX12_named_18 rfl 2 rfl ?_
    obtain ⟨q5, hc6, hf⟩ := bind_of hf
    refine j_callS (ws' := ([n_Mo g a (up2 mo_z 0 0 0) mo_y] : List va_W)) (As := [.ref (a 2), .int 0, .int (mo_z 3 0), .int x2]) (rest := []) (st2 := [.int q5]) hE (fun l => c_Mo_foundMo_kindName l g a (up2 mo_z 0 0 0) mo_y 0 (mo_z 3 0) x2 q5 hc6) cd_X12_found st_X12_found ml_Mo_152 rfl rfl ⟨⟨Nat.le_of_ble_eq_true rfl, Nat.le_of_ble_eq_true rfl⟩, ⟨Nat.zero_le _, Nat.zero_le _⟩, rfl, rfl⟩ [0] rfl rfl rfl (Nat.le_of_ble_eq_true rfl) rfl dX12_named_19 ?_
    refine j_goto (tgt := 47) hE dX12_named_22 (by decide) ?_
    obtain rfl := Option.some.inj hf
    exact j_iret hE hq rfl rfl dX12_named_47
