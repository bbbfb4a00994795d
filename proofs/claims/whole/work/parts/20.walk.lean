def rm_Kinds_clear : Room := { frames := 0, cells := 0, slots := 0, locals := 0 }
def f_Kinds_clear_32    : Nat → jZ → Int32 → Option (jZ)
  | 0, _, _ => none
  | n + 1, ki_z, v1 => (if 50 ≤ v1 then some ki_z
    else (ix v1 50).bind fun _ => f_Kinds_clear_32  n (up2 ki_z 6 (Int32.toNatClampNeg v1) 0) (v1 + 1))
def f_Kinds_clear_12    : Nat → jZ → Int32 → Option (jZ)
  | 0, _, _ => none
  | n + 1, ki_z, v1 => (if 5 ≤ v1 then f_Kinds_clear_32 FU ki_z 0
    else (ix v1 5).bind fun _ => f_Kinds_clear_12  n (up2 ki_z 4 (Int32.toNatClampNeg v1) 0) (v1 + 1))
def f_Kinds_clear (ki_z : jZ)  : Option (jZ) := f_Kinds_clear_12 FU (up2 (up2 ki_z 0 0 0) 1 0 0) 0
set_option maxRecDepth 100000 in
theorem j_Kinds_clear_32 (E : jT) (g : jG) (a : Nat → Nat)   (res : jZ) (hE : jOk E g RX2 cX2_clear 2 (none : Option Jvm.ClassFile.FieldType) rm_Kinds_clear) (hq : jEnd E g none (([n_Kinds g a res] : List va_W)) 0 0)  : ∀ (n : Nat) (ki_z : jZ) (v1 : Int32), f_Kinds_clear_32 n ki_z v1 = some res → J E g 0 0 (([n_Kinds g a ki_z] : List va_W)) [(0, .ref (a 0)), (1, .int v1)] 32 [] := by
  intro n
  induction n with
  | zero =>
    intro ki_z v1 hf
    rw [f_Kinds_clear_32] at hf
    cases hf
  | succ n ih =>
    intro ki_z v1 hf
    rw [f_Kinds_clear_32] at hf
    refine j_iload_n hE dX2_clear_32 rfl 1 rfl ?_
    refine j_bipush (v := 50) hE dX2_clear_33 (by decide) ?_
    refine j_icmp_ge (tgt := 51) hE hf dX2_clear_35 (by decide) (fun c2 hf => ?_) (fun c2 hf => ?_)
    · obtain rfl := Option.some.inj hf
      exact j_vret hE hq rfl rfl dX2_clear_51
    · refine j_aload_n hE dX2_clear_38 rfl 0 rfl ?_
      refine j_get (v := .ref (a 5)) hE lg_Kinds_31 0 rfl 0 (wg_Kinds_0 g a ki_z) rfl dX2_clear_39 ?_
      refine j_iload_n hE dX2_clear_42 rfl 1 rfl ?_
      refine j_iconst (v := 0) hE dX2_clear_43 (by decide) ?_
      refine j_iast (ws' := ([n_Kinds g a (up2 ki_z 6 (Int32.toNatClampNeg v1) 0)] : List va_W)) hE hf 0 rfl 5 (wg_Kinds_5 g a ki_z) (wa_Kinds_5 g a ki_z (Int32.toNatClampNeg v1) 0) rfl dX2_clear_44 (fun hf => ?_)
      refine j_iinc (v := (v1 + 1)) (lv' := [(1, .int (v1 + 1)), (0, .ref (a 0))]) hE dX2_clear_45 1 rfl rfl (by decide) rfl ?_
      refine j_goto (tgt := 32) hE dX2_clear_48 (by decide) ?_
      exact j_sub [1, 0] rfl (ih (up2 ki_z 6 (Int32.toNatClampNeg v1) 0) (v1 + 1) hf)
set_option maxRecDepth 100000 in
theorem j_Kinds_clear_12 (E : jT) (g : jG) (a : Nat → Nat)   (res : jZ) (hE : jOk E g RX2 cX2_clear 2 (none : Option Jvm.ClassFile.FieldType) rm_Kinds_clear) (hq : jEnd E g none (([n_Kinds g a res] : List va_W)) 0 0)  : ∀ (n : Nat) (ki_z : jZ) (v1 : Int32), f_Kinds_clear_12 n ki_z v1 = some res → J E g 0 0 (([n_Kinds g a ki_z] : List va_W)) [(0, .ref (a 0)), (1, .int v1)] 12 [] := by
  intro n
  induction n with
  | zero =>
    intro ki_z v1 hf
    rw [f_Kinds_clear_12] at hf
    cases hf
  | succ n ih =>
    intro ki_z v1 hf
    rw [f_Kinds_clear_12] at hf
    refine j_iload_n hE dX2_clear_12 rfl 1 rfl ?_
    refine j_iconst (v := 5) hE dX2_clear_13 (by decide) ?_
    refine j_icmp_ge (tgt := 30) hE hf dX2_clear_14 (by decide) (fun c1 hf => ?_) (fun c1 hf => ?_)
    · refine j_iconst (v := 0) hE dX2_clear_30 (by decide) ?_
      refine j_istore_n (lv' := [(1, .int 0), (0, .ref (a 0))]) hE dX2_clear_31 rfl (by decide) rfl ?_
      exact j_sub [1, 0] rfl (j_Kinds_clear_32 E g a res hE hq FU ki_z 0 hf)
    · refine j_aload_n hE dX2_clear_17 rfl 0 rfl ?_
      refine j_get (v := .ref (a 3)) hE lg_Kinds_25 0 rfl 0 (wg_Kinds_0 g a ki_z) rfl dX2_clear_18 ?_
      refine j_iload_n hE dX2_clear_21 rfl 1 rfl ?_
      refine j_iconst (v := 0) hE dX2_clear_22 (by decide) ?_
      refine j_iast (ws' := ([n_Kinds g a (up2 ki_z 4 (Int32.toNatClampNeg v1) 0)] : List va_W)) hE hf 0 rfl 3 (wg_Kinds_3 g a ki_z) (wa_Kinds_3 g a ki_z (Int32.toNatClampNeg v1) 0) rfl dX2_clear_23 (fun hf => ?_)
      refine j_iinc (v := (v1 + 1)) (lv' := [(1, .int (v1 + 1)), (0, .ref (a 0))]) hE dX2_clear_24 1 rfl rfl (by decide) rfl ?_
      refine j_goto (tgt := 12) hE dX2_clear_27 (by decide) ?_
      exact j_sub [1, 0] rfl (ih (up2 ki_z 4 (Int32.toNatClampNeg v1) 0) (v1 + 1) hf)
set_option maxRecDepth 100000 in
theorem c_Kinds_clear (l : Launch) (g : jG) (a : Nat → Nat) (ki_z : jZ)  (res : jZ) (hf : f_Kinds_clear ki_z = some res) : MC l g yX2_clear cX2_clear 2 (none : Option Jvm.ClassFile.FieldType) rm_Kinds_clear [.ref (a 0)] (([n_Kinds g a ki_z] : List va_W)) none (([n_Kinds g a res] : List va_W)) 0 0 := by
  refine MC_of (own := RX2) (lv := [(0, .ref (a 0))]) (by decide) rfl (Nat.le_of_ble_eq_true rfl) rfl rfl (fun E hE hq => ?_)
  unfold f_Kinds_clear at hf
  refine j_aload_n hE dX2_clear_0 rfl 0 rfl ?_
  refine j_iconst (v := 0) hE dX2_clear_1 (by decide) ?_
  refine j_put (v := .int 0) (ws' := ([n_Kinds g a (up2 ki_z 0 0 0)] : List va_W)) hE lp_Kinds_9 0 rfl 0 (wg_Kinds_0 g a ki_z) rfl rfl (Nat.le_of_ble_eq_true rfl) (wp_Kinds_0 g a ki_z 0) rfl dX2_clear_2 ?_
  refine j_aload_n hE dX2_clear_5 rfl 0 rfl ?_
  refine j_iconst (v := 0) hE dX2_clear_6 (by decide) ?_
  refine j_put (v := .int 0) (ws' := ([n_Kinds g a (up2 (up2 ki_z 0 0 0) 1 0 0)] : List va_W)) hE lp_Kinds_15 0 rfl 0 (wg_Kinds_0 g a (up2 ki_z 0 0 0)) rfl rfl (Nat.le_of_ble_eq_true rfl) (wp_Kinds_1 g a (up2 ki_z 0 0 0) 0) rfl dX2_clear_7 ?_
  refine j_iconst (v := 0) hE dX2_clear_10 (by decide) ?_
  refine j_istore_n (lv' := [(1, .int 0), (0, .ref (a 0))]) hE dX2_clear_11 rfl (by decide) rfl ?_
  exact j_sub [1, 0] rfl (j_Kinds_clear_12 E g a res hE hq FU (up2 (up2 ki_z 0 0 0) 1 0 0) 0 hf)
def rm_Kinds_putFace : Room := { frames := 0, cells := 0, slots := 0, locals := 0 }
def f_Kinds_putFace (ki_z : jZ) (x1 : Int32) (x2 : Int32) (x3 : Int32) : Option (jZ) := (if x1 < 0 then some ki_z
    else (if 5 ≤ x1 then some ki_z
    else (if x2 < 0 then some ki_z
    else (if 10 ≤ x2 then some ki_z
    else (if x3 < 0 then some ki_z
    else (if 10 ≤ x3 then some ki_z
    else (ix ((x1 * 10) + x2) 50).bind fun _ => (ix ((x1 * 10) + x3) 50).bind fun _ => (ix ((x1 * 10) + x3) 50).bind fun _ => (ix x1 5).bind fun _ => (ix x1 5).bind fun _ => some (up2 (up2 (up2 ki_z 5 (Int32.toNatClampNeg ((x1 * 10) + x2)) x3) 6 (Int32.toNatClampNeg ((x1 * 10) + x3)) ((ki_z 6 (Int32.toNatClampNeg ((x1 * 10) + x3))) + 1)) 4 (Int32.toNatClampNeg x1) ((ki_z 4 (Int32.toNatClampNeg x1)) + x3))))))))
set_option maxRecDepth 100000 in
theorem c_Kinds_putFace (l : Launch) (g : jG) (a : Nat → Nat) (ki_z : jZ) (x1 : Int32) (x2 : Int32) (x3 : Int32) (res : jZ) (hf : f_Kinds_putFace ki_z x1 x2 x3 = some res) : MC l g yX2_putFace cX2_putFace 4 (none : Option Jvm.ClassFile.FieldType) rm_Kinds_putFace [.ref (a 0), .int x1, .int x2, .int x3] (([n_Kinds g a ki_z] : List va_W)) none (([n_Kinds g a res] : List va_W)) 0 0 := by
  refine MC_of (own := RX2) (lv := [(0, .ref (a 0)), (1, .int x1), (2, .int x2), (3, .int x3)]) (by decide) rfl (Nat.le_of_ble_eq_true rfl) rfl rfl (fun E hE hq => ?_)
  unfold f_Kinds_putFace at hf
  refine j_iload_n hE dX2_putFace_0 rfl 1 rfl ?_
  refine j_if_lt (tgt := 66) hE hf dX2_putFace_1 (by decide) (fun c1 hf => ?_) (fun c1 hf => ?_)
  · obtain rfl := Option.some.inj hf
    exact j_vret hE hq rfl rfl dX2_putFace_66
  · refine j_iload_n hE dX2_putFace_4 rfl 1 rfl ?_
    refine j_iconst (v := 5) hE dX2_putFace_5 (by decide) ?_
    refine j_icmp_ge (tgt := 66) hE hf dX2_putFace_6 (by decide) (fun c2 hf => ?_) (fun c2 hf => ?_)
    · obtain rfl := Option.some.inj hf
      exact j_vret hE hq rfl rfl dX2_putFace_66
    · refine j_iload_n hE dX2_putFace_9 rfl 2 rfl ?_
      refine j_if_lt (tgt := 66) hE hf dX2_putFace_10 (by decide) (fun c3 hf => ?_) (fun c3 hf => ?_)
      · obtain rfl := Option.some.inj hf
        exact j_vret hE hq rfl rfl dX2_putFace_66
      · refine j_iload_n hE dX2_putFace_13 rfl 2 rfl ?_
        refine j_bipush (v := 10) hE dX2_putFace_14 (by decide) ?_
        refine j_icmp_ge (tgt := 66) hE hf dX2_putFace_16 (by decide) (fun c4 hf => ?_) (fun c4 hf => ?_)
        · obtain rfl := Option.some.inj hf
          exact j_vret hE hq rfl rfl dX2_putFace_66
        · refine j_iload_n hE dX2_putFace_19 rfl 3 rfl ?_
          refine j_if_lt (tgt := 66) hE hf dX2_putFace_20 (by decide) (fun c5 hf => ?_) (fun c5 hf => ?_)
          · obtain rfl := Option.some.inj hf
            exact j_vret hE hq rfl rfl dX2_putFace_66
          · refine j_iload_n hE dX2_putFace_23 rfl 3 rfl ?_
            refine j_bipush (v := 10) hE dX2_putFace_24 (by decide) ?_
            refine j_icmp_ge (tgt := 66) hE hf dX2_putFace_26 (by decide) (fun c6 hf => ?_) (fun c6 hf => ?_)
            · obtain rfl := Option.some.inj hf
              exact j_vret hE hq rfl rfl dX2_putFace_66
            · refine j_aload_n hE dX2_putFace_29 rfl 0 rfl ?_
              refine j_get (v := .ref (a 4)) hE lg_Kinds_28 0 rfl 0 (wg_Kinds_0 g a ki_z) rfl dX2_putFace_30 ?_
              refine j_iload_n hE dX2_putFace_33 rfl 1 rfl ?_
              refine j_bipush (v := 10) hE dX2_putFace_34 (by decide) ?_
              refine j_imul hE dX2_putFace_36 ?_
              refine j_iload_n hE dX2_putFace_37 rfl 2 rfl ?_
              refine j_iadd hE dX2_putFace_38 ?_
              refine j_iload_n hE dX2_putFace_39 rfl 3 rfl ?_
              refine j_iast (ws' := ([n_Kinds g a (up2 ki_z 5 (Int32.toNatClampNeg ((x1 * 10) + x2)) x3)] : List va_W)) hE hf 0 rfl 4 (wg_Kinds_4 g a ki_z) (wa_Kinds_4 g a ki_z (Int32.toNatClampNeg ((x1 * 10) + x2)) x3) rfl dX2_putFace_40 (fun hf => ?_)
              refine j_aload_n hE dX2_putFace_41 rfl 0 rfl ?_
              refine j_get (v := .ref (a 5)) hE lg_Kinds_31 0 rfl 0 (wg_Kinds_0 g a (up2 ki_z 5 (Int32.toNatClampNeg ((x1 * 10) + x2)) x3)) rfl dX2_putFace_42 ?_
              refine j_iload_n hE dX2_putFace_45 rfl 1 rfl ?_
              refine j_bipush (v := 10) hE dX2_putFace_46 (by decide) ?_
              refine j_imul hE dX2_putFace_48 ?_
              refine j_iload_n hE dX2_putFace_49 rfl 3 rfl ?_
              refine j_iadd hE dX2_putFace_50 ?_
              refine j_dup2_11 hE dX2_putFace_51 rfl rfl ?_
              refine j_iald hE hf 0 rfl 5 (wg_Kinds_5 g a (up2 ki_z 5 (Int32.toNatClampNeg ((x1 * 10) + x2)) x3)) dX2_putFace_52 (fun hf => ?_)
              refine j_st (st' := [.int (ki_z 6 (Int32.toNatClampNeg ((x1 * 10) + x3))), .int ((x1 * 10) + x3), .ref (a 5)]) rfl ?_
              refine j_iconst (v := 1) hE dX2_putFace_53 (by decide) ?_
              refine j_iadd hE dX2_putFace_54 ?_
              refine j_iast (ws' := ([n_Kinds g a (up2 (up2 ki_z 5 (Int32.toNatClampNeg ((x1 * 10) + x2)) x3) 6 (Int32.toNatClampNeg ((x1 * 10) + x3)) ((ki_z 6 (Int32.toNatClampNeg ((x1 * 10) + x3))) + 1))] : List va_W)) hE hf 0 rfl 5 (wg_Kinds_5 g a (up2 ki_z 5 (Int32.toNatClampNeg ((x1 * 10) + x2)) x3)) (wa_Kinds_5 g a (up2 ki_z 5 (Int32.toNatClampNeg ((x1 * 10) + x2)) x3) (Int32.toNatClampNeg ((x1 * 10) + x3)) ((ki_z 6 (Int32.toNatClampNeg ((x1 * 10) + x3))) + 1)) rfl dX2_putFace_55 (fun hf => ?_)
              refine j_aload_n hE dX2_putFace_56 rfl 0 rfl ?_
              refine j_get (v := .ref (a 3)) hE lg_Kinds_25 0 rfl 0 (wg_Kinds_0 g a (up2 (up2 ki_z 5 (Int32.toNatClampNeg ((x1 * 10) + x2)) x3) 6 (Int32.toNatClampNeg ((x1 * 10) + x3)) ((ki_z 6 (Int32.toNatClampNeg ((x1 * 10) + x3))) + 1))) rfl dX2_putFace_57 ?_
              refine j_iload_n hE dX2_putFace_60 rfl 1 rfl ?_
              refine j_dup2_11 hE dX2_putFace_61 rfl rfl ?_
              refine j_iald hE hf 0 rfl 3 (wg_Kinds_3 g a (up2 (up2 ki_z 5 (Int32.toNatClampNeg ((x1 * 10) + x2)) x3) 6 (Int32.toNatClampNeg ((x1 * 10) + x3)) ((ki_z 6 (Int32.toNatClampNeg ((x1 * 10) + x3))) + 1))) dX2_putFace_62 (fun hf => ?_)
              refine j_st (st' := [.int (ki_z 4 (Int32.toNatClampNeg x1)), .int x1, .ref (a 3)]) rfl ?_
              refine j_iload_n hE dX2_putFace_63 rfl 3 rfl ?_
              refine j_iadd hE dX2_putFace_64 ?_
              refine j_iast (ws' := ([n_Kinds g a (up2 (up2 (up2 ki_z 5 (Int32.toNatClampNeg ((x1 * 10) + x2)) x3) 6 (Int32.toNatClampNeg ((x1 * 10) + x3)) ((ki_z 6 (Int32.toNatClampNeg ((x1 * 10) + x3))) + 1)) 4 (Int32.toNatClampNeg x1) ((ki_z 4 (Int32.toNatClampNeg x1)) + x3))] : List va_W)) hE hf 0 rfl 3 (wg_Kinds_3 g a (up2 (up2 ki_z 5 (Int32.toNatClampNeg ((x1 * 10) + x2)) x3) 6 (Int32.toNatClampNeg ((x1 * 10) + x3)) ((ki_z 6 (Int32.toNatClampNeg ((x1 * 10) + x3))) + 1))) (wa_Kinds_3 g a (up2 (up2 ki_z 5 (Int32.toNatClampNeg ((x1 * 10) + x2)) x3) 6 (Int32.toNatClampNeg ((x1 * 10) + x3)) ((ki_z 6 (Int32.toNatClampNeg ((x1 * 10) + x3))) + 1)) (Int32.toNatClampNeg x1) ((ki_z 4 (Int32.toNatClampNeg x1)) + x3)) rfl dX2_putFace_65 (fun hf => ?_)
              obtain rfl := Option.some.inj hf
              exact j_vret hE hq rfl rfl dX2_putFace_66
def rm_Kinds_faceAt : Room := { frames := 0, cells := 0, slots := 0, locals := 0 }
def f_Kinds_faceAt_24 (ki_z : jZ) (x1 : Int32) (x2 : Int32)  (s0 : Int32) : Option (Int32) := (if s0 = 0 then some 0
    else (ix ((x1 * 10) + x2) 50).bind fun _ => some (ki_z 5 (Int32.toNatClampNeg ((x1 * 10) + x2))))
def f_Kinds_faceAt (ki_z : jZ) (x1 : Int32) (x2 : Int32) : Option (Int32) := (if x1 < 0 then f_Kinds_faceAt_24 ki_z x1 x2 0
    else (if 5 ≤ x1 then f_Kinds_faceAt_24 ki_z x1 x2 0
    else (if x2 < 0 then f_Kinds_faceAt_24 ki_z x1 x2 0
    else (if 10 ≤ x2 then f_Kinds_faceAt_24 ki_z x1 x2 0
    else f_Kinds_faceAt_24 ki_z x1 x2 1))))
set_option maxRecDepth 100000 in
theorem j_Kinds_faceAt_24 (E : jT) (g : jG) (a : Nat → Nat) (ki_z : jZ) (x1 : Int32) (x2 : Int32) (res : Int32) (hE : jOk E g RX2 cX2_faceAt 4 (some .int) rm_Kinds_faceAt) (hq : jEnd E g (some (.int res)) (([n_Kinds g a ki_z] : List va_W)) 0 0)  (s0 : Int32) (hf : f_Kinds_faceAt_24 ki_z x1 x2 s0 = some res) : J E g 0 0 (([n_Kinds g a ki_z] : List va_W)) [(0, .ref (a 0)), (1, .int x1), (2, .int x2)] 24 [.int s0] := by
  unfold f_Kinds_faceAt_24 at hf
  refine j_istore_n (lv' := [(3, .int s0), (0, .ref (a 0)), (1, .int x1), (2, .int x2)]) hE dX2_faceAt_24 rfl (by decide) rfl ?_
  refine j_iload_n hE dX2_faceAt_25 rfl 0 rfl ?_
  refine j_if_eq (tgt := 43) hE hf dX2_faceAt_26 (by decide) (fun c5 hf => ?_) (fun c5 hf => ?_)
  · refine j_iconst (v := 0) hE dX2_faceAt_43 (by decide) ?_
    obtain rfl := Option.some.inj hf
    exact j_iret hE hq rfl rfl dX2_faceAt_44
  · refine j_aload_n hE dX2_faceAt_29 rfl 1 rfl ?_
    refine j_get (v := .ref (a 4)) hE lg_Kinds_28 0 rfl 0 (wg_Kinds_0 g a ki_z) rfl dX2_faceAt_30 ?_
    refine j_iload_n hE dX2_faceAt_33 rfl 2 rfl ?_
    refine j_bipush (v := 10) hE dX2_faceAt_34 (by decide) ?_
    refine j_imul hE dX2_faceAt_36 ?_
    refine j_iload_n hE dX2_faceAt_37 rfl 3 rfl ?_
    refine j_iadd hE dX2_faceAt_38 ?_
    refine j_iald hE hf 0 rfl 4 (wg_Kinds_4 g a ki_z) dX2_faceAt_39 (fun hf => ?_)
    refine j_goto (tgt := 44) hE dX2_faceAt_40 (by decide) ?_
    obtain rfl := Option.some.inj hf
    exact j_iret hE hq rfl rfl dX2_faceAt_44
set_option maxRecDepth 100000 in
theorem c_Kinds_faceAt (l : Launch) (g : jG) (a : Nat → Nat) (ki_z : jZ) (x1 : Int32) (x2 : Int32) (res : Int32) (hf : f_Kinds_faceAt ki_z x1 x2 = some res) : MC l g yX2_faceAt cX2_faceAt 4 (some .int) rm_Kinds_faceAt [.ref (a 0), .int x1, .int x2] (([n_Kinds g a ki_z] : List va_W)) (some (.int res)) (([n_Kinds g a ki_z] : List va_W)) 0 0 := by
  refine MC_of (own := RX2) (lv := [(0, .ref (a 0)), (1, .int x1), (2, .int x2)]) (by decide) rfl (Nat.le_of_ble_eq_true rfl) rfl rfl (fun E hE hq => ?_)
  unfold f_Kinds_faceAt at hf
  refine j_iload_n hE dX2_faceAt_0 rfl 1 rfl ?_
  refine j_if_lt (tgt := 23) hE hf dX2_faceAt_1 (by decide) (fun c1 hf => ?_) (fun c1 hf => ?_)
  · refine j_iconst (v := 0) hE dX2_faceAt_23 (by decide) ?_
    exact j_Kinds_faceAt_24 E g a ki_z x1 x2 res hE hq 0 hf
  · refine j_iload_n hE dX2_faceAt_4 rfl 1 rfl ?_
    refine j_iconst (v := 5) hE dX2_faceAt_5 (by decide) ?_
    refine j_icmp_ge (tgt := 23) hE hf dX2_faceAt_6 (by decide) (fun c2 hf => ?_) (fun c2 hf => ?_)
    · refine j_iconst (v := 0) hE dX2_faceAt_23 (by decide) ?_
      exact j_Kinds_faceAt_24 E g a ki_z x1 x2 res hE hq 0 hf
    · refine j_iload_n hE dX2_faceAt_9 rfl 2 rfl ?_
      refine j_if_lt (tgt := 23) hE hf dX2_faceAt_10 (by decide) (fun c3 hf => ?_) (fun c3 hf => ?_)
      · refine j_iconst (v := 0) hE dX2_faceAt_23 (by decide) ?_
        exact j_Kinds_faceAt_24 E g a ki_z x1 x2 res hE hq 0 hf
      · refine j_iload_n hE dX2_faceAt_13 rfl 2 rfl ?_
        refine j_bipush (v := 10) hE dX2_faceAt_14 (by decide) ?_
        refine j_icmp_ge (tgt := 23) hE hf dX2_faceAt_16 (by decide) (fun c4 hf => ?_) (fun c4 hf => ?_)
        · refine j_iconst (v := 0) hE dX2_faceAt_23 (by decide) ?_
          exact j_Kinds_faceAt_24 E g a ki_z x1 x2 res hE hq 0 hf
        · refine j_iconst (v := 1) hE dX2_faceAt_19 (by decide) ?_
          refine j_goto (tgt := 24) hE dX2_faceAt_20 (by decide) ?_
          exact j_Kinds_faceAt_24 E g a ki_z x1 x2 res hE hq 1 hf
def rm_Kinds_howManyAre : Room := { frames := 0, cells := 0, slots := 0, locals := 0 }
def f_Kinds_howManyAre_24 (ki_z : jZ) (x1 : Int32) (x2 : Int32)  (s0 : Int32) : Option (Int32) := (if s0 = 0 then some 0
    else (ix ((x1 * 10) + x2) 50).bind fun _ => some (ki_z 6 (Int32.toNatClampNeg ((x1 * 10) + x2))))
def f_Kinds_howManyAre (ki_z : jZ) (x1 : Int32) (x2 : Int32) : Option (Int32) := (if x1 < 0 then f_Kinds_howManyAre_24 ki_z x1 x2 0
    else (if 5 ≤ x1 then f_Kinds_howManyAre_24 ki_z x1 x2 0
    else (if x2 < 0 then f_Kinds_howManyAre_24 ki_z x1 x2 0
    else (if 10 ≤ x2 then f_Kinds_howManyAre_24 ki_z x1 x2 0
    else f_Kinds_howManyAre_24 ki_z x1 x2 1))))
set_option maxRecDepth 100000 in
theorem j_Kinds_howManyAre_24 (E : jT) (g : jG) (a : Nat → Nat) (ki_z : jZ) (x1 : Int32) (x2 : Int32) (res : Int32) (hE : jOk E g RX2 cX2_howManyAre 4 (some .int) rm_Kinds_howManyAre) (hq : jEnd E g (some (.int res)) (([n_Kinds g a ki_z] : List va_W)) 0 0)  (s0 : Int32) (hf : f_Kinds_howManyAre_24 ki_z x1 x2 s0 = some res) : J E g 0 0 (([n_Kinds g a ki_z] : List va_W)) [(0, .ref (a 0)), (1, .int x1), (2, .int x2)] 24 [.int s0] := by
  unfold f_Kinds_howManyAre_24 at hf
  refine j_istore_n (lv' := [(3, .int s0), (0, .ref (a 0)), (1, .int x1), (2, .int x2)]) hE dX2_howManyAre_24 rfl (by decide) rfl ?_
  refine j_iload_n hE dX2_howManyAre_25 rfl 0 rfl ?_
  refine j_if_eq (tgt := 43) hE hf dX2_howManyAre_26 (by decide) (fun c5 hf => ?_) (fun c5 hf => ?_)
  · refine j_iconst (v := 0) hE dX2_howManyAre_43 (by decide) ?_
    obtain rfl := Option.some.inj hf
    exact j_iret hE hq rfl rfl dX2_howManyAre_44
  · refine j_aload_n hE dX2_howManyAre_29 rfl 1 rfl ?_
    refine j_get (v := .ref (a 5)) hE lg_Kinds_31 0 rfl 0 (wg_Kinds_0 g a ki_z) rfl dX2_howManyAre_30 ?_
    refine j_iload_n hE dX2_howManyAre_33 rfl 2 rfl ?_
    refine j_bipush (v := 10) hE dX2_howManyAre_34 (by decide) ?_
    refine j_imul hE dX2_howManyAre_36 ?_
    refine j_iload_n hE dX2_howManyAre_37 rfl 3 rfl ?_
    refine j_iadd hE dX2_howManyAre_38 ?_
    refine j_iald hE hf 0 rfl 5 (wg_Kinds_5 g a ki_z) dX2_howManyAre_39 (fun hf => ?_)
    refine j_goto (tgt := 44) hE dX2_howManyAre_40 (by decide) ?_
    obtain rfl := Option.some.inj hf
    exact j_iret hE hq rfl rfl dX2_howManyAre_44
set_option maxRecDepth 100000 in
theorem c_Kinds_howManyAre (l : Launch) (g : jG) (a : Nat → Nat) (ki_z : jZ) (x1 : Int32) (x2 : Int32) (res : Int32) (hf : f_Kinds_howManyAre ki_z x1 x2 = some res) : MC l g yX2_howManyAre cX2_howManyAre 4 (some .int) rm_Kinds_howManyAre [.ref (a 0), .int x1, .int x2] (([n_Kinds g a ki_z] : List va_W)) (some (.int res)) (([n_Kinds g a ki_z] : List va_W)) 0 0 := by
  refine MC_of (own := RX2) (lv := [(0, .ref (a 0)), (1, .int x1), (2, .int x2)]) (by decide) rfl (Nat.le_of_ble_eq_true rfl) rfl rfl (fun E hE hq => ?_)
  unfold f_Kinds_howManyAre at hf
  refine j_iload_n hE dX2_howManyAre_0 rfl 1 rfl ?_
  refine j_if_lt (tgt := 23) hE hf dX2_howManyAre_1 (by decide) (fun c1 hf => ?_) (fun c1 hf => ?_)
  · refine j_iconst (v := 0) hE dX2_howManyAre_23 (by decide) ?_
    exact j_Kinds_howManyAre_24 E g a ki_z x1 x2 res hE hq 0 hf
  · refine j_iload_n hE dX2_howManyAre_4 rfl 1 rfl ?_
    refine j_iconst (v := 5) hE dX2_howManyAre_5 (by decide) ?_
    refine j_icmp_ge (tgt := 23) hE hf dX2_howManyAre_6 (by decide) (fun c2 hf => ?_) (fun c2 hf => ?_)
    · refine j_iconst (v := 0) hE dX2_howManyAre_23 (by decide) ?_
      exact j_Kinds_howManyAre_24 E g a ki_z x1 x2 res hE hq 0 hf
    · refine j_iload_n hE dX2_howManyAre_9 rfl 2 rfl ?_
      refine j_if_lt (tgt := 23) hE hf dX2_howManyAre_10 (by decide) (fun c3 hf => ?_) (fun c3 hf => ?_)
      · refine j_iconst (v := 0) hE dX2_howManyAre_23 (by decide) ?_
        exact j_Kinds_howManyAre_24 E g a ki_z x1 x2 res hE hq 0 hf
      · refine j_iload_n hE dX2_howManyAre_13 rfl 2 rfl ?_
        refine j_bipush (v := 10) hE dX2_howManyAre_14 (by decide) ?_
        refine j_icmp_ge (tgt := 23) hE hf dX2_howManyAre_16 (by decide) (fun c4 hf => ?_) (fun c4 hf => ?_)
        · refine j_iconst (v := 0) hE dX2_howManyAre_23 (by decide) ?_
          exact j_Kinds_howManyAre_24 E g a ki_z x1 x2 res hE hq 0 hf
        · refine j_iconst (v := 1) hE dX2_howManyAre_19 (by decide) ?_
          refine j_goto (tgt := 24) hE dX2_howManyAre_20 (by decide) ?_
          exact j_Kinds_howManyAre_24 E g a ki_z x1 x2 res hE hq 1 hf
def rm_Tape_put : Room := { frames := 0, cells := 0, slots := 0, locals := 0 }
def f_Tape_put_3  (x1 : Int32)  : Nat → jZ → Int32 → Option (jZ)
  | 0, _, _ => none
  | n + 1, ta_z, v2 => (if v2 < 0 then some ta_z
    else (if (ta_z 1 0) < 0 then some ta_z
    else (if 600 ≤ (ta_z 1 0) then some ta_z
    else (ix (ta_z 1 0) 600).bind fun _ => f_Tape_put_3 x1 n (up2 (up2 ta_z 0 (Int32.toNatClampNeg (ta_z 1 0)) (vp_nar .byte (Int8.toInt32 (Int32.toInt8 (x1 >>> (v2 &&& 31)))))) 1 0 ((ta_z 1 0) + 1)) (v2 + (-8)))))
def f_Tape_put (ta_z : jZ) (x1 : Int32) : Option (jZ) := f_Tape_put_3 x1 FU ta_z 24
set_option maxRecDepth 100000 in
theorem j_Tape_put_3 (E : jT) (g : jG) (a : Nat → Nat)  (x1 : Int32) (res : jZ) (hE : jOk E g RX10 cX10_put 3 (none : Option Jvm.ClassFile.FieldType) rm_Tape_put) (hq : jEnd E g none (([n_Tape g a res] : List va_W)) 0 0)  : ∀ (n : Nat) (ta_z : jZ) (v2 : Int32), f_Tape_put_3 x1 n ta_z v2 = some res → J E g 0 0 (([n_Tape g a ta_z] : List va_W)) [(0, .ref (a 0)), (1, .int x1), (2, .int v2)] 3 [] := by
  intro n
  induction n with
  | zero =>
    intro ta_z v2 hf
    rw [f_Tape_put_3] at hf
    cases hf
  | succ n ih =>
    intro ta_z v2 hf
    rw [f_Tape_put_3] at hf
    refine j_iload_n hE dX10_put_3 rfl 2 rfl ?_
    refine j_if_lt (tgt := 55) hE hf dX10_put_4 (by decide) (fun c1 hf => ?_) (fun c1 hf => ?_)
    · obtain rfl := Option.some.inj hf
      exact j_vret hE hq rfl rfl dX10_put_55
    · refine j_aload_n hE dX10_put_7 rfl 0 rfl ?_
      refine j_get (v := .int (ta_z 1 0)) hE lg_Tape_15 0 rfl 0 (wg_Tape_0 g a ta_z) rfl dX10_put_8 ?_
      refine j_if_lt (tgt := 55) hE hf dX10_put_11 (by decide) (fun c2 hf => ?_) (fun c2 hf => ?_)
      · obtain rfl := Option.some.inj hf
        exact j_vret hE hq rfl rfl dX10_put_55
      · refine j_aload_n hE dX10_put_14 rfl 0 rfl ?_
        refine j_get (v := .int (ta_z 1 0)) hE lg_Tape_15 0 rfl 0 (wg_Tape_0 g a ta_z) rfl dX10_put_15 ?_
        refine j_aload_n hE dX10_put_18 rfl 0 rfl ?_
        refine j_get (v := .ref (a 1)) hE lg_Tape_9 0 rfl 0 (wg_Tape_0 g a ta_z) rfl dX10_put_19 ?_
        refine j_alen (v := 600) (t0 := 0) hE 0 rfl 1 (wg_Tape_1 g a ta_z) rfl rfl dX10_put_22 ?_
        refine j_icmp_ge (tgt := 55) hE hf dX10_put_23 (by decide) (fun c3 hf => ?_) (fun c3 hf => ?_)
        · obtain rfl := Option.some.inj hf
          exact j_vret hE hq rfl rfl dX10_put_55
        · refine j_aload_n hE dX10_put_26 rfl 0 rfl ?_
          refine j_get (v := .ref (a 1)) hE lg_Tape_9 0 rfl 0 (wg_Tape_0 g a ta_z) rfl dX10_put_27 ?_
          refine j_aload_n hE dX10_put_30 rfl 0 rfl ?_
          refine j_get (v := .int (ta_z 1 0)) hE lg_Tape_15 0 rfl 0 (wg_Tape_0 g a ta_z) rfl dX10_put_31 ?_
          refine j_iload_n hE dX10_put_34 rfl 1 rfl ?_
          refine j_iload_n hE dX10_put_35 rfl 2 rfl ?_
          refine j_ishr hE dX10_put_36 ?_
          refine j_i2b hE dX10_put_37 ?_
          refine j_bast (ws' := ([n_Tape g a (up2 ta_z 0 (Int32.toNatClampNeg (ta_z 1 0)) (vp_nar .byte (Int8.toInt32 (Int32.toInt8 (x1 >>> (v2 &&& 31))))))] : List va_W)) hE hf 0 rfl 1 (wg_Tape_1 g a ta_z) (wa_Tape_1 g a ta_z (Int32.toNatClampNeg (ta_z 1 0)) (vp_nar .byte (Int8.toInt32 (Int32.toInt8 (x1 >>> (v2 &&& 31)))))) rfl dX10_put_38 (fun hf => ?_)
          refine j_aload_n hE dX10_put_39 rfl 0 rfl ?_
          refine j_dup hE dX10_put_40 rfl ?_
          refine j_get (v := .int (ta_z 1 0)) hE lg_Tape_15 0 rfl 0 (wg_Tape_0 g a (up2 ta_z 0 (Int32.toNatClampNeg (ta_z 1 0)) (vp_nar .byte (Int8.toInt32 (Int32.toInt8 (x1 >>> (v2 &&& 31))))))) rfl dX10_put_41 ?_
          refine j_iconst (v := 1) hE dX10_put_44 (by decide) ?_
          refine j_iadd hE dX10_put_45 ?_
          refine j_put (v := .int ((ta_z 1 0) + 1)) (ws' := ([n_Tape g a (up2 (up2 ta_z 0 (Int32.toNatClampNeg (ta_z 1 0)) (vp_nar .byte (Int8.toInt32 (Int32.toInt8 (x1 >>> (v2 &&& 31)))))) 1 0 ((ta_z 1 0) + 1))] : List va_W)) hE lp_Tape_15 0 rfl 0 (wg_Tape_0 g a (up2 ta_z 0 (Int32.toNatClampNeg (ta_z 1 0)) (vp_nar .byte (Int8.toInt32 (Int32.toInt8 (x1 >>> (v2 &&& 31))))))) rfl rfl (Nat.le_of_ble_eq_true rfl) (wp_Tape_1 g a (up2 ta_z 0 (Int32.toNatClampNeg (ta_z 1 0)) (vp_nar .byte (Int8.toInt32 (Int32.toInt8 (x1 >>> (v2 &&& 31)))))) ((ta_z 1 0) + 1)) rfl dX10_put_46 ?_
          refine j_iinc (v := (v2 + (-8))) (lv' := [(2, .int (v2 + (-8))), (0, .ref (a 0)), (1, .int x1)]) hE dX10_put_49 2 rfl rfl (by decide) rfl ?_
          refine j_goto (tgt := 3) hE dX10_put_52 (by decide) ?_
          exact j_sub [1, 2, 0] rfl (ih (up2 (up2 ta_z 0 (Int32.toNatClampNeg (ta_z 1 0)) (vp_nar .byte (Int8.toInt32 (Int32.toInt8 (x1 >>> (v2 &&& 31)))))) 1 0 ((ta_z 1 0) + 1)) (v2 + (-8)) hf)
set_option maxRecDepth 100000 in
theorem c_Tape_put (l : Launch) (g : jG) (a : Nat → Nat) (ta_z : jZ) (x1 : Int32) (res : jZ) (hf : f_Tape_put ta_z x1 = some res) : MC l g yX10_put cX10_put 3 (none : Option Jvm.ClassFile.FieldType) rm_Tape_put [.ref (a 0), .int x1] (([n_Tape g a ta_z] : List va_W)) none (([n_Tape g a res] : List va_W)) 0 0 := by
  refine MC_of (own := RX10) (lv := [(0, .ref (a 0)), (1, .int x1)]) (by decide) rfl (Nat.le_of_ble_eq_true rfl) rfl rfl (fun E hE hq => ?_)
  unfold f_Tape_put at hf
  refine j_bipush (v := 24) hE dX10_put_0 (by decide) ?_
  refine j_istore_n (lv' := [(2, .int 24), (0, .ref (a 0)), (1, .int x1)]) hE dX10_put_2 rfl (by decide) rfl ?_
  exact j_sub [1, 2, 0] rfl (j_Tape_put_3 E g a x1 res hE hq FU ta_z 24 hf)
def rm_Tape_stepWord : Room := { frames := 0, cells := 0, slots := 0, locals := 0 }
def f_Tape_stepWord_2    : Nat → jZ → Int32 → Option (jZ)
  | 0, _, _ => none
  | n + 1, ta_z, v1 => (if (ta_z 3 0) < 0 then (if 6 < v1 then some (up2 ta_z 4 0 4)
    else some (up2 ta_z 4 0 1))
    else (if (ta_z 2 0) ≤ (ta_z 3 0) then (if 6 < v1 then some (up2 ta_z 4 0 4)
    else some (up2 ta_z 4 0 1))
    else (ix (ta_z 3 0) 600).bind fun _ => (if (ta_z 0 (Int32.toNatClampNeg (ta_z 3 0))) < 97 then (if 6 < v1 then some (up2 ta_z 4 0 4)
    else some (up2 ta_z 4 0 1))
    else (ix (ta_z 3 0) 600).bind fun _ => (if 122 < (ta_z 0 (Int32.toNatClampNeg (ta_z 3 0))) then (if 6 < v1 then some (up2 ta_z 4 0 4)
    else some (up2 ta_z 4 0 1))
    else (if 6 < (v1 + 1) then f_Tape_stepWord_2  n (up2 ta_z 3 0 ((ta_z 3 0) + 1)) (v1 + 1)
    else (ix (ta_z 3 0) 600).bind fun _ => f_Tape_stepWord_2  n (up2 (up2 ta_z 5 0 ((ta_z 5 0) ||| (((ta_z 0 (Int32.toNatClampNeg (ta_z 3 0))) - 96) <<< ((5 * (6 - (v1 + 1))) &&& 31)))) 3 0 ((ta_z 3 0) + 1)) (v1 + 1))))))
def f_Tape_stepWord (ta_z : jZ)  : Option (jZ) := f_Tape_stepWord_2 FU ta_z 0
set_option maxRecDepth 100000 in
theorem j_Tape_stepWord_2 (E : jT) (g : jG) (a : Nat → Nat)   (res : jZ) (hE : jOk E g RX10 cX10_stepWord 2 (none : Option Jvm.ClassFile.FieldType) rm_Tape_stepWord) (hq : jEnd E g none (([n_Tape g a res] : List va_W)) 0 0)  : ∀ (n : Nat) (ta_z : jZ) (v1 : Int32), f_Tape_stepWord_2 n ta_z v1 = some res → J E g 0 0 (([n_Tape g a ta_z] : List va_W)) [(0, .ref (a 0)), (1, .int v1)] 2 [] := by
  intro n
  induction n with
  | zero =>
    intro ta_z v1 hf
    rw [f_Tape_stepWord_2] at hf
    cases hf
  | succ n ih =>
    intro ta_z v1 hf
    rw [f_Tape_stepWord_2] at hf
    refine j_aload_n hE dX10_stepWord_2 rfl 0 rfl ?_
    refine j_get (v := .int (ta_z 3 0)) hE lg_Tape_22 0 rfl 0 (wg_Tape_0 g a ta_z) rfl dX10_stepWord_3 ?_
    refine j_if_lt (tgt := 98) hE hf dX10_stepWord_6 (by decide) (fun c1 hf => ?_) (fun c1 hf => ?_)
    · refine j_aload_n hE dX10_stepWord_98 rfl 0 rfl ?_
      refine j_iload_n hE dX10_stepWord_99 rfl 1 rfl ?_
      refine j_bipush (v := 6) hE dX10_stepWord_100 (by decide) ?_
      refine j_icmp_gt (tgt := 109) hE hf dX10_stepWord_102 (by decide) (fun c2 hf => ?_) (fun c2 hf => ?_)
      · refine j_iconst (v := 4) hE dX10_stepWord_109 (by decide) ?_
        refine j_put (v := .int 4) (ws' := ([n_Tape g a (up2 ta_z 4 0 4)] : List va_W)) hE lp_Tape_25 0 rfl 0 (wg_Tape_0 g a ta_z) rfl rfl (Nat.le_of_ble_eq_true rfl) (wp_Tape_4 g a ta_z 4) rfl dX10_stepWord_110 ?_
        obtain rfl := Option.some.inj hf
        exact j_vret hE hq rfl rfl dX10_stepWord_113
      · refine j_iconst (v := 1) hE dX10_stepWord_105 (by decide) ?_
        refine j_goto (tgt := 110) hE dX10_stepWord_106 (by decide) ?_
        refine j_put (v := .int 1) (ws' := ([n_Tape g a (up2 ta_z 4 0 1)] : List va_W)) hE lp_Tape_25 0 rfl 0 (wg_Tape_0 g a ta_z) rfl rfl (Nat.le_of_ble_eq_true rfl) (wp_Tape_4 g a ta_z 1) rfl dX10_stepWord_110 ?_
        obtain rfl := Option.some.inj hf
        exact j_vret hE hq rfl rfl dX10_stepWord_113
    · refine j_aload_n hE dX10_stepWord_9 rfl 0 rfl ?_
      refine j_get (v := .int (ta_z 3 0)) hE lg_Tape_22 0 rfl 0 (wg_Tape_0 g a ta_z) rfl dX10_stepWord_10 ?_
      refine j_aload_n hE dX10_stepWord_13 rfl 0 rfl ?_
      refine j_get (v := .int (ta_z 2 0)) hE lg_Tape_19 0 rfl 0 (wg_Tape_0 g a ta_z) rfl dX10_stepWord_14 ?_
      refine j_icmp_ge (tgt := 98) hE hf dX10_stepWord_17 (by decide) (fun c3 hf => ?_) (fun c3 hf => ?_)
      · refine j_aload_n hE dX10_stepWord_98 rfl 0 rfl ?_
        refine j_iload_n hE dX10_stepWord_99 rfl 1 rfl ?_
        refine j_bipush (v := 6) hE dX10_stepWord_100 (by decide) ?_
        refine j_icmp_gt (tgt := 109) hE hf dX10_stepWord_102 (by decide) (fun c4 hf => ?_) (fun c4 hf => ?_)
        · refine j_iconst (v := 4) hE dX10_stepWord_109 (by decide) ?_
          refine j_put (v := .int 4) (ws' := ([n_Tape g a (up2 ta_z 4 0 4)] : List va_W)) hE lp_Tape_25 0 rfl 0 (wg_Tape_0 g a ta_z) rfl rfl (Nat.le_of_ble_eq_true rfl) (wp_Tape_4 g a ta_z 4) rfl dX10_stepWord_110 ?_
          obtain rfl := Option.some.inj hf
          exact j_vret hE hq rfl rfl dX10_stepWord_113
        · refine j_iconst (v := 1) hE dX10_stepWord_105 (by decide) ?_
          refine j_goto (tgt := 110) hE dX10_stepWord_106 (by decide) ?_
          refine j_put (v := .int 1) (ws' := ([n_Tape g a (up2 ta_z 4 0 1)] : List va_W)) hE lp_Tape_25 0 rfl 0 (wg_Tape_0 g a ta_z) rfl rfl (Nat.le_of_ble_eq_true rfl) (wp_Tape_4 g a ta_z 1) rfl dX10_stepWord_110 ?_
          obtain rfl := Option.some.inj hf
          exact j_vret hE hq rfl rfl dX10_stepWord_113
      · refine j_aload_n hE dX10_stepWord_20 rfl 0 rfl ?_
        refine j_get (v := .ref (a 1)) hE lg_Tape_9 0 rfl 0 (wg_Tape_0 g a ta_z) rfl dX10_stepWord_21 ?_
        refine j_aload_n hE dX10_stepWord_24 rfl 0 rfl ?_
        refine j_get (v := .int (ta_z 3 0)) hE lg_Tape_22 0 rfl 0 (wg_Tape_0 g a ta_z) rfl dX10_stepWord_25 ?_
        refine j_bald hE hf 0 rfl 1 (wg_Tape_1 g a ta_z) dX10_stepWord_28 (fun hf => ?_)
        refine j_bipush (v := 97) hE dX10_stepWord_29 (by decide) ?_
        refine j_icmp_lt (tgt := 98) hE hf dX10_stepWord_31 (by decide) (fun c6 hf => ?_) (fun c6 hf => ?_)
        · refine j_aload_n hE dX10_stepWord_98 rfl 0 rfl ?_
          refine j_iload_n hE dX10_stepWord_99 rfl 1 rfl ?_
          refine j_bipush (v := 6) hE dX10_stepWord_100 (by decide) ?_
          refine j_icmp_gt (tgt := 109) hE hf dX10_stepWord_102 (by decide) (fun c7 hf => ?_) (fun c7 hf => ?_)
          · refine j_iconst (v := 4) hE dX10_stepWord_109 (by decide) ?_
            refine j_put (v := .int 4) (ws' := ([n_Tape g a (up2 ta_z 4 0 4)] : List va_W)) hE lp_Tape_25 0 rfl 0 (wg_Tape_0 g a ta_z) rfl rfl (Nat.le_of_ble_eq_true rfl) (wp_Tape_4 g a ta_z 4) rfl dX10_stepWord_110 ?_
            obtain rfl := Option.some.inj hf
            exact j_vret hE hq rfl rfl dX10_stepWord_113
          · refine j_iconst (v := 1) hE dX10_stepWord_105 (by decide) ?_
            refine j_goto (tgt := 110) hE dX10_stepWord_106 (by decide) ?_
            refine j_put (v := .int 1) (ws' := ([n_Tape g a (up2 ta_z 4 0 1)] : List va_W)) hE lp_Tape_25 0 rfl 0 (wg_Tape_0 g a ta_z) rfl rfl (Nat.le_of_ble_eq_true rfl) (wp_Tape_4 g a ta_z 1) rfl dX10_stepWord_110 ?_
            obtain rfl := Option.some.inj hf
            exact j_vret hE hq rfl rfl dX10_stepWord_113
        · refine j_aload_n hE dX10_stepWord_34 rfl 0 rfl ?_
          refine j_get (v := .ref (a 1)) hE lg_Tape_9 0 rfl 0 (wg_Tape_0 g a ta_z) rfl dX10_stepWord_35 ?_
          refine j_aload_n hE dX10_stepWord_38 rfl 0 rfl ?_
          refine j_get (v := .int (ta_z 3 0)) hE lg_Tape_22 0 rfl 0 (wg_Tape_0 g a ta_z) rfl dX10_stepWord_39 ?_
          refine j_bald hE hf 0 rfl 1 (wg_Tape_1 g a ta_z) dX10_stepWord_42 (fun hf => ?_)
          refine j_bipush (v := 122) hE dX10_stepWord_43 (by decide) ?_
          refine j_icmp_gt (tgt := 98) hE hf dX10_stepWord_45 (by decide) (fun c9 hf => ?_) (fun c9 hf => ?_)
          · refine j_aload_n hE dX10_stepWord_98 rfl 0 rfl ?_
            refine j_iload_n hE dX10_stepWord_99 rfl 1 rfl ?_
            refine j_bipush (v := 6) hE dX10_stepWord_100 (by decide) ?_
            refine j_icmp_gt (tgt := 109) hE hf dX10_stepWord_102 (by decide) (fun c10 hf => ?_) (fun c10 hf => ?_)
            · refine j_iconst (v := 4) hE dX10_stepWord_109 (by decide) ?_
              refine j_put (v := .int 4) (ws' := ([n_Tape g a (up2 ta_z 4 0 4)] : List va_W)) hE lp_Tape_25 0 rfl 0 (wg_Tape_0 g a ta_z) rfl rfl (Nat.le_of_ble_eq_true rfl) (wp_Tape_4 g a ta_z 4) rfl dX10_stepWord_110 ?_
              obtain rfl := Option.some.inj hf
              exact j_vret hE hq rfl rfl dX10_stepWord_113
            · refine j_iconst (v := 1) hE dX10_stepWord_105 (by decide) ?_
              refine j_goto (tgt := 110) hE dX10_stepWord_106 (by decide) ?_
              refine j_put (v := .int 1) (ws' := ([n_Tape g a (up2 ta_z 4 0 1)] : List va_W)) hE lp_Tape_25 0 rfl 0 (wg_Tape_0 g a ta_z) rfl rfl (Nat.le_of_ble_eq_true rfl) (wp_Tape_4 g a ta_z 1) rfl dX10_stepWord_110 ?_
              obtain rfl := Option.some.inj hf
              exact j_vret hE hq rfl rfl dX10_stepWord_113
          · refine j_iinc (v := (v1 + 1)) (lv' := [(1, .int (v1 + 1)), (0, .ref (a 0))]) hE dX10_stepWord_48 1 rfl rfl (by decide) rfl ?_
            refine j_iload_n hE dX10_stepWord_51 rfl 0 rfl ?_
            refine j_bipush (v := 6) hE dX10_stepWord_52 (by decide) ?_
            refine j_icmp_gt (tgt := 85) hE hf dX10_stepWord_54 (by decide) (fun c11 hf => ?_) (fun c11 hf => ?_)
            · refine j_aload_n hE dX10_stepWord_85 rfl 1 rfl ?_
              refine j_dup hE dX10_stepWord_86 rfl ?_
              refine j_get (v := .int (ta_z 3 0)) hE lg_Tape_22 0 rfl 0 (wg_Tape_0 g a ta_z) rfl dX10_stepWord_87 ?_
              refine j_iconst (v := 1) hE dX10_stepWord_90 (by decide) ?_
              refine j_iadd hE dX10_stepWord_91 ?_
              refine j_put (v := .int ((ta_z 3 0) + 1)) (ws' := ([n_Tape g a (up2 ta_z 3 0 ((ta_z 3 0) + 1))] : List va_W)) hE lp_Tape_22 0 rfl 0 (wg_Tape_0 g a ta_z) rfl rfl (Nat.le_of_ble_eq_true rfl) (wp_Tape_3 g a ta_z ((ta_z 3 0) + 1)) rfl dX10_stepWord_92 ?_
              refine j_goto (tgt := 2) hE dX10_stepWord_95 (by decide) ?_
              exact j_sub [1, 0] rfl (ih (up2 ta_z 3 0 ((ta_z 3 0) + 1)) (v1 + 1) hf)
            · refine j_aload_n hE dX10_stepWord_57 rfl 1 rfl ?_
              refine j_dup hE dX10_stepWord_58 rfl ?_
              refine j_get (v := .int (ta_z 5 0)) hE lg_Tape_28 0 rfl 0 (wg_Tape_0 g a ta_z) rfl dX10_stepWord_59 ?_
              refine j_aload_n hE dX10_stepWord_62 rfl 1 rfl ?_
              refine j_get (v := .ref (a 1)) hE lg_Tape_9 0 rfl 0 (wg_Tape_0 g a ta_z) rfl dX10_stepWord_63 ?_
              refine j_aload_n hE dX10_stepWord_66 rfl 1 rfl ?_
              refine j_get (v := .int (ta_z 3 0)) hE lg_Tape_22 0 rfl 0 (wg_Tape_0 g a ta_z) rfl dX10_stepWord_67 ?_
              refine j_bald hE hf 0 rfl 1 (wg_Tape_1 g a ta_z) dX10_stepWord_70 (fun hf => ?_)
              refine j_bipush (v := 96) hE dX10_stepWord_71 (by decide) ?_
              refine j_isub hE dX10_stepWord_73 ?_
              refine j_iconst (v := 5) hE dX10_stepWord_74 (by decide) ?_
              refine j_bipush (v := 6) hE dX10_stepWord_75 (by decide) ?_
              refine j_iload_n hE dX10_stepWord_77 rfl 0 rfl ?_
              refine j_isub hE dX10_stepWord_78 ?_
              refine j_imul hE dX10_stepWord_79 ?_
              refine j_ishl hE dX10_stepWord_80 ?_
              refine j_ior hE dX10_stepWord_81 ?_
              refine j_put (v := .int ((ta_z 5 0) ||| (((ta_z 0 (Int32.toNatClampNeg (ta_z 3 0))) - 96) <<< ((5 * (6 - (v1 + 1))) &&& 31)))) (ws' := ([n_Tape g a (up2 ta_z 5 0 ((ta_z 5 0) ||| (((ta_z 0 (Int32.toNatClampNeg (ta_z 3 0))) - 96) <<< ((5 * (6 - (v1 + 1))) &&& 31))))] : List va_W)) hE lp_Tape_28 0 rfl 0 (wg_Tape_0 g a ta_z) rfl rfl (Nat.le_of_ble_eq_true rfl) (wp_Tape_5 g a ta_z ((ta_z 5 0) ||| (((ta_z 0 (Int32.toNatClampNeg (ta_z 3 0))) - 96) <<< ((5 * (6 - (v1 + 1))) &&& 31)))) rfl dX10_stepWord_82 ?_
              refine j_aload_n hE dX10_stepWord_85 rfl 1 rfl ?_
              refine j_dup hE dX10_stepWord_86 rfl ?_
              refine j_get (v := .int (ta_z 3 0)) hE lg_Tape_22 0 rfl 0 (wg_Tape_0 g a (up2 ta_z 5 0 ((ta_z 5 0) ||| (((ta_z 0 (Int32.toNatClampNeg (ta_z 3 0))) - 96) <<< ((5 * (6 - (v1 + 1))) &&& 31))))) rfl dX10_stepWord_87 ?_
              refine j_iconst (v := 1) hE dX10_stepWord_90 (by decide) ?_
              refine j_iadd hE dX10_stepWord_91 ?_
              refine j_put (v := .int ((ta_z 3 0) + 1)) (ws' := ([n_Tape g a (up2 (up2 ta_z 5 0 ((ta_z 5 0) ||| (((ta_z 0 (Int32.toNatClampNeg (ta_z 3 0))) - 96) <<< ((5 * (6 - (v1 + 1))) &&& 31)))) 3 0 ((ta_z 3 0) + 1))] : List va_W)) hE lp_Tape_22 0 rfl 0 (wg_Tape_0 g a (up2 ta_z 5 0 ((ta_z 5 0) ||| (((ta_z 0 (Int32.toNatClampNeg (ta_z 3 0))) - 96) <<< ((5 * (6 - (v1 + 1))) &&& 31))))) rfl rfl (Nat.le_of_ble_eq_true rfl) (wp_Tape_3 g a (up2 ta_z 5 0 ((ta_z 5 0) ||| (((ta_z 0 (Int32.toNatClampNeg (ta_z 3 0))) - 96) <<< ((5 * (6 - (v1 + 1))) &&& 31)))) ((ta_z 3 0) + 1)) rfl dX10_stepWord_92 ?_
              refine j_goto (tgt := 2) hE dX10_stepWord_95 (by decide) ?_
              exact j_sub [1, 0] rfl (ih (up2 (up2 ta_z 5 0 ((ta_z 5 0) ||| (((ta_z 0 (Int32.toNatClampNeg (ta_z 3 0))) - 96) <<< ((5 * (6 - (v1 + 1))) &&& 31)))) 3 0 ((ta_z 3 0) + 1)) (v1 + 1) hf)
set_option maxRecDepth 100000 in
theorem c_Tape_stepWord (l : Launch) (g : jG) (a : Nat → Nat) (ta_z : jZ)  (res : jZ) (hf : f_Tape_stepWord ta_z = some res) : MC l g yX10_stepWord cX10_stepWord 2 (none : Option Jvm.ClassFile.FieldType) rm_Tape_stepWord [.ref (a 0)] (([n_Tape g a ta_z] : List va_W)) none (([n_Tape g a res] : List va_W)) 0 0 := by
  refine MC_of (own := RX10) (lv := [(0, .ref (a 0))]) (by decide) rfl (Nat.le_of_ble_eq_true rfl) rfl rfl (fun E hE hq => ?_)
  unfold f_Tape_stepWord at hf
  refine j_iconst (v := 0) hE dX10_stepWord_0 (by decide) ?_
  refine j_istore_n (lv' := [(1, .int 0), (0, .ref (a 0))]) hE dX10_stepWord_1 rfl (by decide) rfl ?_
  exact j_sub [1, 0] rfl (j_Tape_stepWord_2 E g a res hE hq FU ta_z 0 hf)
def rm_Tape_stepSign : Room := { frames := 0, cells := 0, slots := 0, locals := 0 }
def f_Tape_stepSign_96  (x1 : Int32)  (ta_z : jZ) (v2 : Int32) : Option (jZ) := (if x1 = 62 then (if v2 = 61 then (if 258 = x1 then some (up2 ta_z 5 0 258)
    else some (up2 (up2 ta_z 5 0 258) 3 0 ((ta_z 3 0) + 1)))
    else (if (ta_z 5 0) = x1 then some ta_z
    else some (up2 ta_z 3 0 ((ta_z 3 0) + 1))))
    else (if (ta_z 5 0) = x1 then some ta_z
    else some (up2 ta_z 3 0 ((ta_z 3 0) + 1))))
def f_Tape_stepSign_74  (x1 : Int32)  (ta_z : jZ) (v2 : Int32) : Option (jZ) := (if x1 = 60 then (if v2 = 62 then (if 257 = x1 then some (up2 ta_z 5 0 257)
    else some (up2 (up2 ta_z 5 0 257) 3 0 ((ta_z 3 0) + 1)))
    else f_Tape_stepSign_96 x1 ta_z v2)
    else f_Tape_stepSign_96 x1 ta_z v2)
def f_Tape_stepSign_41  (x1 : Int32)  (ta_z : jZ) (s0 : Int32) : Option (jZ) := (if x1 = 60 then (if s0 = 61 then (if 256 = x1 then some (up2 (up2 (up2 ta_z 5 0 x1) 4 0 3) 5 0 256)
    else some (up2 (up2 (up2 (up2 ta_z 5 0 x1) 4 0 3) 5 0 256) 3 0 ((ta_z 3 0) + 1)))
    else f_Tape_stepSign_74 x1 (up2 (up2 ta_z 5 0 x1) 4 0 3) s0)
    else f_Tape_stepSign_74 x1 (up2 (up2 ta_z 5 0 x1) 4 0 3) s0)
def f_Tape_stepSign (ta_z : jZ) (x1 : Int32) : Option (jZ) := (if ((ta_z 3 0) + 1) < 0 then f_Tape_stepSign_41 x1 (up2 ta_z 3 0 ((ta_z 3 0) + 1)) 0
    else (if (ta_z 2 0) ≤ ((ta_z 3 0) + 1) then f_Tape_stepSign_41 x1 (up2 ta_z 3 0 ((ta_z 3 0) + 1)) 0
    else (ix ((ta_z 3 0) + 1) 600).bind fun _ => f_Tape_stepSign_41 x1 (up2 ta_z 3 0 ((ta_z 3 0) + 1)) (ta_z 0 (Int32.toNatClampNeg ((ta_z 3 0) + 1)))))
set_option maxRecDepth 100000 in
theorem j_Tape_stepSign_96 (E : jT) (g : jG) (a : Nat → Nat)  (x1 : Int32) (res : jZ) (hE : jOk E g RX10 cX10_stepSign 3 (none : Option Jvm.ClassFile.FieldType) rm_Tape_stepSign) (hq : jEnd E g none (([n_Tape g a res] : List va_W)) 0 0)  (ta_z : jZ) (v2 : Int32) (hf : f_Tape_stepSign_96 x1 ta_z v2 = some res) : J E g 0 0 (([n_Tape g a ta_z] : List va_W)) [(0, .ref (a 0)), (1, .int x1), (2, .int v2)] 96 [] := by
  unfold f_Tape_stepSign_96 at hf
  refine j_iload_n hE dX10_stepSign_96 rfl 1 rfl ?_
  refine j_bipush (v := 62) hE dX10_stepSign_97 (by decide) ?_
  refine j_icmp_ne (tgt := 115) hE hf dX10_stepSign_99 (by decide) (fun c10 hf => ?_) (fun c10 hf => ?_)
  · refine j_aload_n hE dX10_stepSign_115 rfl 0 rfl ?_
    refine j_get (v := .int (ta_z 5 0)) hE lg_Tape_28 0 rfl 0 (wg_Tape_0 g a ta_z) rfl dX10_stepSign_116 ?_
    refine j_iload_n hE dX10_stepSign_119 rfl 1 rfl ?_
    refine j_icmp_eq (tgt := 133) hE hf dX10_stepSign_120 (by decide) (fun c11 hf => ?_) (fun c11 hf => ?_)
    · obtain rfl := Option.some.inj hf
      exact j_vret hE hq rfl rfl dX10_stepSign_133
    · refine j_aload_n hE dX10_stepSign_123 rfl 0 rfl ?_
      refine j_dup hE dX10_stepSign_124 rfl ?_
      refine j_get (v := .int (ta_z 3 0)) hE lg_Tape_22 0 rfl 0 (wg_Tape_0 g a ta_z) rfl dX10_stepSign_125 ?_
      refine j_iconst (v := 1) hE dX10_stepSign_128 (by decide) ?_
      refine j_iadd hE dX10_stepSign_129 ?_
      refine j_put (v := .int ((ta_z 3 0) + 1)) (ws' := ([n_Tape g a (up2 ta_z 3 0 ((ta_z 3 0) + 1))] : List va_W)) hE lp_Tape_22 0 rfl 0 (wg_Tape_0 g a ta_z) rfl rfl (Nat.le_of_ble_eq_true rfl) (wp_Tape_3 g a ta_z ((ta_z 3 0) + 1)) rfl dX10_stepSign_130 ?_
      obtain rfl := Option.some.inj hf
      exact j_vret hE hq rfl rfl dX10_stepSign_133
  · refine j_iload_n hE dX10_stepSign_102 rfl 2 rfl ?_
    refine j_bipush (v := 61) hE dX10_stepSign_103 (by decide) ?_
    refine j_icmp_ne (tgt := 115) hE hf dX10_stepSign_105 (by decide) (fun c12 hf => ?_) (fun c12 hf => ?_)
    · refine j_aload_n hE dX10_stepSign_115 rfl 0 rfl ?_
      refine j_get (v := .int (ta_z 5 0)) hE lg_Tape_28 0 rfl 0 (wg_Tape_0 g a ta_z) rfl dX10_stepSign_116 ?_
      refine j_iload_n hE dX10_stepSign_119 rfl 1 rfl ?_
      refine j_icmp_eq (tgt := 133) hE hf dX10_stepSign_120 (by decide) (fun c13 hf => ?_) (fun c13 hf => ?_)
      · obtain rfl := Option.some.inj hf
        exact j_vret hE hq rfl rfl dX10_stepSign_133
      · refine j_aload_n hE dX10_stepSign_123 rfl 0 rfl ?_
        refine j_dup hE dX10_stepSign_124 rfl ?_
        refine j_get (v := .int (ta_z 3 0)) hE lg_Tape_22 0 rfl 0 (wg_Tape_0 g a ta_z) rfl dX10_stepSign_125 ?_
        refine j_iconst (v := 1) hE dX10_stepSign_128 (by decide) ?_
        refine j_iadd hE dX10_stepSign_129 ?_
        refine j_put (v := .int ((ta_z 3 0) + 1)) (ws' := ([n_Tape g a (up2 ta_z 3 0 ((ta_z 3 0) + 1))] : List va_W)) hE lp_Tape_22 0 rfl 0 (wg_Tape_0 g a ta_z) rfl rfl (Nat.le_of_ble_eq_true rfl) (wp_Tape_3 g a ta_z ((ta_z 3 0) + 1)) rfl dX10_stepSign_130 ?_
        obtain rfl := Option.some.inj hf
        exact j_vret hE hq rfl rfl dX10_stepSign_133
    · refine j_aload_n hE dX10_stepSign_108 rfl 0 rfl ?_
      refine j_sipush (v := 258) hE dX10_stepSign_109 (by decide) ?_
      refine j_put (v := .int 258) (ws' := ([n_Tape g a (up2 ta_z 5 0 258)] : List va_W)) hE lp_Tape_28 0 rfl 0 (wg_Tape_0 g a ta_z) rfl rfl (Nat.le_of_ble_eq_true rfl) (wp_Tape_5 g a ta_z 258) rfl dX10_stepSign_112 ?_
      refine j_aload_n hE dX10_stepSign_115 rfl 0 rfl ?_
      refine j_get (v := .int 258) hE lg_Tape_28 0 rfl 0 (wg_Tape_0 g a (up2 ta_z 5 0 258)) rfl dX10_stepSign_116 ?_
      refine j_iload_n hE dX10_stepSign_119 rfl 1 rfl ?_
      refine j_icmp_eq (tgt := 133) hE hf dX10_stepSign_120 (by decide) (fun c14 hf => ?_) (fun c14 hf => ?_)
      · obtain rfl := Option.some.inj hf
        exact j_vret hE hq rfl rfl dX10_stepSign_133
      · refine j_aload_n hE dX10_stepSign_123 rfl 0 rfl ?_
        refine j_dup hE dX10_stepSign_124 rfl ?_
        refine j_get (v := .int (ta_z 3 0)) hE lg_Tape_22 0 rfl 0 (wg_Tape_0 g a (up2 ta_z 5 0 258)) rfl dX10_stepSign_125 ?_
        refine j_iconst (v := 1) hE dX10_stepSign_128 (by decide) ?_
        refine j_iadd hE dX10_stepSign_129 ?_
        refine j_put (v := .int ((ta_z 3 0) + 1)) (ws' := ([n_Tape g a (up2 (up2 ta_z 5 0 258) 3 0 ((ta_z 3 0) + 1))] : List va_W)) hE lp_Tape_22 0 rfl 0 (wg_Tape_0 g a (up2 ta_z 5 0 258)) rfl rfl (Nat.le_of_ble_eq_true rfl) (wp_Tape_3 g a (up2 ta_z 5 0 258) ((ta_z 3 0) + 1)) rfl dX10_stepSign_130 ?_
        obtain rfl := Option.some.inj hf
        exact j_vret hE hq rfl rfl dX10_stepSign_133
set_option maxRecDepth 100000 in
theorem j_Tape_stepSign_74 (E : jT) (g : jG) (a : Nat → Nat)  (x1 : Int32) (res : jZ) (hE : jOk E g RX10 cX10_stepSign 3 (none : Option Jvm.ClassFile.FieldType) rm_Tape_stepSign) (hq : jEnd E g none (([n_Tape g a res] : List va_W)) 0 0)  (ta_z : jZ) (v2 : Int32) (hf : f_Tape_stepSign_74 x1 ta_z v2 = some res) : J E g 0 0 (([n_Tape g a ta_z] : List va_W)) [(0, .ref (a 0)), (1, .int x1), (2, .int v2)] 74 [] := by
  unfold f_Tape_stepSign_74 at hf
  refine j_iload_n hE dX10_stepSign_74 rfl 1 rfl ?_
  refine j_bipush (v := 60) hE dX10_stepSign_75 (by decide) ?_
  refine j_icmp_ne (tgt := 96) hE hf dX10_stepSign_77 (by decide) (fun c7 hf => ?_) (fun c7 hf => ?_)
  · exact j_Tape_stepSign_96 E g a x1 res hE hq ta_z v2 hf
  · refine j_iload_n hE dX10_stepSign_80 rfl 2 rfl ?_
    refine j_bipush (v := 62) hE dX10_stepSign_81 (by decide) ?_
    refine j_icmp_ne (tgt := 96) hE hf dX10_stepSign_83 (by decide) (fun c8 hf => ?_) (fun c8 hf => ?_)
    · exact j_Tape_stepSign_96 E g a x1 res hE hq ta_z v2 hf
    · refine j_aload_n hE dX10_stepSign_86 rfl 0 rfl ?_
      refine j_sipush (v := 257) hE dX10_stepSign_87 (by decide) ?_
      refine j_put (v := .int 257) (ws' := ([n_Tape g a (up2 ta_z 5 0 257)] : List va_W)) hE lp_Tape_28 0 rfl 0 (wg_Tape_0 g a ta_z) rfl rfl (Nat.le_of_ble_eq_true rfl) (wp_Tape_5 g a ta_z 257) rfl dX10_stepSign_90 ?_
      refine j_goto (tgt := 115) hE dX10_stepSign_93 (by decide) ?_
      refine j_aload_n hE dX10_stepSign_115 rfl 0 rfl ?_
      refine j_get (v := .int 257) hE lg_Tape_28 0 rfl 0 (wg_Tape_0 g a (up2 ta_z 5 0 257)) rfl dX10_stepSign_116 ?_
      refine j_iload_n hE dX10_stepSign_119 rfl 1 rfl ?_
      refine j_icmp_eq (tgt := 133) hE hf dX10_stepSign_120 (by decide) (fun c9 hf => ?_) (fun c9 hf => ?_)
      · obtain rfl := Option.some.inj hf
        exact j_vret hE hq rfl rfl dX10_stepSign_133
      · refine j_aload_n hE dX10_stepSign_123 rfl 0 rfl ?_
        refine j_dup hE dX10_stepSign_124 rfl ?_
        refine j_get (v := .int (ta_z 3 0)) hE lg_Tape_22 0 rfl 0 (wg_Tape_0 g a (up2 ta_z 5 0 257)) rfl dX10_stepSign_125 ?_
        refine j_iconst (v := 1) hE dX10_stepSign_128 (by decide) ?_
        refine j_iadd hE dX10_stepSign_129 ?_
        refine j_put (v := .int ((ta_z 3 0) + 1)) (ws' := ([n_Tape g a (up2 (up2 ta_z 5 0 257) 3 0 ((ta_z 3 0) + 1))] : List va_W)) hE lp_Tape_22 0 rfl 0 (wg_Tape_0 g a (up2 ta_z 5 0 257)) rfl rfl (Nat.le_of_ble_eq_true rfl) (wp_Tape_3 g a (up2 ta_z 5 0 257) ((ta_z 3 0) + 1)) rfl dX10_stepSign_130 ?_
        obtain rfl := Option.some.inj hf
        exact j_vret hE hq rfl rfl dX10_stepSign_133
set_option maxRecDepth 100000 in
theorem j_Tape_stepSign_41 (E : jT) (g : jG) (a : Nat → Nat)  (x1 : Int32) (res : jZ) (hE : jOk E g RX10 cX10_stepSign 3 (none : Option Jvm.ClassFile.FieldType) rm_Tape_stepSign) (hq : jEnd E g none (([n_Tape g a res] : List va_W)) 0 0)  (ta_z : jZ) (s0 : Int32) (hf : f_Tape_stepSign_41 x1 ta_z s0 = some res) : J E g 0 0 (([n_Tape g a ta_z] : List va_W)) [(0, .ref (a 0)), (1, .int x1)] 41 [.int s0] := by
  unfold f_Tape_stepSign_41 at hf
  refine j_istore_n (lv' := [(2, .int s0), (0, .ref (a 0)), (1, .int x1)]) hE dX10_stepSign_41 rfl (by decide) rfl ?_
  refine j_aload_n hE dX10_stepSign_42 rfl 1 rfl ?_
  refine j_iload_n hE dX10_stepSign_43 rfl 2 rfl ?_
  refine j_put (v := .int x1) (ws' := ([n_Tape g a (up2 ta_z 5 0 x1)] : List va_W)) hE lp_Tape_28 0 rfl 0 (wg_Tape_0 g a ta_z) rfl rfl (Nat.le_of_ble_eq_true rfl) (wp_Tape_5 g a ta_z x1) rfl dX10_stepSign_44 ?_
  refine j_aload_n hE dX10_stepSign_47 rfl 1 rfl ?_
  refine j_iconst (v := 3) hE dX10_stepSign_48 (by decide) ?_
  refine j_put (v := .int 3) (ws' := ([n_Tape g a (up2 (up2 ta_z 5 0 x1) 4 0 3)] : List va_W)) hE lp_Tape_25 0 rfl 0 (wg_Tape_0 g a (up2 ta_z 5 0 x1)) rfl rfl (Nat.le_of_ble_eq_true rfl) (wp_Tape_4 g a (up2 ta_z 5 0 x1) 3) rfl dX10_stepSign_49 ?_
  refine j_iload_n hE dX10_stepSign_52 rfl 2 rfl ?_
  refine j_bipush (v := 60) hE dX10_stepSign_53 (by decide) ?_
  refine j_icmp_ne (tgt := 74) hE hf dX10_stepSign_55 (by decide) (fun c4 hf => ?_) (fun c4 hf => ?_)
  · exact j_sub [1, 2, 0] rfl (j_Tape_stepSign_74 E g a x1 res hE hq (up2 (up2 ta_z 5 0 x1) 4 0 3) s0 hf)
  · refine j_iload_n hE dX10_stepSign_58 rfl 0 rfl ?_
    refine j_bipush (v := 61) hE dX10_stepSign_59 (by decide) ?_
    refine j_icmp_ne (tgt := 74) hE hf dX10_stepSign_61 (by decide) (fun c5 hf => ?_) (fun c5 hf => ?_)
    · exact j_sub [1, 2, 0] rfl (j_Tape_stepSign_74 E g a x1 res hE hq (up2 (up2 ta_z 5 0 x1) 4 0 3) s0 hf)
    · refine j_aload_n hE dX10_stepSign_64 rfl 1 rfl ?_
      refine j_sipush (v := 256) hE dX10_stepSign_65 (by decide) ?_
      refine j_put (v := .int 256) (ws' := ([n_Tape g a (up2 (up2 (up2 ta_z 5 0 x1) 4 0 3) 5 0 256)] : List va_W)) hE lp_Tape_28 0 rfl 0 (wg_Tape_0 g a (up2 (up2 ta_z 5 0 x1) 4 0 3)) rfl rfl (Nat.le_of_ble_eq_true rfl) (wp_Tape_5 g a (up2 (up2 ta_z 5 0 x1) 4 0 3) 256) rfl dX10_stepSign_68 ?_
      refine j_goto (tgt := 115) hE dX10_stepSign_71 (by decide) ?_
      refine j_aload_n hE dX10_stepSign_115 rfl 1 rfl ?_
      refine j_get (v := .int 256) hE lg_Tape_28 0 rfl 0 (wg_Tape_0 g a (up2 (up2 (up2 ta_z 5 0 x1) 4 0 3) 5 0 256)) rfl dX10_stepSign_116 ?_
      refine j_iload_n hE dX10_stepSign_119 rfl 2 rfl ?_
      refine j_icmp_eq (tgt := 133) hE hf dX10_stepSign_120 (by decide) (fun c6 hf => ?_) (fun c6 hf => ?_)
      · obtain rfl := Option.some.inj hf
        exact j_vret hE hq rfl rfl dX10_stepSign_133
      · refine j_aload_n hE dX10_stepSign_123 rfl 1 rfl ?_
        refine j_dup hE dX10_stepSign_124 rfl ?_
        refine j_get (v := .int (ta_z 3 0)) hE lg_Tape_22 0 rfl 0 (wg_Tape_0 g a (up2 (up2 (up2 ta_z 5 0 x1) 4 0 3) 5 0 256)) rfl dX10_stepSign_125 ?_
        refine j_iconst (v := 1) hE dX10_stepSign_128 (by decide) ?_
        refine j_iadd hE dX10_stepSign_129 ?_
        refine j_put (v := .int ((ta_z 3 0) + 1)) (ws' := ([n_Tape g a (up2 (up2 (up2 (up2 ta_z 5 0 x1) 4 0 3) 5 0 256) 3 0 ((ta_z 3 0) + 1))] : List va_W)) hE lp_Tape_22 0 rfl 0 (wg_Tape_0 g a (up2 (up2 (up2 ta_z 5 0 x1) 4 0 3) 5 0 256)) rfl rfl (Nat.le_of_ble_eq_true rfl) (wp_Tape_3 g a (up2 (up2 (up2 ta_z 5 0 x1) 4 0 3) 5 0 256) ((ta_z 3 0) + 1)) rfl dX10_stepSign_130 ?_
        obtain rfl := Option.some.inj hf
        exact j_vret hE hq rfl rfl dX10_stepSign_133
set_option maxRecDepth 100000 in
theorem c_Tape_stepSign (l : Launch) (g : jG) (a : Nat → Nat) (ta_z : jZ) (x1 : Int32) (res : jZ) (hf : f_Tape_stepSign ta_z x1 = some res) : MC l g yX10_stepSign cX10_stepSign 3 (none : Option Jvm.ClassFile.FieldType) rm_Tape_stepSign [.ref (a 0), .int x1] (([n_Tape g a ta_z] : List va_W)) none (([n_Tape g a res] : List va_W)) 0 0 := by
  refine MC_of (own := RX10) (lv := [(0, .ref (a 0)), (1, .int x1)]) (by decide) rfl (Nat.le_of_ble_eq_true rfl) rfl rfl (fun E hE hq => ?_)
  unfold f_Tape_stepSign at hf
  refine j_aload_n hE dX10_stepSign_0 rfl 0 rfl ?_
  refine j_dup hE dX10_stepSign_1 rfl ?_
  refine j_get (v := .int (ta_z 3 0)) hE lg_Tape_22 0 rfl 0 (wg_Tape_0 g a ta_z) rfl dX10_stepSign_2 ?_
  refine j_iconst (v := 1) hE dX10_stepSign_5 (by decide) ?_
  refine j_iadd hE dX10_stepSign_6 ?_
  refine j_put (v := .int ((ta_z 3 0) + 1)) (ws' := ([n_Tape g a (up2 ta_z 3 0 ((ta_z 3 0) + 1))] : List va_W)) hE lp_Tape_22 0 rfl 0 (wg_Tape_0 g a ta_z) rfl rfl (Nat.le_of_ble_eq_true rfl) (wp_Tape_3 g a ta_z ((ta_z 3 0) + 1)) rfl dX10_stepSign_7 ?_
  refine j_aload_n hE dX10_stepSign_10 rfl 0 rfl ?_
  refine j_get (v := .int ((ta_z 3 0) + 1)) hE lg_Tape_22 0 rfl 0 (wg_Tape_0 g a (up2 ta_z 3 0 ((ta_z 3 0) + 1))) rfl dX10_stepSign_11 ?_
  refine j_if_lt (tgt := 40) hE hf dX10_stepSign_14 (by decide) (fun c1 hf => ?_) (fun c1 hf => ?_)
  · refine j_iconst (v := 0) hE dX10_stepSign_40 (by decide) ?_
    exact j_Tape_stepSign_41 E g a x1 res hE hq (up2 ta_z 3 0 ((ta_z 3 0) + 1)) 0 hf
  · refine j_aload_n hE dX10_stepSign_17 rfl 0 rfl ?_
    refine j_get (v := .int ((ta_z 3 0) + 1)) hE lg_Tape_22 0 rfl 0 (wg_Tape_0 g a (up2 ta_z 3 0 ((ta_z 3 0) + 1))) rfl dX10_stepSign_18 ?_
    refine j_aload_n hE dX10_stepSign_21 rfl 0 rfl ?_
    refine j_get (v := .int (ta_z 2 0)) hE lg_Tape_19 0 rfl 0 (wg_Tape_0 g a (up2 ta_z 3 0 ((ta_z 3 0) + 1))) rfl dX10_stepSign_22 ?_
    refine j_icmp_ge (tgt := 40) hE hf dX10_stepSign_25 (by decide) (fun c2 hf => ?_) (fun c2 hf => ?_)
    · refine j_iconst (v := 0) hE dX10_stepSign_40 (by decide) ?_
      exact j_Tape_stepSign_41 E g a x1 res hE hq (up2 ta_z 3 0 ((ta_z 3 0) + 1)) 0 hf
    · refine j_aload_n hE dX10_stepSign_28 rfl 0 rfl ?_
      refine j_get (v := .ref (a 1)) hE lg_Tape_9 0 rfl 0 (wg_Tape_0 g a (up2 ta_z 3 0 ((ta_z 3 0) + 1))) rfl dX10_stepSign_29 ?_
      refine j_aload_n hE dX10_stepSign_32 rfl 0 rfl ?_
      refine j_get (v := .int ((ta_z 3 0) + 1)) hE lg_Tape_22 0 rfl 0 (wg_Tape_0 g a (up2 ta_z 3 0 ((ta_z 3 0) + 1))) rfl dX10_stepSign_33 ?_
      refine j_bald hE hf 0 rfl 1 (wg_Tape_1 g a (up2 ta_z 3 0 ((ta_z 3 0) + 1))) dX10_stepSign_36 (fun hf => ?_)
      refine j_st (st' := [.int (ta_z 0 (Int32.toNatClampNeg ((ta_z 3 0) + 1)))]) rfl ?_
      refine j_goto (tgt := 41) hE dX10_stepSign_37 (by decide) ?_
      exact j_Tape_stepSign_41 E g a x1 res hE hq (up2 ta_z 3 0 ((ta_z 3 0) + 1)) (ta_z 0 (Int32.toNatClampNeg ((ta_z 3 0) + 1))) hf
def rm_Tape_stepDigits : Room := { frames := 0, cells := 0, slots := 0, locals := 0 }
def f_Tape_stepDigits_0    : Nat → jZ → Option (jZ)
  | 0, _ => none
  | n + 1, ta_z => (if (ta_z 3 0) < 0 then some (up2 ta_z 4 0 2)
    else (if (ta_z 2 0) ≤ (ta_z 3 0) then some (up2 ta_z 4 0 2)
    else (ix (ta_z 3 0) 600).bind fun _ => (if (ta_z 0 (Int32.toNatClampNeg (ta_z 3 0))) < 48 then some (up2 ta_z 4 0 2)
    else (ix (ta_z 3 0) 600).bind fun _ => (if 57 < (ta_z 0 (Int32.toNatClampNeg (ta_z 3 0))) then some (up2 ta_z 4 0 2)
    else (ix (ta_z 3 0) 600).bind fun _ => (if (((10 * (ta_z 5 0)) + (ta_z 0 (Int32.toNatClampNeg (ta_z 3 0)))) - 48) ≤ 1000 then f_Tape_stepDigits_0  n (up2 (up2 ta_z 5 0 (((10 * (ta_z 5 0)) + (ta_z 0 (Int32.toNatClampNeg (ta_z 3 0)))) - 48)) 3 0 ((ta_z 3 0) + 1))
    else f_Tape_stepDigits_0  n (up2 (up2 ta_z 5 0 1000) 3 0 ((ta_z 3 0) + 1)))))))
def f_Tape_stepDigits (ta_z : jZ)  : Option (jZ) := f_Tape_stepDigits_0 FU ta_z
set_option maxRecDepth 100000 in
theorem j_Tape_stepDigits_0 (E : jT) (g : jG) (a : Nat → Nat)   (res : jZ) (hE : jOk E g RX10 cX10_stepDigits 2 (none : Option Jvm.ClassFile.FieldType) rm_Tape_stepDigits) (hq : jEnd E g none (([n_Tape g a res] : List va_W)) 0 0)  : ∀ (n : Nat) (ta_z : jZ), f_Tape_stepDigits_0 n ta_z = some res → J E g 0 0 (([n_Tape g a ta_z] : List va_W)) [(0, .ref (a 0))] 0 [] := by
  intro n
  induction n with
  | zero =>
    intro ta_z hf
    rw [f_Tape_stepDigits_0] at hf
    cases hf
  | succ n ih =>
    intro ta_z hf
    rw [f_Tape_stepDigits_0] at hf
    refine j_aload_n hE dX10_stepDigits_0 rfl 0 rfl ?_
    refine j_get (v := .int (ta_z 3 0)) hE lg_Tape_22 0 rfl 0 (wg_Tape_0 g a ta_z) rfl dX10_stepDigits_1 ?_
    refine j_if_lt (tgt := 98) hE hf dX10_stepDigits_4 (by decide) (fun c1 hf => ?_) (fun c1 hf => ?_)
    · refine j_aload_n hE dX10_stepDigits_98 rfl 0 rfl ?_
      refine j_iconst (v := 2) hE dX10_stepDigits_99 (by decide) ?_
      refine j_put (v := .int 2) (ws' := ([n_Tape g a (up2 ta_z 4 0 2)] : List va_W)) hE lp_Tape_25 0 rfl 0 (wg_Tape_0 g a ta_z) rfl rfl (Nat.le_of_ble_eq_true rfl) (wp_Tape_4 g a ta_z 2) rfl dX10_stepDigits_100 ?_
      obtain rfl := Option.some.inj hf
      exact j_vret hE hq rfl rfl dX10_stepDigits_103
    · refine j_aload_n hE dX10_stepDigits_7 rfl 0 rfl ?_
      refine j_get (v := .int (ta_z 3 0)) hE lg_Tape_22 0 rfl 0 (wg_Tape_0 g a ta_z) rfl dX10_stepDigits_8 ?_
      refine j_aload_n hE dX10_stepDigits_11 rfl 0 rfl ?_
      refine j_get (v := .int (ta_z 2 0)) hE lg_Tape_19 0 rfl 0 (wg_Tape_0 g a ta_z) rfl dX10_stepDigits_12 ?_
      refine j_icmp_ge (tgt := 98) hE hf dX10_stepDigits_15 (by decide) (fun c2 hf => ?_) (fun c2 hf => ?_)
      · refine j_aload_n hE dX10_stepDigits_98 rfl 0 rfl ?_
        refine j_iconst (v := 2) hE dX10_stepDigits_99 (by decide) ?_
        refine j_put (v := .int 2) (ws' := ([n_Tape g a (up2 ta_z 4 0 2)] : List va_W)) hE lp_Tape_25 0 rfl 0 (wg_Tape_0 g a ta_z) rfl rfl (Nat.le_of_ble_eq_true rfl) (wp_Tape_4 g a ta_z 2) rfl dX10_stepDigits_100 ?_
        obtain rfl := Option.some.inj hf
        exact j_vret hE hq rfl rfl dX10_stepDigits_103
      · refine j_aload_n hE dX10_stepDigits_18 rfl 0 rfl ?_
        refine j_get (v := .ref (a 1)) hE lg_Tape_9 0 rfl 0 (wg_Tape_0 g a ta_z) rfl dX10_stepDigits_19 ?_
        refine j_aload_n hE dX10_stepDigits_22 rfl 0 rfl ?_
        refine j_get (v := .int (ta_z 3 0)) hE lg_Tape_22 0 rfl 0 (wg_Tape_0 g a ta_z) rfl dX10_stepDigits_23 ?_
        refine j_bald hE hf 0 rfl 1 (wg_Tape_1 g a ta_z) dX10_stepDigits_26 (fun hf => ?_)
        refine j_bipush (v := 48) hE dX10_stepDigits_27 (by decide) ?_
        refine j_icmp_lt (tgt := 98) hE hf dX10_stepDigits_29 (by decide) (fun c4 hf => ?_) (fun c4 hf => ?_)
        · refine j_aload_n hE dX10_stepDigits_98 rfl 0 rfl ?_
          refine j_iconst (v := 2) hE dX10_stepDigits_99 (by decide) ?_
          refine j_put (v := .int 2) (ws' := ([n_Tape g a (up2 ta_z 4 0 2)] : List va_W)) hE lp_Tape_25 0 rfl 0 (wg_Tape_0 g a ta_z) rfl rfl (Nat.le_of_ble_eq_true rfl) (wp_Tape_4 g a ta_z 2) rfl dX10_stepDigits_100 ?_
          obtain rfl := Option.some.inj hf
          exact j_vret hE hq rfl rfl dX10_stepDigits_103
        · refine j_aload_n hE dX10_stepDigits_32 rfl 0 rfl ?_
          refine j_get (v := .ref (a 1)) hE lg_Tape_9 0 rfl 0 (wg_Tape_0 g a ta_z) rfl dX10_stepDigits_33 ?_
          refine j_aload_n hE dX10_stepDigits_36 rfl 0 rfl ?_
          refine j_get (v := .int (ta_z 3 0)) hE lg_Tape_22 0 rfl 0 (wg_Tape_0 g a ta_z) rfl dX10_stepDigits_37 ?_
          refine j_bald hE hf 0 rfl 1 (wg_Tape_1 g a ta_z) dX10_stepDigits_40 (fun hf => ?_)
          refine j_bipush (v := 57) hE dX10_stepDigits_41 (by decide) ?_
          refine j_icmp_gt (tgt := 98) hE hf dX10_stepDigits_43 (by decide) (fun c6 hf => ?_) (fun c6 hf => ?_)
          · refine j_aload_n hE dX10_stepDigits_98 rfl 0 rfl ?_
            refine j_iconst (v := 2) hE dX10_stepDigits_99 (by decide) ?_
            refine j_put (v := .int 2) (ws' := ([n_Tape g a (up2 ta_z 4 0 2)] : List va_W)) hE lp_Tape_25 0 rfl 0 (wg_Tape_0 g a ta_z) rfl rfl (Nat.le_of_ble_eq_true rfl) (wp_Tape_4 g a ta_z 2) rfl dX10_stepDigits_100 ?_
            obtain rfl := Option.some.inj hf
            exact j_vret hE hq rfl rfl dX10_stepDigits_103
          · refine j_bipush (v := 10) hE dX10_stepDigits_46 (by decide) ?_
            refine j_aload_n hE dX10_stepDigits_48 rfl 0 rfl ?_
            refine j_get (v := .int (ta_z 5 0)) hE lg_Tape_28 0 rfl 0 (wg_Tape_0 g a ta_z) rfl dX10_stepDigits_49 ?_
            refine j_imul hE dX10_stepDigits_52 ?_
            refine j_aload_n hE dX10_stepDigits_53 rfl 0 rfl ?_
            refine j_get (v := .ref (a 1)) hE lg_Tape_9 0 rfl 0 (wg_Tape_0 g a ta_z) rfl dX10_stepDigits_54 ?_
            refine j_aload_n hE dX10_stepDigits_57 rfl 0 rfl ?_
            refine j_get (v := .int (ta_z 3 0)) hE lg_Tape_22 0 rfl 0 (wg_Tape_0 g a ta_z) rfl dX10_stepDigits_58 ?_
            refine j_bald hE hf 0 rfl 1 (wg_Tape_1 g a ta_z) dX10_stepDigits_61 (fun hf => ?_)
            refine j_iadd hE dX10_stepDigits_62 ?_
            refine j_bipush (v := 48) hE dX10_stepDigits_63 (by decide) ?_
            refine j_isub hE dX10_stepDigits_65 ?_
            refine j_istore_n (lv' := [(1, .int (((10 * (ta_z 5 0)) + (ta_z 0 (Int32.toNatClampNeg (ta_z 3 0)))) - 48)), (0, .ref (a 0))]) hE dX10_stepDigits_66 rfl (by decide) rfl ?_
            refine j_aload_n hE dX10_stepDigits_67 rfl 1 rfl ?_
            refine j_iload_n hE dX10_stepDigits_68 rfl 0 rfl ?_
            refine j_sipush (v := 1000) hE dX10_stepDigits_69 (by decide) ?_
            refine j_icmp_le (tgt := 81) hE hf dX10_stepDigits_72 (by decide) (fun c8 hf => ?_) (fun c8 hf => ?_)
            · refine j_iload_n hE dX10_stepDigits_81 rfl 0 rfl ?_
              refine j_put (v := .int (((10 * (ta_z 5 0)) + (ta_z 0 (Int32.toNatClampNeg (ta_z 3 0)))) - 48)) (ws' := ([n_Tape g a (up2 ta_z 5 0 (((10 * (ta_z 5 0)) + (ta_z 0 (Int32.toNatClampNeg (ta_z 3 0)))) - 48))] : List va_W)) hE lp_Tape_28 0 rfl 0 (wg_Tape_0 g a ta_z) rfl rfl (Nat.le_of_ble_eq_true rfl) (wp_Tape_5 g a ta_z (((10 * (ta_z 5 0)) + (ta_z 0 (Int32.toNatClampNeg (ta_z 3 0)))) - 48)) rfl dX10_stepDigits_82 ?_
              refine j_aload_n hE dX10_stepDigits_85 rfl 1 rfl ?_
              refine j_dup hE dX10_stepDigits_86 rfl ?_
              refine j_get (v := .int (ta_z 3 0)) hE lg_Tape_22 0 rfl 0 (wg_Tape_0 g a (up2 ta_z 5 0 (((10 * (ta_z 5 0)) + (ta_z 0 (Int32.toNatClampNeg (ta_z 3 0)))) - 48))) rfl dX10_stepDigits_87 ?_
              refine j_iconst (v := 1) hE dX10_stepDigits_90 (by decide) ?_
              refine j_iadd hE dX10_stepDigits_91 ?_
              refine j_put (v := .int ((ta_z 3 0) + 1)) (ws' := ([n_Tape g a (up2 (up2 ta_z 5 0 (((10 * (ta_z 5 0)) + (ta_z 0 (Int32.toNatClampNeg (ta_z 3 0)))) - 48)) 3 0 ((ta_z 3 0) + 1))] : List va_W)) hE lp_Tape_22 0 rfl 0 (wg_Tape_0 g a (up2 ta_z 5 0 (((10 * (ta_z 5 0)) + (ta_z 0 (Int32.toNatClampNeg (ta_z 3 0)))) - 48))) rfl rfl (Nat.le_of_ble_eq_true rfl) (wp_Tape_3 g a (up2 ta_z 5 0 (((10 * (ta_z 5 0)) + (ta_z 0 (Int32.toNatClampNeg (ta_z 3 0)))) - 48)) ((ta_z 3 0) + 1)) rfl dX10_stepDigits_92 ?_
              refine j_goto (tgt := 0) hE dX10_stepDigits_95 (by decide) ?_
              exact j_sub [1] rfl (ih (up2 (up2 ta_z 5 0 (((10 * (ta_z 5 0)) + (ta_z 0 (Int32.toNatClampNeg (ta_z 3 0)))) - 48)) 3 0 ((ta_z 3 0) + 1)) hf)
            · refine j_sipush (v := 1000) hE dX10_stepDigits_75 (by decide) ?_
              refine j_goto (tgt := 82) hE dX10_stepDigits_78 (by decide) ?_
              refine j_put (v := .int 1000) (ws' := ([n_Tape g a (up2 ta_z 5 0 1000)] : List va_W)) hE lp_Tape_28 0 rfl 0 (wg_Tape_0 g a ta_z) rfl rfl (Nat.le_of_ble_eq_true rfl) (wp_Tape_5 g a ta_z 1000) rfl dX10_stepDigits_82 ?_
              refine j_aload_n hE dX10_stepDigits_85 rfl 1 rfl ?_
              refine j_dup hE dX10_stepDigits_86 rfl ?_
              refine j_get (v := .int (ta_z 3 0)) hE lg_Tape_22 0 rfl 0 (wg_Tape_0 g a (up2 ta_z 5 0 1000)) rfl dX10_stepDigits_87 ?_
              refine j_iconst (v := 1) hE dX10_stepDigits_90 (by decide) ?_
              refine j_iadd hE dX10_stepDigits_91 ?_
              refine j_put (v := .int ((ta_z 3 0) + 1)) (ws' := ([n_Tape g a (up2 (up2 ta_z 5 0 1000) 3 0 ((ta_z 3 0) + 1))] : List va_W)) hE lp_Tape_22 0 rfl 0 (wg_Tape_0 g a (up2 ta_z 5 0 1000)) rfl rfl (Nat.le_of_ble_eq_true rfl) (wp_Tape_3 g a (up2 ta_z 5 0 1000) ((ta_z 3 0) + 1)) rfl dX10_stepDigits_92 ?_
              refine j_goto (tgt := 0) hE dX10_stepDigits_95 (by decide) ?_
              exact j_sub [1] rfl (ih (up2 (up2 ta_z 5 0 1000) 3 0 ((ta_z 3 0) + 1)) hf)
set_option maxRecDepth 100000 in
theorem c_Tape_stepDigits (l : Launch) (g : jG) (a : Nat → Nat) (ta_z : jZ)  (res : jZ) (hf : f_Tape_stepDigits ta_z = some res) : MC l g yX10_stepDigits cX10_stepDigits 2 (none : Option Jvm.ClassFile.FieldType) rm_Tape_stepDigits [.ref (a 0)] (([n_Tape g a ta_z] : List va_W)) none (([n_Tape g a res] : List va_W)) 0 0 := by
  refine MC_of (own := RX10) (lv := [(0, .ref (a 0))]) (by decide) rfl (Nat.le_of_ble_eq_true rfl) rfl rfl (fun E hE hq => ?_)
  unfold f_Tape_stepDigits at hf
  exact j_Tape_stepDigits_0 E g a res hE hq FU ta_z hf
def rm_Tape_step : Room := { frames := 1, cells := 0, slots := 0, locals := 22 }
def f_Tape_step_142    (ta_z : jZ) (v1 : Int32) : Option (jZ) := (if v1 < 48 then (f_Tape_stepSign ta_z v1).bind fun q16 => some q16
    else (if 57 < v1 then (f_Tape_stepSign ta_z v1).bind fun q19 => some q19
    else (f_Tape_stepDigits ta_z).bind fun q21 => some q21))
def f_Tape_step_103    (ta_z : jZ) (s0 : Int32) : Option (jZ) := (if (ta_z 3 0) < (ta_z 2 0) then (if s0 < 97 then f_Tape_step_142 ta_z s0
    else (if 122 < s0 then f_Tape_step_142 ta_z s0
    else (f_Tape_stepWord ta_z).bind fun q13 => some q13))
    else some (up2 ta_z 4 0 0))
def f_Tape_step_59    (ta_z : jZ) : Option (jZ) := (if (ta_z 3 0) < 0 then f_Tape_step_103 (up2 (up2 ta_z 6 0 (ta_z 3 0)) 5 0 0) 0
    else (if (ta_z 2 0) ≤ (ta_z 3 0) then f_Tape_step_103 (up2 (up2 ta_z 6 0 (ta_z 3 0)) 5 0 0) 0
    else (ix (ta_z 3 0) 600).bind fun _ => f_Tape_step_103 (up2 (up2 ta_z 6 0 (ta_z 3 0)) 5 0 0) (ta_z 0 (Int32.toNatClampNeg (ta_z 3 0)))))
def f_Tape_step_0    : Nat → jZ → Option (jZ)
  | 0, _ => none
  | n + 1, ta_z => (if (ta_z 3 0) < 0 then f_Tape_step_59 ta_z
    else (if (ta_z 2 0) ≤ (ta_z 3 0) then f_Tape_step_59 ta_z
    else (ix (ta_z 3 0) 600).bind fun _ => (if (ta_z 0 (Int32.toNatClampNeg (ta_z 3 0))) = 10 then f_Tape_step_0  n (up2 ta_z 3 0 ((ta_z 3 0) + 1))
    else (ix (ta_z 3 0) 600).bind fun _ => (if (ta_z 0 (Int32.toNatClampNeg (ta_z 3 0))) = 32 then f_Tape_step_0  n (up2 ta_z 3 0 ((ta_z 3 0) + 1))
    else f_Tape_step_59 ta_z))))
def f_Tape_step (ta_z : jZ)  : Option (jZ) := f_Tape_step_0 FU ta_z
set_option maxRecDepth 100000 in
theorem j_Tape_step_142 (E : jT) (g : jG) (a : Nat → Nat)   (res : jZ) (hE : jOk E g RX10 cX10_step 2 (none : Option Jvm.ClassFile.FieldType) rm_Tape_step) (hq : jEnd E g none (([n_Tape g a res] : List va_W)) 0 0)  (ta_z : jZ) (v1 : Int32) (hf : f_Tape_step_142 ta_z v1 = some res) : J E g 0 0 (([n_Tape g a ta_z] : List va_W)) [(0, .ref (a 0)), (1, .int v1)] 142 [] := by
  unfold f_Tape_step_142 at hf
  refine j_iload_n hE dX10_step_142 rfl 1 rfl ?_
  refine j_bipush (v := 48) hE dX10_step_143 (by decide) ?_
  refine j_icmp_lt (tgt := 161) hE hf dX10_step_145 (by decide) (fun c15 hf => ?_) (fun c15 hf => ?_)
  · refine j_aload_n hE dX10_step_161 rfl 0 rfl ?_
    refine j_iload_n hE dX10_step_162 rfl 1 rfl ?_
    obtain ⟨q16, hc17, hf⟩ := bind_of hf
    refine j_callV (ws' := ([n_Tape g a q16] : List va_W)) (As := [.int v1]) (rest := []) (st2 := []) hE (fun l => c_Tape_stepSign l g a ta_z v1 q16 hc17) cd_X10_stepSign cv_X10_stepSign ml_Tape_49 rfl rfl rfl (wg_Tape_0 _ _ _) ⟨⟨Nat.le_of_ble_eq_true rfl, Nat.le_of_ble_eq_true rfl⟩, ⟨Nat.zero_le _, Nat.zero_le _⟩, rfl, rfl⟩ [0] rfl rfl rfl (Nat.le_of_ble_eq_true rfl) rfl dX10_step_163 ?_
    obtain rfl := Option.some.inj hf
    exact j_vret hE hq rfl rfl dX10_step_166
  · refine j_iload_n hE dX10_step_148 rfl 1 rfl ?_
    refine j_bipush (v := 57) hE dX10_step_149 (by decide) ?_
    refine j_icmp_gt (tgt := 161) hE hf dX10_step_151 (by decide) (fun c18 hf => ?_) (fun c18 hf => ?_)
    · refine j_aload_n hE dX10_step_161 rfl 0 rfl ?_
      refine j_iload_n hE dX10_step_162 rfl 1 rfl ?_
      obtain ⟨q19, hc20, hf⟩ := bind_of hf
      refine j_callV (ws' := ([n_Tape g a q19] : List va_W)) (As := [.int v1]) (rest := []) (st2 := []) hE (fun l => c_Tape_stepSign l g a ta_z v1 q19 hc20) cd_X10_stepSign cv_X10_stepSign ml_Tape_49 rfl rfl rfl (wg_Tape_0 _ _ _) ⟨⟨Nat.le_of_ble_eq_true rfl, Nat.le_of_ble_eq_true rfl⟩, ⟨Nat.zero_le _, Nat.zero_le _⟩, rfl, rfl⟩ [0] rfl rfl rfl (Nat.le_of_ble_eq_true rfl) rfl dX10_step_163 ?_
      obtain rfl := Option.some.inj hf
      exact j_vret hE hq rfl rfl dX10_step_166
    · refine j_aload_n hE dX10_step_154 rfl 0 rfl ?_
      obtain ⟨q21, hc22, hf⟩ := bind_of hf
      refine j_callV (ws' := ([n_Tape g a q21] : List va_W)) (As := []) (rest := []) (st2 := []) hE (fun l => c_Tape_stepDigits l g a ta_z q21 hc22) cd_X10_stepDigits cv_X10_stepDigits ml_Tape_46 rfl rfl rfl (wg_Tape_0 _ _ _) ⟨⟨Nat.le_of_ble_eq_true rfl, Nat.le_of_ble_eq_true rfl⟩, ⟨Nat.zero_le _, Nat.zero_le _⟩, rfl, rfl⟩ [0] rfl rfl rfl (Nat.le_of_ble_eq_true rfl) rfl dX10_step_155 ?_
      refine j_goto (tgt := 166) hE dX10_step_158 (by decide) ?_
      obtain rfl := Option.some.inj hf
      exact j_vret hE hq rfl rfl dX10_step_166
set_option maxRecDepth 100000 in
theorem j_Tape_step_103 (E : jT) (g : jG) (a : Nat → Nat)   (res : jZ) (hE : jOk E g RX10 cX10_step 2 (none : Option Jvm.ClassFile.FieldType) rm_Tape_step) (hq : jEnd E g none (([n_Tape g a res] : List va_W)) 0 0)  (ta_z : jZ) (s0 : Int32) (hf : f_Tape_step_103 ta_z s0 = some res) : J E g 0 0 (([n_Tape g a ta_z] : List va_W)) [(0, .ref (a 0))] 103 [.int s0] := by
  unfold f_Tape_step_103 at hf
  refine j_istore_n (lv' := [(1, .int s0), (0, .ref (a 0))]) hE dX10_step_103 rfl (by decide) rfl ?_
  refine j_aload_n hE dX10_step_104 rfl 1 rfl ?_
  refine j_get (v := .int (ta_z 3 0)) hE lg_Tape_22 0 rfl 0 (wg_Tape_0 g a ta_z) rfl dX10_step_105 ?_
  refine j_aload_n hE dX10_step_108 rfl 1 rfl ?_
  refine j_get (v := .int (ta_z 2 0)) hE lg_Tape_19 0 rfl 0 (wg_Tape_0 g a ta_z) rfl dX10_step_109 ?_
  refine j_icmp_lt (tgt := 123) hE hf dX10_step_112 (by decide) (fun c10 hf => ?_) (fun c10 hf => ?_)
  · refine j_iload_n hE dX10_step_123 rfl 0 rfl ?_
    refine j_bipush (v := 97) hE dX10_step_124 (by decide) ?_
    refine j_icmp_lt (tgt := 142) hE hf dX10_step_126 (by decide) (fun c11 hf => ?_) (fun c11 hf => ?_)
    · exact j_sub [1, 0] rfl (j_Tape_step_142 E g a res hE hq ta_z s0 hf)
    · refine j_iload_n hE dX10_step_129 rfl 0 rfl ?_
      refine j_bipush (v := 122) hE dX10_step_130 (by decide) ?_
      refine j_icmp_gt (tgt := 142) hE hf dX10_step_132 (by decide) (fun c12 hf => ?_) (fun c12 hf => ?_)
      · exact j_sub [1, 0] rfl (j_Tape_step_142 E g a res hE hq ta_z s0 hf)
      · refine j_aload_n hE dX10_step_135 rfl 1 rfl ?_
        obtain ⟨q13, hc14, hf⟩ := bind_of hf
        refine j_callV (ws' := ([n_Tape g a q13] : List va_W)) (As := []) (rest := []) (st2 := []) hE (fun l => c_Tape_stepWord l g a ta_z q13 hc14) cd_X10_stepWord cv_X10_stepWord ml_Tape_43 rfl rfl rfl (wg_Tape_0 _ _ _) ⟨⟨Nat.le_of_ble_eq_true rfl, Nat.le_of_ble_eq_true rfl⟩, ⟨Nat.zero_le _, Nat.zero_le _⟩, rfl, rfl⟩ [0] rfl rfl rfl (Nat.le_of_ble_eq_true rfl) rfl dX10_step_136 ?_
        refine j_goto (tgt := 166) hE dX10_step_139 (by decide) ?_
        obtain rfl := Option.some.inj hf
        exact j_vret hE hq rfl rfl dX10_step_166
  · refine j_aload_n hE dX10_step_115 rfl 1 rfl ?_
    refine j_iconst (v := 0) hE dX10_step_116 (by decide) ?_
    refine j_put (v := .int 0) (ws' := ([n_Tape g a (up2 ta_z 4 0 0)] : List va_W)) hE lp_Tape_25 0 rfl 0 (wg_Tape_0 g a ta_z) rfl rfl (Nat.le_of_ble_eq_true rfl) (wp_Tape_4 g a ta_z 0) rfl dX10_step_117 ?_
    refine j_goto (tgt := 166) hE dX10_step_120 (by decide) ?_
    obtain rfl := Option.some.inj hf
    exact j_vret hE hq rfl rfl dX10_step_166
set_option maxRecDepth 100000 in
theorem j_Tape_step_59 (E : jT) (g : jG) (a : Nat → Nat)   (res : jZ) (hE : jOk E g RX10 cX10_step 2 (none : Option Jvm.ClassFile.FieldType) rm_Tape_step) (hq : jEnd E g none (([n_Tape g a res] : List va_W)) 0 0)  (ta_z : jZ) (hf : f_Tape_step_59 ta_z = some res) : J E g 0 0 (([n_Tape g a ta_z] : List va_W)) [(0, .ref (a 0))] 59 [] := by
  unfold f_Tape_step_59 at hf
  refine j_aload_n hE dX10_step_59 rfl 0 rfl ?_
  refine j_aload_n hE dX10_step_60 rfl 0 rfl ?_
  refine j_get (v := .int (ta_z 3 0)) hE lg_Tape_22 0 rfl 0 (wg_Tape_0 g a ta_z) rfl dX10_step_61 ?_
  refine j_put (v := .int (ta_z 3 0)) (ws' := ([n_Tape g a (up2 ta_z 6 0 (ta_z 3 0))] : List va_W)) hE lp_Tape_31 0 rfl 0 (wg_Tape_0 g a ta_z) rfl rfl (Nat.le_of_ble_eq_true rfl) (wp_Tape_6 g a ta_z (ta_z 3 0)) rfl dX10_step_64 ?_
  refine j_aload_n hE dX10_step_67 rfl 0 rfl ?_
  refine j_iconst (v := 0) hE dX10_step_68 (by decide) ?_
  refine j_put (v := .int 0) (ws' := ([n_Tape g a (up2 (up2 ta_z 6 0 (ta_z 3 0)) 5 0 0)] : List va_W)) hE lp_Tape_28 0 rfl 0 (wg_Tape_0 g a (up2 ta_z 6 0 (ta_z 3 0))) rfl rfl (Nat.le_of_ble_eq_true rfl) (wp_Tape_5 g a (up2 ta_z 6 0 (ta_z 3 0)) 0) rfl dX10_step_69 ?_
  refine j_aload_n hE dX10_step_72 rfl 0 rfl ?_
  refine j_get (v := .int (ta_z 3 0)) hE lg_Tape_22 0 rfl 0 (wg_Tape_0 g a (up2 (up2 ta_z 6 0 (ta_z 3 0)) 5 0 0)) rfl dX10_step_73 ?_
  refine j_if_lt (tgt := 102) hE hf dX10_step_76 (by decide) (fun c7 hf => ?_) (fun c7 hf => ?_)
  · refine j_iconst (v := 0) hE dX10_step_102 (by decide) ?_
    exact j_Tape_step_103 E g a res hE hq (up2 (up2 ta_z 6 0 (ta_z 3 0)) 5 0 0) 0 hf
  · refine j_aload_n hE dX10_step_79 rfl 0 rfl ?_
    refine j_get (v := .int (ta_z 3 0)) hE lg_Tape_22 0 rfl 0 (wg_Tape_0 g a (up2 (up2 ta_z 6 0 (ta_z 3 0)) 5 0 0)) rfl dX10_step_80 ?_
    refine j_aload_n hE dX10_step_83 rfl 0 rfl ?_
    refine j_get (v := .int (ta_z 2 0)) hE lg_Tape_19 0 rfl 0 (wg_Tape_0 g a (up2 (up2 ta_z 6 0 (ta_z 3 0)) 5 0 0)) rfl dX10_step_84 ?_
    refine j_icmp_ge (tgt := 102) hE hf dX10_step_87 (by decide) (fun c8 hf => ?_) (fun c8 hf => ?_)
    · refine j_iconst (v := 0) hE dX10_step_102 (by decide) ?_
      exact j_Tape_step_103 E g a res hE hq (up2 (up2 ta_z 6 0 (ta_z 3 0)) 5 0 0) 0 hf
    · refine j_aload_n hE dX10_step_90 rfl 0 rfl ?_
      refine j_get (v := .ref (a 1)) hE lg_Tape_9 0 rfl 0 (wg_Tape_0 g a (up2 (up2 ta_z 6 0 (ta_z 3 0)) 5 0 0)) rfl dX10_step_91 ?_
      refine j_aload_n hE dX10_step_94 rfl 0 rfl ?_
      refine j_get (v := .int (ta_z 3 0)) hE lg_Tape_22 0 rfl 0 (wg_Tape_0 g a (up2 (up2 ta_z 6 0 (ta_z 3 0)) 5 0 0)) rfl dX10_step_95 ?_
      refine j_bald hE hf 0 rfl 1 (wg_Tape_1 g a (up2 (up2 ta_z 6 0 (ta_z 3 0)) 5 0 0)) dX10_step_98 (fun hf => ?_)
      refine j_st (st' := [.int (ta_z 0 (Int32.toNatClampNeg (ta_z 3 0)))]) rfl ?_
      refine j_goto (tgt := 103) hE dX10_step_99 (by decide) ?_
      exact j_Tape_step_103 E g a res hE hq (up2 (up2 ta_z 6 0 (ta_z 3 0)) 5 0 0) (ta_z 0 (Int32.toNatClampNeg (ta_z 3 0))) hf
set_option maxRecDepth 100000 in
theorem j_Tape_step_0 (E : jT) (g : jG) (a : Nat → Nat)   (res : jZ) (hE : jOk E g RX10 cX10_step 2 (none : Option Jvm.ClassFile.FieldType) rm_Tape_step) (hq : jEnd E g none (([n_Tape g a res] : List va_W)) 0 0)  : ∀ (n : Nat) (ta_z : jZ), f_Tape_step_0 n ta_z = some res → J E g 0 0 (([n_Tape g a ta_z] : List va_W)) [(0, .ref (a 0))] 0 [] := by
  intro n
  induction n with
  | zero =>
    intro ta_z hf
    rw [f_Tape_step_0] at hf
    cases hf
  | succ n ih =>
    intro ta_z hf
    rw [f_Tape_step_0] at hf
    refine j_aload_n hE dX10_step_0 rfl 0 rfl ?_
    refine j_get (v := .int (ta_z 3 0)) hE lg_Tape_22 0 rfl 0 (wg_Tape_0 g a ta_z) rfl dX10_step_1 ?_
    refine j_if_lt (tgt := 59) hE hf dX10_step_4 (by decide) (fun c1 hf => ?_) (fun c1 hf => ?_)
    · exact j_Tape_step_59 E g a res hE hq ta_z hf
    · refine j_aload_n hE dX10_step_7 rfl 0 rfl ?_
      refine j_get (v := .int (ta_z 3 0)) hE lg_Tape_22 0 rfl 0 (wg_Tape_0 g a ta_z) rfl dX10_step_8 ?_
      refine j_aload_n hE dX10_step_11 rfl 0 rfl ?_
      refine j_get (v := .int (ta_z 2 0)) hE lg_Tape_19 0 rfl 0 (wg_Tape_0 g a ta_z) rfl dX10_step_12 ?_
      refine j_icmp_ge (tgt := 59) hE hf dX10_step_15 (by decide) (fun c2 hf => ?_) (fun c2 hf => ?_)
      · exact j_Tape_step_59 E g a res hE hq ta_z hf
      · refine j_aload_n hE dX10_step_18 rfl 0 rfl ?_
        refine j_get (v := .ref (a 1)) hE lg_Tape_9 0 rfl 0 (wg_Tape_0 g a ta_z) rfl dX10_step_19 ?_
        refine j_aload_n hE dX10_step_22 rfl 0 rfl ?_
        refine j_get (v := .int (ta_z 3 0)) hE lg_Tape_22 0 rfl 0 (wg_Tape_0 g a ta_z) rfl dX10_step_23 ?_
        refine j_bald hE hf 0 rfl 1 (wg_Tape_1 g a ta_z) dX10_step_26 (fun hf => ?_)
        refine j_bipush (v := 10) hE dX10_step_27 (by decide) ?_
        refine j_icmp_eq (tgt := 46) hE hf dX10_step_29 (by decide) (fun c4 hf => ?_) (fun c4 hf => ?_)
        · refine j_aload_n hE dX10_step_46 rfl 0 rfl ?_
          refine j_dup hE dX10_step_47 rfl ?_
          refine j_get (v := .int (ta_z 3 0)) hE lg_Tape_22 0 rfl 0 (wg_Tape_0 g a ta_z) rfl dX10_step_48 ?_
          refine j_iconst (v := 1) hE dX10_step_51 (by decide) ?_
          refine j_iadd hE dX10_step_52 ?_
          refine j_put (v := .int ((ta_z 3 0) + 1)) (ws' := ([n_Tape g a (up2 ta_z 3 0 ((ta_z 3 0) + 1))] : List va_W)) hE lp_Tape_22 0 rfl 0 (wg_Tape_0 g a ta_z) rfl rfl (Nat.le_of_ble_eq_true rfl) (wp_Tape_3 g a ta_z ((ta_z 3 0) + 1)) rfl dX10_step_53 ?_
          refine j_goto (tgt := 0) hE dX10_step_56 (by decide) ?_
          exact ih (up2 ta_z 3 0 ((ta_z 3 0) + 1)) hf
        · refine j_aload_n hE dX10_step_32 rfl 0 rfl ?_
          refine j_get (v := .ref (a 1)) hE lg_Tape_9 0 rfl 0 (wg_Tape_0 g a ta_z) rfl dX10_step_33 ?_
          refine j_aload_n hE dX10_step_36 rfl 0 rfl ?_
          refine j_get (v := .int (ta_z 3 0)) hE lg_Tape_22 0 rfl 0 (wg_Tape_0 g a ta_z) rfl dX10_step_37 ?_
          refine j_bald hE hf 0 rfl 1 (wg_Tape_1 g a ta_z) dX10_step_40 (fun hf => ?_)
          refine j_bipush (v := 32) hE dX10_step_41 (by decide) ?_
          refine j_icmp_ne (tgt := 59) hE hf dX10_step_43 (by decide) (fun c6 hf => ?_) (fun c6 hf => ?_)
          · exact j_Tape_step_59 E g a res hE hq ta_z hf
          · refine j_aload_n hE dX10_step_46 rfl 0 rfl ?_
            refine j_dup hE dX10_step_47 rfl ?_
            refine j_get (v := .int (ta_z 3 0)) hE lg_Tape_22 0 rfl 0 (wg_Tape_0 g a ta_z) rfl dX10_step_48 ?_
            refine j_iconst (v := 1) hE dX10_step_51 (by decide) ?_
            refine j_iadd hE dX10_step_52 ?_
            refine j_put (v := .int ((ta_z 3 0) + 1)) (ws' := ([n_Tape g a (up2 ta_z 3 0 ((ta_z 3 0) + 1))] : List va_W)) hE lp_Tape_22 0 rfl 0 (wg_Tape_0 g a ta_z) rfl rfl (Nat.le_of_ble_eq_true rfl) (wp_Tape_3 g a ta_z ((ta_z 3 0) + 1)) rfl dX10_step_53 ?_
            refine j_goto (tgt := 0) hE dX10_step_56 (by decide) ?_
            exact ih (up2 ta_z 3 0 ((ta_z 3 0) + 1)) hf
set_option maxRecDepth 100000 in
theorem c_Tape_step (l : Launch) (g : jG) (a : Nat → Nat) (ta_z : jZ)  (res : jZ) (hf : f_Tape_step ta_z = some res) : MC l g yX10_step cX10_step 2 (none : Option Jvm.ClassFile.FieldType) rm_Tape_step [.ref (a 0)] (([n_Tape g a ta_z] : List va_W)) none (([n_Tape g a res] : List va_W)) 0 0 := by
  refine MC_of (own := RX10) (lv := [(0, .ref (a 0))]) (by decide) rfl (Nat.le_of_ble_eq_true rfl) rfl rfl (fun E hE hq => ?_)
  unfold f_Tape_step at hf
  exact j_Tape_step_0 E g a res hE hq FU ta_z hf
def rm_Tape_begin : Room := { frames := 2, cells := 0, slots := 0, locals := 43 }
def f_Tape_begin (ta_z : jZ) (x1 : Int32) : Option (jZ) := (f_Tape_step (up2 (up2 (up2 ta_z 2 0 (if 600 < x1 then 600 else x1)) 1 0 0) 3 0 0)).bind fun q1 => some q1
set_option maxRecDepth 100000 in
theorem c_Tape_begin (l : Launch) (g : jG) (a : Nat → Nat) (ta_z : jZ) (x1 : Int32) (res : jZ) (hf : f_Tape_begin ta_z x1 = some res) : MC l g yX10_begin cX10_begin 2 (none : Option Jvm.ClassFile.FieldType) rm_Tape_begin [.ref (a 0), .int x1] (([n_Tape g a ta_z] : List va_W)) none (([n_Tape g a res] : List va_W)) 0 0 := by
  refine MC_of (own := RX10) (lv := [(0, .ref (a 0)), (1, .int x1)]) (by decide) rfl (Nat.le_of_ble_eq_true rfl) rfl rfl (fun E hE hq => ?_)
  unfold f_Tape_begin at hf
  refine j_aload_n hE dX10_begin_0 rfl 0 rfl ?_
  refine j_iload_n hE dX10_begin_1 rfl 1 rfl ?_
  refine j_aload_n hE dX10_begin_2 rfl 0 rfl ?_
  refine j_get (v := .ref (a 1)) hE lg_Tape_9 0 rfl 0 (wg_Tape_0 g a ta_z) rfl dX10_begin_3 ?_
  refine j_alen (v := 600) (t0 := 0) hE 0 rfl 1 (wg_Tape_1 g a ta_z) rfl rfl dX10_begin_6 ?_
  refine j_mmin hE fm_mmin ml_Tape_34 ⟨⟨Nat.le_of_ble_eq_true rfl, Nat.le_of_ble_eq_true rfl⟩, Nat.zero_le _, Nat.zero_le _⟩ dX10_begin_7 ?_
  refine j_put (v := .int (if 600 < x1 then 600 else x1)) (ws' := ([n_Tape g a (up2 ta_z 2 0 (if 600 < x1 then 600 else x1))] : List va_W)) hE lp_Tape_19 0 rfl 0 (wg_Tape_0 g a ta_z) rfl rfl (Nat.le_of_ble_eq_true rfl) (wp_Tape_2 g a ta_z (if 600 < x1 then 600 else x1)) rfl dX10_begin_10 ?_
  refine j_aload_n hE dX10_begin_13 rfl 0 rfl ?_
  refine j_iconst (v := 0) hE dX10_begin_14 (by decide) ?_
  refine j_put (v := .int 0) (ws' := ([n_Tape g a (up2 (up2 ta_z 2 0 (if 600 < x1 then 600 else x1)) 1 0 0)] : List va_W)) hE lp_Tape_15 0 rfl 0 (wg_Tape_0 g a (up2 ta_z 2 0 (if 600 < x1 then 600 else x1))) rfl rfl (Nat.le_of_ble_eq_true rfl) (wp_Tape_1 g a (up2 ta_z 2 0 (if 600 < x1 then 600 else x1)) 0) rfl dX10_begin_15 ?_
  refine j_aload_n hE dX10_begin_18 rfl 0 rfl ?_
  refine j_iconst (v := 0) hE dX10_begin_19 (by decide) ?_
  refine j_put (v := .int 0) (ws' := ([n_Tape g a (up2 (up2 (up2 ta_z 2 0 (if 600 < x1 then 600 else x1)) 1 0 0) 3 0 0)] : List va_W)) hE lp_Tape_22 0 rfl 0 (wg_Tape_0 g a (up2 (up2 ta_z 2 0 (if 600 < x1 then 600 else x1)) 1 0 0)) rfl rfl (Nat.le_of_ble_eq_true rfl) (wp_Tape_3 g a (up2 (up2 ta_z 2 0 (if 600 < x1 then 600 else x1)) 1 0 0) 0) rfl dX10_begin_20 ?_
  refine j_aload_n hE dX10_begin_23 rfl 0 rfl ?_
  obtain ⟨q1, hc2, hf⟩ := bind_of hf
  refine j_callV (ws' := ([n_Tape g a q1] : List va_W)) (As := []) (rest := []) (st2 := []) hE (fun l => c_Tape_step l g a (up2 (up2 (up2 ta_z 2 0 (if 600 < x1 then 600 else x1)) 1 0 0) 3 0 0) q1 hc2) cd_X10_step cv_X10_step ml_Tape_40 rfl rfl rfl (wg_Tape_0 _ _ _) ⟨⟨Nat.le_of_ble_eq_true rfl, Nat.le_of_ble_eq_true rfl⟩, ⟨Nat.zero_le _, Nat.zero_le _⟩, rfl, rfl⟩ [0] rfl rfl rfl (Nat.le_of_ble_eq_true rfl) rfl dX10_begin_24 ?_
  obtain rfl := Option.some.inj hf
  exact j_vret hE hq rfl rfl dX10_begin_27
def rm_Tape_isSign : Room := { frames := 0, cells := 0, slots := 0, locals := 0 }
def f_Tape_isSign (ta_z : jZ) (x1 : Int32) : Option (Int32) := (if (ta_z 4 0) = 3 then (if (ta_z 5 0) = x1 then some 1
    else some 0)
    else some 0)
set_option maxRecDepth 100000 in
theorem c_Tape_isSign (l : Launch) (g : jG) (a : Nat → Nat) (ta_z : jZ) (x1 : Int32) (res : Int32) (hf : f_Tape_isSign ta_z x1 = some res) : MC l g yX10_isSign cX10_isSign 2 (some .boolean) rm_Tape_isSign [.ref (a 0), .int x1] (([n_Tape g a ta_z] : List va_W)) (some (.int res)) (([n_Tape g a ta_z] : List va_W)) 0 0 := by
  refine MC_of (own := RX10) (lv := [(0, .ref (a 0)), (1, .int x1)]) (by decide) rfl (Nat.le_of_ble_eq_true rfl) rfl rfl (fun E hE hq => ?_)
  unfold f_Tape_isSign at hf
  refine j_aload_n hE dX10_isSign_0 rfl 0 rfl ?_
  refine j_get (v := .int (ta_z 4 0)) hE lg_Tape_25 0 rfl 0 (wg_Tape_0 g a ta_z) rfl dX10_isSign_1 ?_
  refine j_iconst (v := 3) hE dX10_isSign_4 (by decide) ?_
  refine j_icmp_ne (tgt := 20) hE hf dX10_isSign_5 (by decide) (fun c1 hf => ?_) (fun c1 hf => ?_)
  · refine j_iconst (v := 0) hE dX10_isSign_20 (by decide) ?_
    obtain rfl := Option.some.inj hf
    exact j_zret_c hE (Or.inl rfl) hq rfl rfl dX10_isSign_21
  · refine j_aload_n hE dX10_isSign_8 rfl 0 rfl ?_
    refine j_get (v := .int (ta_z 5 0)) hE lg_Tape_28 0 rfl 0 (wg_Tape_0 g a ta_z) rfl dX10_isSign_9 ?_
    refine j_iload_n hE dX10_isSign_12 rfl 1 rfl ?_
    refine j_icmp_ne (tgt := 20) hE hf dX10_isSign_13 (by decide) (fun c2 hf => ?_) (fun c2 hf => ?_)
    · refine j_iconst (v := 0) hE dX10_isSign_20 (by decide) ?_
      obtain rfl := Option.some.inj hf
      exact j_zret_c hE (Or.inl rfl) hq rfl rfl dX10_isSign_21
    · refine j_iconst (v := 1) hE dX10_isSign_16 (by decide) ?_
      refine j_goto (tgt := 21) hE dX10_isSign_17 (by decide) ?_
      obtain rfl := Option.some.inj hf
      exact j_zret_c hE (Or.inr rfl) hq rfl rfl dX10_isSign_21
def rm_Tape_isWord : Room := { frames := 0, cells := 0, slots := 0, locals := 0 }
def f_Tape_isWord (ta_z : jZ) (x1 : Int32) : Option (Int32) := (if (ta_z 4 0) = 1 then (if (ta_z 5 0) = x1 then some 1
    else some 0)
    else some 0)
set_option maxRecDepth 100000 in
theorem c_Tape_isWord (l : Launch) (g : jG) (a : Nat → Nat) (ta_z : jZ) (x1 : Int32) (res : Int32) (hf : f_Tape_isWord ta_z x1 = some res) : MC l g yX10_isWord cX10_isWord 2 (some .boolean) rm_Tape_isWord [.ref (a 0), .int x1] (([n_Tape g a ta_z] : List va_W)) (some (.int res)) (([n_Tape g a ta_z] : List va_W)) 0 0 := by
  refine MC_of (own := RX10) (lv := [(0, .ref (a 0)), (1, .int x1)]) (by decide) rfl (Nat.le_of_ble_eq_true rfl) rfl rfl (fun E hE hq => ?_)
  unfold f_Tape_isWord at hf
  refine j_aload_n hE dX10_isWord_0 rfl 0 rfl ?_
  refine j_get (v := .int (ta_z 4 0)) hE lg_Tape_25 0 rfl 0 (wg_Tape_0 g a ta_z) rfl dX10_isWord_1 ?_
  refine j_iconst (v := 1) hE dX10_isWord_4 (by decide) ?_
  refine j_icmp_ne (tgt := 20) hE hf dX10_isWord_5 (by decide) (fun c1 hf => ?_) (fun c1 hf => ?_)
  · refine j_iconst (v := 0) hE dX10_isWord_20 (by decide) ?_
    obtain rfl := Option.some.inj hf
    exact j_zret_c hE (Or.inl rfl) hq rfl rfl dX10_isWord_21
  · refine j_aload_n hE dX10_isWord_8 rfl 0 rfl ?_
    refine j_get (v := .int (ta_z 5 0)) hE lg_Tape_28 0 rfl 0 (wg_Tape_0 g a ta_z) rfl dX10_isWord_9 ?_
    refine j_iload_n hE dX10_isWord_12 rfl 1 rfl ?_
    refine j_icmp_ne (tgt := 20) hE hf dX10_isWord_13 (by decide) (fun c2 hf => ?_) (fun c2 hf => ?_)
    · refine j_iconst (v := 0) hE dX10_isWord_20 (by decide) ?_
      obtain rfl := Option.some.inj hf
      exact j_zret_c hE (Or.inl rfl) hq rfl rfl dX10_isWord_21
    · refine j_iconst (v := 1) hE dX10_isWord_16 (by decide) ?_
      refine j_goto (tgt := 21) hE dX10_isWord_17 (by decide) ?_
      obtain rfl := Option.some.inj hf
      exact j_zret_c hE (Or.inr rfl) hq rfl rfl dX10_isWord_21
def rm_Tape_isOfCounts : Room := { frames := 0, cells := 0, slots := 0, locals := 0 }
def f_Tape_isOfCounts  (x0 : Int32) : Option (Int32) := (if x0 = 117095065 then some 1
    else (if x0 = 407948928 then some 1
    else (if x0 = 452579328 then some 1
    else (if x0 = 518160384 then some 1
    else (if x0 = 659980288 then some 1
    else (if x0 = 680072352 then some 1
    else (if x0 = 695697408 then some 1
    else some 0)))))))
set_option maxRecDepth 100000 in
theorem c_Tape_isOfCounts (l : Launch) (g : jG)   (x0 : Int32) (res : Int32) (hf : f_Tape_isOfCounts x0 = some res) : MC l g yX10_isOfCounts cX10_isOfCounts 1 (some .boolean) rm_Tape_isOfCounts [.int x0] (([] : List va_W)) (some (.int res)) (([] : List va_W)) 0 0 := by
  refine MC_of (own := RX10) (lv := [(0, .int x0)]) (by decide) rfl (Nat.le_of_ble_eq_true rfl) rfl rfl (fun E hE hq => ?_)
  unfold f_Tape_isOfCounts at hf
  refine j_iload_n hE dX10_isOfCounts_0 rfl 0 rfl ?_
  refine j_case hf (fun c1 hf => ?_) (fun c1 hf => ?_)
  · refine j_lookup (tgt := 68) hE dX10_isOfCounts_1 (by decide) (by rw [c1]; try rfl) (by decide) ?_
    refine j_iconst (v := 1) hE dX10_isOfCounts_68 (by decide) ?_
    obtain rfl := Option.some.inj hf
    exact j_zret_c hE (Or.inr rfl) hq rfl rfl dX10_isOfCounts_69
  refine j_case hf (fun c2 hf => ?_) (fun c2 hf => ?_)
  · refine j_lookup (tgt := 68) hE dX10_isOfCounts_1 (by decide) (by rw [c2]; try rfl) (by decide) ?_
    refine j_iconst (v := 1) hE dX10_isOfCounts_68 (by decide) ?_
    obtain rfl := Option.some.inj hf
    exact j_zret_c hE (Or.inr rfl) hq rfl rfl dX10_isOfCounts_69
  refine j_case hf (fun c3 hf => ?_) (fun c3 hf => ?_)
  · refine j_lookup (tgt := 68) hE dX10_isOfCounts_1 (by decide) (by rw [c3]; try rfl) (by decide) ?_
    refine j_iconst (v := 1) hE dX10_isOfCounts_68 (by decide) ?_
    obtain rfl := Option.some.inj hf
    exact j_zret_c hE (Or.inr rfl) hq rfl rfl dX10_isOfCounts_69
  refine j_case hf (fun c4 hf => ?_) (fun c4 hf => ?_)
  · refine j_lookup (tgt := 68) hE dX10_isOfCounts_1 (by decide) (by rw [c4]; try rfl) (by decide) ?_
    refine j_iconst (v := 1) hE dX10_isOfCounts_68 (by decide) ?_
    obtain rfl := Option.some.inj hf
    exact j_zret_c hE (Or.inr rfl) hq rfl rfl dX10_isOfCounts_69
  refine j_case hf (fun c5 hf => ?_) (fun c5 hf => ?_)
  · refine j_lookup (tgt := 68) hE dX10_isOfCounts_1 (by decide) (by rw [c5]; try rfl) (by decide) ?_
    refine j_iconst (v := 1) hE dX10_isOfCounts_68 (by decide) ?_
    obtain rfl := Option.some.inj hf
    exact j_zret_c hE (Or.inr rfl) hq rfl rfl dX10_isOfCounts_69
  refine j_case hf (fun c6 hf => ?_) (fun c6 hf => ?_)
  · refine j_lookup (tgt := 68) hE dX10_isOfCounts_1 (by decide) (by rw [c6]; try rfl) (by decide) ?_
    refine j_iconst (v := 1) hE dX10_isOfCounts_68 (by decide) ?_
    obtain rfl := Option.some.inj hf
    exact j_zret_c hE (Or.inr rfl) hq rfl rfl dX10_isOfCounts_69
  refine j_case hf (fun c7 hf => ?_) (fun c7 hf => ?_)
  · refine j_lookup (tgt := 68) hE dX10_isOfCounts_1 (by decide) (by rw [c7]; try rfl) (by decide) ?_
    refine j_iconst (v := 1) hE dX10_isOfCounts_68 (by decide) ?_
    obtain rfl := Option.some.inj hf
    exact j_zret_c hE (Or.inr rfl) hq rfl rfl dX10_isOfCounts_69
  have t_c1 : 117095065 ≠ Int32.toInt x0 := fun h => c1 (Int32.toInt_inj.mp (h.symm.trans (by decide)))
  have t_c2 : 407948928 ≠ Int32.toInt x0 := fun h => c2 (Int32.toInt_inj.mp (h.symm.trans (by decide)))
  have t_c3 : 452579328 ≠ Int32.toInt x0 := fun h => c3 (Int32.toInt_inj.mp (h.symm.trans (by decide)))
  have t_c4 : 518160384 ≠ Int32.toInt x0 := fun h => c4 (Int32.toInt_inj.mp (h.symm.trans (by decide)))
  have t_c5 : 659980288 ≠ Int32.toInt x0 := fun h => c5 (Int32.toInt_inj.mp (h.symm.trans (by decide)))
  have t_c6 : 680072352 ≠ Int32.toInt x0 := fun h => c6 (Int32.toInt_inj.mp (h.symm.trans (by decide)))
  have t_c7 : 695697408 ≠ Int32.toInt x0 := fun h => c7 (Int32.toInt_inj.mp (h.symm.trans (by decide)))
  refine j_lookup (off := 69) (tgt := 70) hE dX10_isOfCounts_1 (by decide) (by simp [Op.lookupswitch.offset, t_c1, t_c2, t_c3, t_c4, t_c5, t_c6, t_c7]) (by decide) ?_
  refine j_iconst (v := 0) hE dX10_isOfCounts_70 (by decide) ?_
  obtain rfl := Option.some.inj hf
  exact j_zret_c hE (Or.inl rfl) hq rfl rfl dX10_isOfCounts_71
def rm_Tape_isOfLanguage : Room := { frames := 1, cells := 0, slots := 0, locals := 20 }
def f_Tape_isOfLanguage  (x0 : Int32) : Option (Int32) := (if x0 = 48365568 then some 1
    else (if x0 = 83623936 then some 1
    else (if x0 = 378998784 then some 1
    else (if x0 = 419037184 then some 1
    else (if x0 = 486146048 then some 1
    else (if x0 = 522190848 then some 1
    else (if x0 = 549489824 then some 1
    else (if x0 = 639309408 then some 1
    else (if x0 = 672502784 then some 1
    else (if x0 = 788082272 then some 1
    else (f_Tape_isOfCounts x0).bind fun q11 => (bz q11).bind fun _ => some q11))))))))))
set_option maxRecDepth 100000 in
theorem c_Tape_isOfLanguage (l : Launch) (g : jG)   (x0 : Int32) (res : Int32) (hf : f_Tape_isOfLanguage x0 = some res) : MC l g yX10_isOfLanguage cX10_isOfLanguage 1 (some .boolean) rm_Tape_isOfLanguage [.int x0] (([] : List va_W)) (some (.int res)) (([] : List va_W)) 0 0 := by
  refine MC_of (own := RX10) (lv := [(0, .int x0)]) (by decide) rfl (Nat.le_of_ble_eq_true rfl) rfl rfl (fun E hE hq => ?_)
  unfold f_Tape_isOfLanguage at hf
  refine j_iload_n hE dX10_isOfLanguage_0 rfl 0 rfl ?_
  refine j_case hf (fun c1 hf => ?_) (fun c1 hf => ?_)
  · refine j_lookup (tgt := 92) hE dX10_isOfLanguage_1 (by decide) (by rw [c1]; try rfl) (by decide) ?_
    refine j_iconst (v := 1) hE dX10_isOfLanguage_92 (by decide) ?_
    obtain rfl := Option.some.inj hf
    exact j_zret_c hE (Or.inr rfl) hq rfl rfl dX10_isOfLanguage_93
  refine j_case hf (fun c2 hf => ?_) (fun c2 hf => ?_)
  · refine j_lookup (tgt := 92) hE dX10_isOfLanguage_1 (by decide) (by rw [c2]; try rfl) (by decide) ?_
    refine j_iconst (v := 1) hE dX10_isOfLanguage_92 (by decide) ?_
    obtain rfl := Option.some.inj hf
    exact j_zret_c hE (Or.inr rfl) hq rfl rfl dX10_isOfLanguage_93
  refine j_case hf (fun c3 hf => ?_) (fun c3 hf => ?_)
  · refine j_lookup (tgt := 92) hE dX10_isOfLanguage_1 (by decide) (by rw [c3]; try rfl) (by decide) ?_
    refine j_iconst (v := 1) hE dX10_isOfLanguage_92 (by decide) ?_
    obtain rfl := Option.some.inj hf
    exact j_zret_c hE (Or.inr rfl) hq rfl rfl dX10_isOfLanguage_93
  refine j_case hf (fun c4 hf => ?_) (fun c4 hf => ?_)
  · refine j_lookup (tgt := 92) hE dX10_isOfLanguage_1 (by decide) (by rw [c4]; try rfl) (by decide) ?_
    refine j_iconst (v := 1) hE dX10_isOfLanguage_92 (by decide) ?_
    obtain rfl := Option.some.inj hf
    exact j_zret_c hE (Or.inr rfl) hq rfl rfl dX10_isOfLanguage_93
  refine j_case hf (fun c5 hf => ?_) (fun c5 hf => ?_)
  · refine j_lookup (tgt := 92) hE dX10_isOfLanguage_1 (by decide) (by rw [c5]; try rfl) (by decide) ?_
    refine j_iconst (v := 1) hE dX10_isOfLanguage_92 (by decide) ?_
    obtain rfl := Option.some.inj hf
    exact j_zret_c hE (Or.inr rfl) hq rfl rfl dX10_isOfLanguage_93
  refine j_case hf (fun c6 hf => ?_) (fun c6 hf => ?_)
  · refine j_lookup (tgt := 92) hE dX10_isOfLanguage_1 (by decide) (by rw [c6]; try rfl) (by decide) ?_
    refine j_iconst (v := 1) hE dX10_isOfLanguage_92 (by decide) ?_
    obtain rfl := Option.some.inj hf
    exact j_zret_c hE (Or.inr rfl) hq rfl rfl dX10_isOfLanguage_93
  refine j_case hf (fun c7 hf => ?_) (fun c7 hf => ?_)
  · refine j_lookup (tgt := 92) hE dX10_isOfLanguage_1 (by decide) (by rw [c7]; try rfl) (by decide) ?_
    refine j_iconst (v := 1) hE dX10_isOfLanguage_92 (by decide) ?_
    obtain rfl := Option.some.inj hf
    exact j_zret_c hE (Or.inr rfl) hq rfl rfl dX10_isOfLanguage_93
  refine j_case hf (fun c8 hf => ?_) (fun c8 hf => ?_)
  · refine j_lookup (tgt := 92) hE dX10_isOfLanguage_1 (by decide) (by rw [c8]; try rfl) (by decide) ?_
    refine j_iconst (v := 1) hE dX10_isOfLanguage_92 (by decide) ?_
    obtain rfl := Option.some.inj hf
    exact j_zret_c hE (Or.inr rfl) hq rfl rfl dX10_isOfLanguage_93
  refine j_case hf (fun c9 hf => ?_) (fun c9 hf => ?_)
  · refine j_lookup (tgt := 92) hE dX10_isOfLanguage_1 (by decide) (by rw [c9]; try rfl) (by decide) ?_
    refine j_iconst (v := 1) hE dX10_isOfLanguage_92 (by decide) ?_
    obtain rfl := Option.some.inj hf
    exact j_zret_c hE (Or.inr rfl) hq rfl rfl dX10_isOfLanguage_93
  refine j_case hf (fun c10 hf => ?_) (fun c10 hf => ?_)
  · refine j_lookup (tgt := 92) hE dX10_isOfLanguage_1 (by decide) (by rw [c10]; try rfl) (by decide) ?_
    refine j_iconst (v := 1) hE dX10_isOfLanguage_92 (by decide) ?_
    obtain rfl := Option.some.inj hf
    exact j_zret_c hE (Or.inr rfl) hq rfl rfl dX10_isOfLanguage_93
  have t_c1 : 48365568 ≠ Int32.toInt x0 := fun h => c1 (Int32.toInt_inj.mp (h.symm.trans (by decide)))
  have t_c2 : 83623936 ≠ Int32.toInt x0 := fun h => c2 (Int32.toInt_inj.mp (h.symm.trans (by decide)))
  have t_c3 : 378998784 ≠ Int32.toInt x0 := fun h => c3 (Int32.toInt_inj.mp (h.symm.trans (by decide)))
  have t_c4 : 419037184 ≠ Int32.toInt x0 := fun h => c4 (Int32.toInt_inj.mp (h.symm.trans (by decide)))
  have t_c5 : 486146048 ≠ Int32.toInt x0 := fun h => c5 (Int32.toInt_inj.mp (h.symm.trans (by decide)))
  have t_c6 : 522190848 ≠ Int32.toInt x0 := fun h => c6 (Int32.toInt_inj.mp (h.symm.trans (by decide)))
  have t_c7 : 549489824 ≠ Int32.toInt x0 := fun h => c7 (Int32.toInt_inj.mp (h.symm.trans (by decide)))
  have t_c8 : 639309408 ≠ Int32.toInt x0 := fun h => c8 (Int32.toInt_inj.mp (h.symm.trans (by decide)))
  have t_c9 : 672502784 ≠ Int32.toInt x0 := fun h => c9 (Int32.toInt_inj.mp (h.symm.trans (by decide)))
  have t_c10 : 788082272 ≠ Int32.toInt x0 := fun h => c10 (Int32.toInt_inj.mp (h.symm.trans (by decide)))
  refine j_lookup (off := 93) (tgt := 94) hE dX10_isOfLanguage_1 (by decide) (by simp [Op.lookupswitch.offset, t_c1, t_c2, t_c3, t_c4, t_c5, t_c6, t_c7, t_c8, t_c9, t_c10]) (by decide) ?_
  refine j_iload_n hE dX10_isOfLanguage_94 rfl 0 rfl ?_
  obtain ⟨q11, hc12, hf⟩ := bind_of hf
  refine j_callS (ws' := ([] : List va_W)) (As := [.int x0]) (rest := []) (st2 := [.int q11]) hE (fun l => c_Tape_isOfCounts l g x0 q11 hc12) cd_X10_isOfCounts st_X10_isOfCounts ml_Tape_53 rfl rfl ⟨⟨Nat.le_of_ble_eq_true rfl, Nat.le_of_ble_eq_true rfl⟩, ⟨Nat.zero_le _, Nat.zero_le _⟩, rfl, rfl⟩ [] rfl rfl rfl (Nat.le_of_ble_eq_true rfl) rfl dX10_isOfLanguage_95 ?_
  obtain ⟨b13, hf⟩ := bz_of hf
  obtain rfl := Option.some.inj hf
  exact j_zret_c hE b13 hq rfl rfl dX10_isOfLanguage_98
def rm_Rule_stepOf : Room := { frames := 0, cells := 0, slots := 0, locals := 0 }
def f_Rule_stepOf  (x0 : Int32) : Option (Int32) := some ((-1) - x0)
set_option maxRecDepth 100000 in
theorem c_Rule_stepOf (l : Launch) (g : jG)   (x0 : Int32) (res : Int32) (hf : f_Rule_stepOf x0 = some res) : MC l g yX9_stepOf cX9_stepOf 1 (some .int) rm_Rule_stepOf [.int x0] (([] : List va_W)) (some (.int res)) (([] : List va_W)) 0 0 := by
  refine MC_of (own := RX9) (lv := [(0, .int x0)]) (by decide) rfl (Nat.le_of_ble_eq_true rfl) rfl rfl (fun E hE hq => ?_)
  unfold f_Rule_stepOf at hf
  refine j_iconst (v := (-1)) hE dX9_stepOf_0 (by decide) ?_
  refine j_iload_n hE dX9_stepOf_1 rfl 0 rfl ?_
  refine j_isub hE dX9_stepOf_2 ?_
  obtain rfl := Option.some.inj hf
  exact j_iret hE hq rfl rfl dX9_stepOf_3
def rm_Rule_add : Room := { frames := 0, cells := 0, slots := 0, locals := 0 }
def f_Rule_add (ru_z : jZ) (x1 : Int32) : Option (jZ) := (if (ru_z 0 0) < 0 then some ru_z
    else (if 64 ≤ (ru_z 0 0) then some ru_z
    else (ix (ru_z 0 0) 64).bind fun _ => some (up2 (up2 ru_z 1 (Int32.toNatClampNeg (ru_z 0 0)) x1) 0 0 ((ru_z 0 0) + 1))))
set_option maxRecDepth 100000 in
theorem c_Rule_add (l : Launch) (g : jG) (a : Nat → Nat) (ru_z : jZ) (ru_y : jY) (x1 : Int32) (res : jZ) (hf : f_Rule_add ru_z x1 = some res) : MC l g yX9_add cX9_add 2 (none : Option Jvm.ClassFile.FieldType) rm_Rule_add [.ref (a 0), .int x1] (([n_Rule g a ru_z ru_y] : List va_W)) none (([n_Rule g a res ru_y] : List va_W)) 0 0 := by
  refine MC_of (own := RX9) (lv := [(0, .ref (a 0)), (1, .int x1)]) (by decide) rfl (Nat.le_of_ble_eq_true rfl) rfl rfl (fun E hE hq => ?_)
  unfold f_Rule_add at hf
  refine j_aload_n hE dX9_add_0 rfl 0 rfl ?_
  refine j_get (v := .int (ru_z 0 0)) hE lg_Rule_9 0 rfl 0 (wg_Rule_0 g a ru_z ru_y) rfl dX9_add_1 ?_
  refine j_if_lt (tgt := 39) hE hf dX9_add_4 (by decide) (fun c1 hf => ?_) (fun c1 hf => ?_)
  · obtain rfl := Option.some.inj hf
    exact j_vret hE hq rfl rfl dX9_add_39
  · refine j_aload_n hE dX9_add_7 rfl 0 rfl ?_
    refine j_get (v := .int (ru_z 0 0)) hE lg_Rule_9 0 rfl 0 (wg_Rule_0 g a ru_z ru_y) rfl dX9_add_8 ?_
    refine j_aload_n hE dX9_add_11 rfl 0 rfl ?_
    refine j_get (v := .ref (a 1)) hE lg_Rule_15 0 rfl 0 (wg_Rule_0 g a ru_z ru_y) rfl dX9_add_12 ?_
    refine j_alen (v := 64) (t0 := 1) hE 0 rfl 1 (wg_Rule_1 g a ru_z ru_y) rfl rfl dX9_add_15 ?_
    refine j_icmp_ge (tgt := 39) hE hf dX9_add_16 (by decide) (fun c2 hf => ?_) (fun c2 hf => ?_)
    · obtain rfl := Option.some.inj hf
      exact j_vret hE hq rfl rfl dX9_add_39
    · refine j_aload_n hE dX9_add_19 rfl 0 rfl ?_
      refine j_get (v := .ref (a 1)) hE lg_Rule_15 0 rfl 0 (wg_Rule_0 g a ru_z ru_y) rfl dX9_add_20 ?_
      refine j_aload_n hE dX9_add_23 rfl 0 rfl ?_
      refine j_get (v := .int (ru_z 0 0)) hE lg_Rule_9 0 rfl 0 (wg_Rule_0 g a ru_z ru_y) rfl dX9_add_24 ?_
      refine j_iload_n hE dX9_add_27 rfl 1 rfl ?_
      refine j_iast (ws' := ([n_Rule g a (up2 ru_z 1 (Int32.toNatClampNeg (ru_z 0 0)) x1) ru_y] : List va_W)) hE hf 0 rfl 1 (wg_Rule_1 g a ru_z ru_y) (wa_Rule_1 g a ru_z ru_y (Int32.toNatClampNeg (ru_z 0 0)) x1) rfl dX9_add_28 (fun hf => ?_)
      refine j_aload_n hE dX9_add_29 rfl 0 rfl ?_
      refine j_dup hE dX9_add_30 rfl ?_
      refine j_get (v := .int (ru_z 0 0)) hE lg_Rule_9 0 rfl 0 (wg_Rule_0 g a (up2 ru_z 1 (Int32.toNatClampNeg (ru_z 0 0)) x1) ru_y) rfl dX9_add_31 ?_
      refine j_iconst (v := 1) hE dX9_add_34 (by decide) ?_
      refine j_iadd hE dX9_add_35 ?_
      refine j_put (v := .int ((ru_z 0 0) + 1)) (ws' := ([n_Rule g a (up2 (up2 ru_z 1 (Int32.toNatClampNeg (ru_z 0 0)) x1) 0 0 ((ru_z 0 0) + 1)) ru_y] : List va_W)) hE lp_Rule_9 0 rfl 0 (wg_Rule_0 g a (up2 ru_z 1 (Int32.toNatClampNeg (ru_z 0 0)) x1) ru_y) rfl rfl (Nat.le_of_ble_eq_true rfl) (wp_Rule_0 g a (up2 ru_z 1 (Int32.toNatClampNeg (ru_z 0 0)) x1) ru_y ((ru_z 0 0) + 1)) rfl dX9_add_36 ?_
      obtain rfl := Option.some.inj hf
      exact j_vret hE hq rfl rfl dX9_add_39
def rm_Rule_pop : Room := { frames := 0, cells := 0, slots := 0, locals := 0 }
def f_Rule_pop (ru_z : jZ) (ru_y : jY)  : Option (jZ × Int64) := (if (ru_z 3 0) ≤ 0 then some ((up2 ru_z 4 0 1), 0)
    else (if (ru_z 3 0) ≤ 64 then (ix ((ru_z 3 0) - 1) 64).bind fun _ => some ((up2 ru_z 3 0 ((ru_z 3 0) - 1)), (ru_y 2 (Int32.toNatClampNeg ((ru_z 3 0) - 1))))
    else some ((up2 ru_z 4 0 1), 0)))
set_option maxRecDepth 100000 in
theorem c_Rule_pop (l : Launch) (g : jG) (a : Nat → Nat) (ru_z : jZ) (ru_y : jY)  (res : jZ × Int64) (hf : f_Rule_pop ru_z ru_y = some res) : MC l g yX9_pop cX9_pop 1 (some .long) rm_Rule_pop [.ref (a 0)] (([n_Rule g a ru_z ru_y] : List va_W)) (some (.long res.2)) (([n_Rule g a res.1 ru_y] : List va_W)) 0 0 := by
  refine MC_of (own := RX9) (lv := [(0, .ref (a 0))]) (by decide) rfl (Nat.le_of_ble_eq_true rfl) rfl rfl (fun E hE hq => ?_)
  unfold f_Rule_pop at hf
  refine j_aload_n hE dX9_pop_0 rfl 0 rfl ?_
  refine j_get (v := .int (ru_z 3 0)) hE lg_Rule_23 0 rfl 0 (wg_Rule_0 g a ru_z ru_y) rfl dX9_pop_1 ?_
  refine j_if_le (tgt := 19) hE hf dX9_pop_4 (by decide) (fun c1 hf => ?_) (fun c1 hf => ?_)
  · refine j_aload_n hE dX9_pop_19 rfl 0 rfl ?_
    refine j_iconst (v := 1) hE dX9_pop_20 (by decide) ?_
    refine j_put (v := .int 1) (ws' := ([n_Rule g a (up2 ru_z 4 0 1) ru_y] : List va_W)) hE lp_Rule_26 0 rfl 0 (wg_Rule_0 g a ru_z ru_y) (by decide +kernel) (by decide +kernel) (Nat.le_of_ble_eq_true rfl) (wp_Rule_4 g a ru_z ru_y 1) rfl dX9_pop_21 ?_
    refine j_lconst (v := 0) hE dX9_pop_24 (by decide) ?_
    obtain rfl := Option.some.inj hf
    exact j_lret hE hq rfl rfl dX9_pop_25
  · refine j_aload_n hE dX9_pop_7 rfl 0 rfl ?_
    refine j_get (v := .int (ru_z 3 0)) hE lg_Rule_23 0 rfl 0 (wg_Rule_0 g a ru_z ru_y) rfl dX9_pop_8 ?_
    refine j_aload_n hE dX9_pop_11 rfl 0 rfl ?_
    refine j_get (v := .ref (a 2)) hE lg_Rule_19 0 rfl 0 (wg_Rule_0 g a ru_z ru_y) rfl dX9_pop_12 ?_
    refine j_alen (v := 64) (t0 := 2) hE 0 rfl 2 (wg_Rule_2 g a ru_z ru_y) rfl rfl dX9_pop_15 ?_
    refine j_icmp_le (tgt := 26) hE hf dX9_pop_16 (by decide) (fun c2 hf => ?_) (fun c2 hf => ?_)
    · refine j_aload_n hE dX9_pop_26 rfl 0 rfl ?_
      refine j_dup hE dX9_pop_27 rfl ?_
      refine j_get (v := .int (ru_z 3 0)) hE lg_Rule_23 0 rfl 0 (wg_Rule_0 g a ru_z ru_y) rfl dX9_pop_28 ?_
      refine j_iconst (v := 1) hE dX9_pop_31 (by decide) ?_
      refine j_isub hE dX9_pop_32 ?_
      refine j_put (v := .int ((ru_z 3 0) - 1)) (ws' := ([n_Rule g a (up2 ru_z 3 0 ((ru_z 3 0) - 1)) ru_y] : List va_W)) hE lp_Rule_23 0 rfl 0 (wg_Rule_0 g a ru_z ru_y) rfl rfl (Nat.le_of_ble_eq_true rfl) (wp_Rule_3 g a ru_z ru_y ((ru_z 3 0) - 1)) rfl dX9_pop_33 ?_
      refine j_aload_n hE dX9_pop_36 rfl 0 rfl ?_
      refine j_get (v := .ref (a 2)) hE lg_Rule_19 0 rfl 0 (wg_Rule_0 g a (up2 ru_z 3 0 ((ru_z 3 0) - 1)) ru_y) rfl dX9_pop_37 ?_
      refine j_aload_n hE dX9_pop_40 rfl 0 rfl ?_
      refine j_get (v := .int ((ru_z 3 0) - 1)) hE lg_Rule_23 0 rfl 0 (wg_Rule_0 g a (up2 ru_z 3 0 ((ru_z 3 0) - 1)) ru_y) rfl dX9_pop_41 ?_
      refine j_lald hE hf 0 rfl 2 (wg_Rule_2 g a (up2 ru_z 3 0 ((ru_z 3 0) - 1)) ru_y) dX9_pop_44 (fun hf => ?_)
      obtain rfl := Option.some.inj hf
      exact j_lret hE hq rfl rfl dX9_pop_45
    · refine j_aload_n hE dX9_pop_19 rfl 0 rfl ?_
      refine j_iconst (v := 1) hE dX9_pop_20 (by decide) ?_
      refine j_put (v := .int 1) (ws' := ([n_Rule g a (up2 ru_z 4 0 1) ru_y] : List va_W)) hE lp_Rule_26 0 rfl 0 (wg_Rule_0 g a ru_z ru_y) (by decide +kernel) (by decide +kernel) (Nat.le_of_ble_eq_true rfl) (wp_Rule_4 g a ru_z ru_y 1) rfl dX9_pop_21 ?_
      refine j_lconst (v := 0) hE dX9_pop_24 (by decide) ?_
      obtain rfl := Option.some.inj hf
      exact j_lret hE hq rfl rfl dX9_pop_25
def rm_Rule_times : Room := { frames := 0, cells := 0, slots := 0, locals := 0 }
def f_Rule_times_34  (x1 : Int64) (x3 : Int64)  (ru_z : jZ) (v5 : Int64) (s0 : Int64) : Option (jZ × Int64) := (nzl s0).bind fun _ => (if (lg_cmp v5 (1000000000000 / s0)) ≤ 0 then some (ru_z, (x1 * x3))
    else some ((up2 ru_z 4 0 1), 0))
def f_Rule_times (ru_z : jZ) (x1 : Int64) (x3 : Int64) : Option (jZ × Int64) := (if (lg_cmp x3 0) = 0 then some (ru_z, 0)
    else (if 0 ≤ (lg_cmp x1 0) then (if 0 ≤ (lg_cmp x3 0) then f_Rule_times_34 x1 x3 ru_z x1 x3
    else f_Rule_times_34 x1 x3 ru_z x1 (-x3))
    else (if 0 ≤ (lg_cmp x3 0) then f_Rule_times_34 x1 x3 ru_z (-x1) x3
    else f_Rule_times_34 x1 x3 ru_z (-x1) (-x3))))
set_option maxRecDepth 100000 in
theorem j_Rule_times_34 (E : jT) (g : jG) (a : Nat → Nat) (ru_y : jY) (x1 : Int64) (x3 : Int64) (res : jZ × Int64) (hE : jOk E g RX9 cX9_times 9 (some .long) rm_Rule_times) (hq : jEnd E g (some (.long res.2)) (([n_Rule g a res.1 ru_y] : List va_W)) 0 0)  (ru_z : jZ) (v5 : Int64) (s0 : Int64) (hf : f_Rule_times_34 x1 x3 ru_z v5 s0 = some res) : J E g 0 0 (([n_Rule g a ru_z ru_y] : List va_W)) [(0, .ref (a 0)), (1, .long x1), (3, .long x3), (5, .long v5)] 34 [.long s0] := by
  unfold f_Rule_times_34 at hf
  refine j_lstore (lv' := [(7, .long s0), (0, .ref (a 0)), (1, .long x1), (3, .long x3), (5, .long v5)]) hE dX9_times_34 (by decide) rfl ?_
  refine j_lload hE dX9_times_36 4 rfl ?_
  refine j_ldc2 hE co_Rule_85 dX9_times_38 ?_
  refine j_lload hE dX9_times_41 0 rfl ?_
  refine j_ldiv hE hf dX9_times_43 (fun hf => ?_)
  refine j_lcmp hE dX9_times_44 ?_
  refine j_if_le (tgt := 55) hE hf dX9_times_45 (by decide) (fun c5 hf => ?_) (fun c5 hf => ?_)
  · refine j_lload_n hE dX9_times_55 rfl 2 rfl ?_
    refine j_lload_n hE dX9_times_56 rfl 3 rfl ?_
    refine j_lmul hE dX9_times_57 ?_
    obtain rfl := Option.some.inj hf
    exact j_lret hE hq rfl rfl dX9_times_58
  · refine j_aload_n hE dX9_times_48 rfl 1 rfl ?_
    refine j_iconst (v := 1) hE dX9_times_49 (by decide) ?_
    refine j_put (v := .int 1) (ws' := ([n_Rule g a (up2 ru_z 4 0 1) ru_y] : List va_W)) hE lp_Rule_26 0 rfl 0 (wg_Rule_0 g a ru_z ru_y) (by decide +kernel) (by decide +kernel) (Nat.le_of_ble_eq_true rfl) (wp_Rule_4 g a ru_z ru_y 1) rfl dX9_times_50 ?_
    refine j_lconst (v := 0) hE dX9_times_53 (by decide) ?_
    obtain rfl := Option.some.inj hf
    exact j_lret hE hq rfl rfl dX9_times_54
set_option maxRecDepth 100000 in
theorem c_Rule_times (l : Launch) (g : jG) (a : Nat → Nat) (ru_z : jZ) (ru_y : jY) (x1 : Int64) (x3 : Int64) (res : jZ × Int64) (hf : f_Rule_times ru_z x1 x3 = some res) : MC l g yX9_times cX9_times 9 (some .long) rm_Rule_times [.ref (a 0), .long x1, .long x3] (([n_Rule g a ru_z ru_y] : List va_W)) (some (.long res.2)) (([n_Rule g a res.1 ru_y] : List va_W)) 0 0 := by
  refine MC_of (own := RX9) (lv := [(0, .ref (a 0)), (1, .long x1), (3, .long x3)]) (by decide) rfl (Nat.le_of_ble_eq_true rfl) rfl rfl (fun E hE hq => ?_)
  unfold f_Rule_times at hf
  refine j_lload_n hE dX9_times_0 rfl 2 rfl ?_
  refine j_lconst (v := 0) hE dX9_times_1 (by decide) ?_
  refine j_lcmp hE dX9_times_2 ?_
  refine j_if_ne (tgt := 8) hE hf dX9_times_3 (by decide) (fun c1 hf => ?_) (fun c1 hf => ?_)
  · refine j_lload_n hE dX9_times_8 rfl 1 rfl ?_
    refine j_lconst (v := 0) hE dX9_times_9 (by decide) ?_
    refine j_lcmp hE dX9_times_10 ?_
    refine j_if_ge (tgt := 19) hE hf dX9_times_11 (by decide) (fun c2 hf => ?_) (fun c2 hf => ?_)
    · refine j_lload_n hE dX9_times_19 rfl 1 rfl ?_
      refine j_lstore (lv' := [(5, .long x1), (0, .ref (a 0)), (1, .long x1), (3, .long x3)]) hE dX9_times_20 (by decide) rfl ?_
      refine j_lload_n hE dX9_times_22 rfl 3 rfl ?_
      refine j_lconst (v := 0) hE dX9_times_23 (by decide) ?_
      refine j_lcmp hE dX9_times_24 ?_
      refine j_if_ge (tgt := 33) hE hf dX9_times_25 (by decide) (fun c3 hf => ?_) (fun c3 hf => ?_)
      · refine j_lload_n hE dX9_times_33 rfl 3 rfl ?_
        exact j_sub [1, 2, 3, 0] rfl (j_Rule_times_34 E g a ru_y x1 x3 res hE hq ru_z x1 x3 hf)
      · refine j_lload_n hE dX9_times_28 rfl 3 rfl ?_
        refine j_lneg hE dX9_times_29 ?_
        refine j_goto (tgt := 34) hE dX9_times_30 (by decide) ?_
        exact j_sub [1, 2, 3, 0] rfl (j_Rule_times_34 E g a ru_y x1 x3 res hE hq ru_z x1 (-x3) hf)
    · refine j_lload_n hE dX9_times_14 rfl 1 rfl ?_
      refine j_lneg hE dX9_times_15 ?_
      refine j_goto (tgt := 20) hE dX9_times_16 (by decide) ?_
      refine j_lstore (lv' := [(5, .long (-x1)), (0, .ref (a 0)), (1, .long x1), (3, .long x3)]) hE dX9_times_20 (by decide) rfl ?_
      refine j_lload_n hE dX9_times_22 rfl 3 rfl ?_
      refine j_lconst (v := 0) hE dX9_times_23 (by decide) ?_
      refine j_lcmp hE dX9_times_24 ?_
      refine j_if_ge (tgt := 33) hE hf dX9_times_25 (by decide) (fun c4 hf => ?_) (fun c4 hf => ?_)
      · refine j_lload_n hE dX9_times_33 rfl 3 rfl ?_
        exact j_sub [1, 2, 3, 0] rfl (j_Rule_times_34 E g a ru_y x1 x3 res hE hq ru_z (-x1) x3 hf)
      · refine j_lload_n hE dX9_times_28 rfl 3 rfl ?_
        refine j_lneg hE dX9_times_29 ?_
        refine j_goto (tgt := 34) hE dX9_times_30 (by decide) ?_
        exact j_sub [1, 2, 3, 0] rfl (j_Rule_times_34 E g a ru_y x1 x3 res hE hq ru_z (-x1) (-x3) hf)
  · refine j_lconst (v := 0) hE dX9_times_6 (by decide) ?_
    obtain rfl := Option.some.inj hf
    exact j_lret hE hq rfl rfl dX9_times_7
def rm_Rule_by : Room := { frames := 0, cells := 0, slots := 0, locals := 0 }
def f_Rule_by (ru_z : jZ) (x1 : Int64) (x3 : Int64) : Option (jZ × Int64) := (if (lg_cmp x3 0) = 0 then some ((up2 ru_z 4 0 1), 0)
    else (nzl x3).bind fun _ => some (ru_z, (x1 / x3)))
set_option maxRecDepth 100000 in
theorem c_Rule_by (l : Launch) (g : jG) (a : Nat → Nat) (ru_z : jZ) (ru_y : jY) (x1 : Int64) (x3 : Int64) (res : jZ × Int64) (hf : f_Rule_by ru_z x1 x3 = some res) : MC l g yX9_by cX9_by 5 (some .long) rm_Rule_by [.ref (a 0), .long x1, .long x3] (([n_Rule g a ru_z ru_y] : List va_W)) (some (.long res.2)) (([n_Rule g a res.1 ru_y] : List va_W)) 0 0 := by
  refine MC_of (own := RX9) (lv := [(0, .ref (a 0)), (1, .long x1), (3, .long x3)]) (by decide) rfl (Nat.le_of_ble_eq_true rfl) rfl rfl (fun E hE hq => ?_)
  unfold f_Rule_by at hf
  refine j_lload_n hE dX9_by_0 rfl 2 rfl ?_
  refine j_lconst (v := 0) hE dX9_by_1 (by decide) ?_
  refine j_lcmp hE dX9_by_2 ?_
  refine j_if_ne (tgt := 13) hE hf dX9_by_3 (by decide) (fun c1 hf => ?_) (fun c1 hf => ?_)
  · refine j_lload_n hE dX9_by_13 rfl 1 rfl ?_
    refine j_lload_n hE dX9_by_14 rfl 2 rfl ?_
    refine j_ldiv hE hf dX9_by_15 (fun hf => ?_)
    obtain rfl := Option.some.inj hf
    exact j_lret hE hq rfl rfl dX9_by_16
  · refine j_aload_n hE dX9_by_6 rfl 0 rfl ?_
    refine j_iconst (v := 1) hE dX9_by_7 (by decide) ?_
    refine j_put (v := .int 1) (ws' := ([n_Rule g a (up2 ru_z 4 0 1) ru_y] : List va_W)) hE lp_Rule_26 0 rfl 0 (wg_Rule_0 g a ru_z ru_y) (by decide +kernel) (by decide +kernel) (Nat.le_of_ble_eq_true rfl) (wp_Rule_4 g a ru_z ru_y 1) rfl dX9_by_8 ?_
    refine j_lconst (v := 0) hE dX9_by_11 (by decide) ?_
    obtain rfl := Option.some.inj hf
    exact j_lret hE hq rfl rfl dX9_by_12
def rm_Rule_join : Room := { frames := 1, cells := 0, slots := 0, locals := 28 }
def f_Rule_join (ru_z : jZ) (x1 : Int32) (x2 : Int64) (x4 : Int64) : Option (jZ × Int64) := (if x1 = 42 then (f_Rule_times ru_z x2 x4).bind fun q2 => some (q2.1, q2.2)
    else (if x1 = 43 then some (ru_z, (x2 + x4))
    else (if x1 = 45 then some (ru_z, (x2 - x4))
    else (if x1 = 47 then (f_Rule_by ru_z x2 x4).bind fun q7 => some (q7.1, q7.2)
    else (if x1 = 60 then (if 0 ≤ (lg_cmp x2 x4) then some (ru_z, 0)
    else some (ru_z, 1))
    else (if x1 = 61 then (if (lg_cmp x2 x4) = 0 then some (ru_z, 1)
    else some (ru_z, 0))
    else (if x1 = 62 then (if (lg_cmp x2 x4) ≤ 0 then some (ru_z, 0)
    else some (ru_z, 1))
    else (if x1 = 256 then (if 0 < (lg_cmp x2 x4) then some (ru_z, 0)
    else some (ru_z, 1))
    else (if x1 = 257 then (if (lg_cmp x2 x4) = 0 then some (ru_z, 0)
    else some (ru_z, 1))
    else (if x1 = 258 then (if (lg_cmp x2 x4) < 0 then some (ru_z, 0)
    else some (ru_z, 1))
    else (if x1 = 48365568 then (if (lg_cmp x2 0) = 0 then some (ru_z, 0)
    else (if (lg_cmp x4 0) = 0 then some (ru_z, 0)
    else some (ru_z, 1)))
    else (if (lg_cmp x2 0) = 0 then (if (lg_cmp x4 0) = 0 then some (ru_z, 0)
    else some (ru_z, 1))
    else some (ru_z, 1)))))))))))))
set_option maxRecDepth 100000 in
theorem c_Rule_join (l : Launch) (g : jG) (a : Nat → Nat) (ru_z : jZ) (ru_y : jY) (x1 : Int32) (x2 : Int64) (x4 : Int64) (res : jZ × Int64) (hf : f_Rule_join ru_z x1 x2 x4 = some res) : MC l g yX9_join cX9_join 6 (some .long) rm_Rule_join [.ref (a 0), .int x1, .long x2, .long x4] (([n_Rule g a ru_z ru_y] : List va_W)) (some (.long res.2)) (([n_Rule g a res.1 ru_y] : List va_W)) 0 0 := by
  refine MC_of (own := RX9) (lv := [(0, .ref (a 0)), (1, .int x1), (2, .long x2), (4, .long x4)]) (by decide) rfl (Nat.le_of_ble_eq_true rfl) rfl rfl (fun E hE hq => ?_)
  unfold f_Rule_join at hf
  refine j_iload_n hE dX9_join_0 rfl 1 rfl ?_
  refine j_case hf (fun c1 hf => ?_) (fun c1 hf => ?_)
  · refine j_lookup (tgt := 110) hE dX9_join_1 (by decide) (by rw [c1]; try rfl) (by decide) ?_
    refine j_aload_n hE dX9_join_110 rfl 0 rfl ?_
    refine j_lload_n hE dX9_join_111 rfl 2 rfl ?_
    refine j_lload hE dX9_join_112 3 rfl ?_
    obtain ⟨q2, hc3, hf⟩ := bind_of hf
    refine j_callV (ws' := ([n_Rule g a q2.1 ru_y] : List va_W)) (As := [.long x2, .long x4]) (rest := []) (st2 := [.long q2.2]) hE (fun l => c_Rule_times l g a ru_z ru_y x2 x4 q2 hc3) cd_X9_times cv_X9_times ml_Rule_78 rfl rfl rfl (wg_Rule_0 _ _ _ _) ⟨⟨Nat.le_of_ble_eq_true rfl, Nat.le_of_ble_eq_true rfl⟩, ⟨Nat.zero_le _, Nat.zero_le _⟩, rfl, rfl⟩ [0] rfl rfl rfl (Nat.le_of_ble_eq_true rfl) rfl dX9_join_114 ?_
    obtain rfl := Option.some.inj hf
    exact j_lret hE hq rfl rfl dX9_join_117
  refine j_case hf (fun c4 hf => ?_) (fun c4 hf => ?_)
  · refine j_lookup (tgt := 100) hE dX9_join_1 (by decide) (by rw [c4]; try rfl) (by decide) ?_
    refine j_lload_n hE dX9_join_100 rfl 2 rfl ?_
    refine j_lload hE dX9_join_101 3 rfl ?_
    refine j_ladd hE dX9_join_103 ?_
    obtain rfl := Option.some.inj hf
    exact j_lret hE hq rfl rfl dX9_join_104
  refine j_case hf (fun c5 hf => ?_) (fun c5 hf => ?_)
  · refine j_lookup (tgt := 105) hE dX9_join_1 (by decide) (by rw [c5]; try rfl) (by decide) ?_
    refine j_lload_n hE dX9_join_105 rfl 2 rfl ?_
    refine j_lload hE dX9_join_106 3 rfl ?_
    refine j_lsub hE dX9_join_108 ?_
    obtain rfl := Option.some.inj hf
    exact j_lret hE hq rfl rfl dX9_join_109
  refine j_case hf (fun c6 hf => ?_) (fun c6 hf => ?_)
  · refine j_lookup (tgt := 118) hE dX9_join_1 (by decide) (by rw [c6]; try rfl) (by decide) ?_
    refine j_aload_n hE dX9_join_118 rfl 0 rfl ?_
    refine j_lload_n hE dX9_join_119 rfl 2 rfl ?_
    refine j_lload hE dX9_join_120 3 rfl ?_
    obtain ⟨q7, hc8, hf⟩ := bind_of hf
    refine j_callV (ws' := ([n_Rule g a q7.1 ru_y] : List va_W)) (As := [.long x2, .long x4]) (rest := []) (st2 := [.long q7.2]) hE (fun l => c_Rule_by l g a ru_z ru_y x2 x4 q7 hc8) cd_X9_by cv_X9_by ml_Rule_82 rfl rfl rfl (wg_Rule_0 _ _ _ _) ⟨⟨Nat.le_of_ble_eq_true rfl, Nat.le_of_ble_eq_true rfl⟩, ⟨Nat.zero_le _, Nat.zero_le _⟩, rfl, rfl⟩ [0] rfl rfl rfl (Nat.le_of_ble_eq_true rfl) rfl dX9_join_122 ?_
    obtain rfl := Option.some.inj hf
    exact j_lret hE hq rfl rfl dX9_join_125
  refine j_case hf (fun c9 hf => ?_) (fun c9 hf => ?_)
  · refine j_lookup (tgt := 126) hE dX9_join_1 (by decide) (by rw [c9]; try rfl) (by decide) ?_
    refine j_lload_n hE dX9_join_126 rfl 2 rfl ?_
    refine j_lload hE dX9_join_127 3 rfl ?_
    refine j_lcmp hE dX9_join_129 ?_
    refine j_if_ge (tgt := 137) hE hf dX9_join_130 (by decide) (fun c10 hf => ?_) (fun c10 hf => ?_)
    · refine j_lconst (v := 0) hE dX9_join_137 (by decide) ?_
      obtain rfl := Option.some.inj hf
      exact j_lret hE hq rfl rfl dX9_join_138
    · refine j_lconst (v := 1) hE dX9_join_133 (by decide) ?_
      refine j_goto (tgt := 138) hE dX9_join_134 (by decide) ?_
      obtain rfl := Option.some.inj hf
      exact j_lret hE hq rfl rfl dX9_join_138
  refine j_case hf (fun c11 hf => ?_) (fun c11 hf => ?_)
  · refine j_lookup (tgt := 139) hE dX9_join_1 (by decide) (by rw [c11]; try rfl) (by decide) ?_
    refine j_lload_n hE dX9_join_139 rfl 2 rfl ?_
    refine j_lload hE dX9_join_140 3 rfl ?_
    refine j_lcmp hE dX9_join_142 ?_
    refine j_if_ne (tgt := 150) hE hf dX9_join_143 (by decide) (fun c12 hf => ?_) (fun c12 hf => ?_)
    · refine j_lconst (v := 0) hE dX9_join_150 (by decide) ?_
      obtain rfl := Option.some.inj hf
      exact j_lret hE hq rfl rfl dX9_join_151
    · refine j_lconst (v := 1) hE dX9_join_146 (by decide) ?_
      refine j_goto (tgt := 151) hE dX9_join_147 (by decide) ?_
      obtain rfl := Option.some.inj hf
      exact j_lret hE hq rfl rfl dX9_join_151
  refine j_case hf (fun c13 hf => ?_) (fun c13 hf => ?_)
  · refine j_lookup (tgt := 152) hE dX9_join_1 (by decide) (by rw [c13]; try rfl) (by decide) ?_
    refine j_lload_n hE dX9_join_152 rfl 2 rfl ?_
    refine j_lload hE dX9_join_153 3 rfl ?_
    refine j_lcmp hE dX9_join_155 ?_
    refine j_if_le (tgt := 163) hE hf dX9_join_156 (by decide) (fun c14 hf => ?_) (fun c14 hf => ?_)
    · refine j_lconst (v := 0) hE dX9_join_163 (by decide) ?_
      obtain rfl := Option.some.inj hf
      exact j_lret hE hq rfl rfl dX9_join_164
    · refine j_lconst (v := 1) hE dX9_join_159 (by decide) ?_
      refine j_goto (tgt := 164) hE dX9_join_160 (by decide) ?_
      obtain rfl := Option.some.inj hf
      exact j_lret hE hq rfl rfl dX9_join_164
  refine j_case hf (fun c15 hf => ?_) (fun c15 hf => ?_)
  · refine j_lookup (tgt := 165) hE dX9_join_1 (by decide) (by rw [c15]; try rfl) (by decide) ?_
    refine j_lload_n hE dX9_join_165 rfl 2 rfl ?_
    refine j_lload hE dX9_join_166 3 rfl ?_
    refine j_lcmp hE dX9_join_168 ?_
    refine j_if_gt (tgt := 176) hE hf dX9_join_169 (by decide) (fun c16 hf => ?_) (fun c16 hf => ?_)
    · refine j_lconst (v := 0) hE dX9_join_176 (by decide) ?_
      obtain rfl := Option.some.inj hf
      exact j_lret hE hq rfl rfl dX9_join_177
    · refine j_lconst (v := 1) hE dX9_join_172 (by decide) ?_
      refine j_goto (tgt := 177) hE dX9_join_173 (by decide) ?_
      obtain rfl := Option.some.inj hf
      exact j_lret hE hq rfl rfl dX9_join_177
  refine j_case hf (fun c17 hf => ?_) (fun c17 hf => ?_)
  · refine j_lookup (tgt := 178) hE dX9_join_1 (by decide) (by rw [c17]; try rfl) (by decide) ?_
    refine j_lload_n hE dX9_join_178 rfl 2 rfl ?_
    refine j_lload hE dX9_join_179 3 rfl ?_
    refine j_lcmp hE dX9_join_181 ?_
    refine j_if_eq (tgt := 189) hE hf dX9_join_182 (by decide) (fun c18 hf => ?_) (fun c18 hf => ?_)
    · refine j_lconst (v := 0) hE dX9_join_189 (by decide) ?_
      obtain rfl := Option.some.inj hf
      exact j_lret hE hq rfl rfl dX9_join_190
    · refine j_lconst (v := 1) hE dX9_join_185 (by decide) ?_
      refine j_goto (tgt := 190) hE dX9_join_186 (by decide) ?_
      obtain rfl := Option.some.inj hf
      exact j_lret hE hq rfl rfl dX9_join_190
  refine j_case hf (fun c19 hf => ?_) (fun c19 hf => ?_)
  · refine j_lookup (tgt := 191) hE dX9_join_1 (by decide) (by rw [c19]; try rfl) (by decide) ?_
    refine j_lload_n hE dX9_join_191 rfl 2 rfl ?_
    refine j_lload hE dX9_join_192 3 rfl ?_
    refine j_lcmp hE dX9_join_194 ?_
    refine j_if_lt (tgt := 202) hE hf dX9_join_195 (by decide) (fun c20 hf => ?_) (fun c20 hf => ?_)
    · refine j_lconst (v := 0) hE dX9_join_202 (by decide) ?_
      obtain rfl := Option.some.inj hf
      exact j_lret hE hq rfl rfl dX9_join_203
    · refine j_lconst (v := 1) hE dX9_join_198 (by decide) ?_
      refine j_goto (tgt := 203) hE dX9_join_199 (by decide) ?_
      obtain rfl := Option.some.inj hf
      exact j_lret hE hq rfl rfl dX9_join_203
  refine j_case hf (fun c21 hf => ?_) (fun c21 hf => ?_)
  · refine j_lookup (tgt := 204) hE dX9_join_1 (by decide) (by rw [c21]; try rfl) (by decide) ?_
    refine j_lload_n hE dX9_join_204 rfl 2 rfl ?_
    refine j_lconst (v := 0) hE dX9_join_205 (by decide) ?_
    refine j_lcmp hE dX9_join_206 ?_
    refine j_if_eq (tgt := 221) hE hf dX9_join_207 (by decide) (fun c22 hf => ?_) (fun c22 hf => ?_)
    · refine j_lconst (v := 0) hE dX9_join_221 (by decide) ?_
      obtain rfl := Option.some.inj hf
      exact j_lret hE hq rfl rfl dX9_join_222
    · refine j_lload hE dX9_join_210 3 rfl ?_
      refine j_lconst (v := 0) hE dX9_join_212 (by decide) ?_
      refine j_lcmp hE dX9_join_213 ?_
      refine j_if_eq (tgt := 221) hE hf dX9_join_214 (by decide) (fun c23 hf => ?_) (fun c23 hf => ?_)
      · refine j_lconst (v := 0) hE dX9_join_221 (by decide) ?_
        obtain rfl := Option.some.inj hf
        exact j_lret hE hq rfl rfl dX9_join_222
      · refine j_lconst (v := 1) hE dX9_join_217 (by decide) ?_
        refine j_goto (tgt := 222) hE dX9_join_218 (by decide) ?_
        obtain rfl := Option.some.inj hf
        exact j_lret hE hq rfl rfl dX9_join_222
  have t_c1 : 42 ≠ Int32.toInt x1 := fun h => c1 (Int32.toInt_inj.mp (h.symm.trans (by decide)))
  have t_c4 : 43 ≠ Int32.toInt x1 := fun h => c4 (Int32.toInt_inj.mp (h.symm.trans (by decide)))
  have t_c5 : 45 ≠ Int32.toInt x1 := fun h => c5 (Int32.toInt_inj.mp (h.symm.trans (by decide)))
  have t_c6 : 47 ≠ Int32.toInt x1 := fun h => c6 (Int32.toInt_inj.mp (h.symm.trans (by decide)))
  have t_c9 : 60 ≠ Int32.toInt x1 := fun h => c9 (Int32.toInt_inj.mp (h.symm.trans (by decide)))
  have t_c11 : 61 ≠ Int32.toInt x1 := fun h => c11 (Int32.toInt_inj.mp (h.symm.trans (by decide)))
  have t_c13 : 62 ≠ Int32.toInt x1 := fun h => c13 (Int32.toInt_inj.mp (h.symm.trans (by decide)))
  have t_c15 : 256 ≠ Int32.toInt x1 := fun h => c15 (Int32.toInt_inj.mp (h.symm.trans (by decide)))
  have t_c17 : 257 ≠ Int32.toInt x1 := fun h => c17 (Int32.toInt_inj.mp (h.symm.trans (by decide)))
  have t_c19 : 258 ≠ Int32.toInt x1 := fun h => c19 (Int32.toInt_inj.mp (h.symm.trans (by decide)))
  have t_c21 : 48365568 ≠ Int32.toInt x1 := fun h => c21 (Int32.toInt_inj.mp (h.symm.trans (by decide)))
  refine j_lookup (off := 222) (tgt := 223) hE dX9_join_1 (by decide) (by simp [Op.lookupswitch.offset, t_c1, t_c4, t_c5, t_c6, t_c9, t_c11, t_c13, t_c15, t_c17, t_c19, t_c21]) (by decide) ?_
  refine j_lload_n hE dX9_join_223 rfl 2 rfl ?_
  refine j_lconst (v := 0) hE dX9_join_224 (by decide) ?_
  refine j_lcmp hE dX9_join_225 ?_
  refine j_if_ne (tgt := 236) hE hf dX9_join_226 (by decide) (fun c24 hf => ?_) (fun c24 hf => ?_)
  · refine j_lconst (v := 1) hE dX9_join_236 (by decide) ?_
    refine j_goto (tgt := 241) hE dX9_join_237 (by decide) ?_
    obtain rfl := Option.some.inj hf
    exact j_lret hE hq rfl rfl dX9_join_241
  · refine j_lload hE dX9_join_229 3 rfl ?_
    refine j_lconst (v := 0) hE dX9_join_231 (by decide) ?_
    refine j_lcmp hE dX9_join_232 ?_
    refine j_if_eq (tgt := 240) hE hf dX9_join_233 (by decide) (fun c25 hf => ?_) (fun c25 hf => ?_)
    · refine j_lconst (v := 0) hE dX9_join_240 (by decide) ?_
      obtain rfl := Option.some.inj hf
      exact j_lret hE hq rfl rfl dX9_join_241
    · refine j_lconst (v := 1) hE dX9_join_236 (by decide) ?_
      refine j_goto (tgt := 241) hE dX9_join_237 (by decide) ?_
      obtain rfl := Option.some.inj hf
      exact j_lret hE hq rfl rfl dX9_join_241
def rm_Rule_push : Room := { frames := 0, cells := 0, slots := 0, locals := 0 }
def f_Rule_push (ru_z : jZ) (ru_y : jY) (x1 : Int64) : Option (jZ × jY) := (if (ru_z 3 0) < 0 then some ((up2 ru_z 4 0 1), ru_y)
    else (if 64 ≤ (ru_z 3 0) then some ((up2 ru_z 4 0 1), ru_y)
    else (if 0 < (lg_cmp x1 1000000000000) then some ((up2 ru_z 4 0 1), ru_y)
    else (if 0 ≤ (lg_cmp x1 (-1000000000000)) then (ix (ru_z 3 0) 64).bind fun _ => some ((up2 ru_z 3 0 ((ru_z 3 0) + 1)), (up2 ru_y 2 (Int32.toNatClampNeg (ru_z 3 0)) x1))
    else some ((up2 ru_z 4 0 1), ru_y)))))
set_option maxRecDepth 100000 in
theorem c_Rule_push (l : Launch) (g : jG) (a : Nat → Nat) (ru_z : jZ) (ru_y : jY) (x1 : Int64) (res : jZ × jY) (hf : f_Rule_push ru_z ru_y x1 = some res) : MC l g yX9_push cX9_push 3 (none : Option Jvm.ClassFile.FieldType) rm_Rule_push [.ref (a 0), .long x1] (([n_Rule g a ru_z ru_y] : List va_W)) none (([n_Rule g a res.1 res.2] : List va_W)) 0 0 := by
  refine MC_of (own := RX9) (lv := [(0, .ref (a 0)), (1, .long x1)]) (by decide) rfl (Nat.le_of_ble_eq_true rfl) rfl rfl (fun E hE hq => ?_)
  unfold f_Rule_push at hf
  refine j_aload_n hE dX9_push_0 rfl 0 rfl ?_
  refine j_get (v := .int (ru_z 3 0)) hE lg_Rule_23 0 rfl 0 (wg_Rule_0 g a ru_z ru_y) rfl dX9_push_1 ?_
  refine j_if_lt (tgt := 35) hE hf dX9_push_4 (by decide) (fun c1 hf => ?_) (fun c1 hf => ?_)
  · refine j_aload_n hE dX9_push_35 rfl 0 rfl ?_
    refine j_iconst (v := 1) hE dX9_push_36 (by decide) ?_
    refine j_put (v := .int 1) (ws' := ([n_Rule g a (up2 ru_z 4 0 1) ru_y] : List va_W)) hE lp_Rule_26 0 rfl 0 (wg_Rule_0 g a ru_z ru_y) (by decide +kernel) (by decide +kernel) (Nat.le_of_ble_eq_true rfl) (wp_Rule_4 g a ru_z ru_y 1) rfl dX9_push_37 ?_
    obtain rfl := Option.some.inj hf
    exact j_vret hE hq rfl rfl dX9_push_40
  · refine j_aload_n hE dX9_push_7 rfl 0 rfl ?_
    refine j_get (v := .int (ru_z 3 0)) hE lg_Rule_23 0 rfl 0 (wg_Rule_0 g a ru_z ru_y) rfl dX9_push_8 ?_
    refine j_aload_n hE dX9_push_11 rfl 0 rfl ?_
    refine j_get (v := .ref (a 2)) hE lg_Rule_19 0 rfl 0 (wg_Rule_0 g a ru_z ru_y) rfl dX9_push_12 ?_
    refine j_alen (v := 64) (t0 := 2) hE 0 rfl 2 (wg_Rule_2 g a ru_z ru_y) rfl rfl dX9_push_15 ?_
    refine j_icmp_ge (tgt := 35) hE hf dX9_push_16 (by decide) (fun c2 hf => ?_) (fun c2 hf => ?_)
    · refine j_aload_n hE dX9_push_35 rfl 0 rfl ?_
      refine j_iconst (v := 1) hE dX9_push_36 (by decide) ?_
      refine j_put (v := .int 1) (ws' := ([n_Rule g a (up2 ru_z 4 0 1) ru_y] : List va_W)) hE lp_Rule_26 0 rfl 0 (wg_Rule_0 g a ru_z ru_y) (by decide +kernel) (by decide +kernel) (Nat.le_of_ble_eq_true rfl) (wp_Rule_4 g a ru_z ru_y 1) rfl dX9_push_37 ?_
      obtain rfl := Option.some.inj hf
      exact j_vret hE hq rfl rfl dX9_push_40
    · refine j_lload_n hE dX9_push_19 rfl 1 rfl ?_
      refine j_ldc2 hE co_Rule_85 dX9_push_20 ?_
      refine j_lcmp hE dX9_push_23 ?_
      refine j_if_gt (tgt := 35) hE hf dX9_push_24 (by decide) (fun c3 hf => ?_) (fun c3 hf => ?_)
      · refine j_aload_n hE dX9_push_35 rfl 0 rfl ?_
        refine j_iconst (v := 1) hE dX9_push_36 (by decide) ?_
        refine j_put (v := .int 1) (ws' := ([n_Rule g a (up2 ru_z 4 0 1) ru_y] : List va_W)) hE lp_Rule_26 0 rfl 0 (wg_Rule_0 g a ru_z ru_y) (by decide +kernel) (by decide +kernel) (Nat.le_of_ble_eq_true rfl) (wp_Rule_4 g a ru_z ru_y 1) rfl dX9_push_37 ?_
        obtain rfl := Option.some.inj hf
        exact j_vret hE hq rfl rfl dX9_push_40
      · refine j_lload_n hE dX9_push_27 rfl 1 rfl ?_
        refine j_ldc2 hE co_Rule_87 dX9_push_28 ?_
        refine j_lcmp hE dX9_push_31 ?_
        refine j_if_ge (tgt := 41) hE hf dX9_push_32 (by decide) (fun c4 hf => ?_) (fun c4 hf => ?_)
        · refine j_aload_n hE dX9_push_41 rfl 0 rfl ?_
          refine j_get (v := .ref (a 2)) hE lg_Rule_19 0 rfl 0 (wg_Rule_0 g a ru_z ru_y) rfl dX9_push_42 ?_
          refine j_aload_n hE dX9_push_45 rfl 0 rfl ?_
          refine j_get (v := .int (ru_z 3 0)) hE lg_Rule_23 0 rfl 0 (wg_Rule_0 g a ru_z ru_y) rfl dX9_push_46 ?_
          refine j_lload_n hE dX9_push_49 rfl 1 rfl ?_
          refine j_last (ws' := ([n_Rule g a ru_z (up2 ru_y 2 (Int32.toNatClampNeg (ru_z 3 0)) x1)] : List va_W)) hE hf 0 rfl 2 (wg_Rule_2 g a ru_z ru_y) (wa_Rule_2 g a ru_z ru_y (Int32.toNatClampNeg (ru_z 3 0)) x1) rfl dX9_push_50 (fun hf => ?_)
          refine j_aload_n hE dX9_push_51 rfl 0 rfl ?_
          refine j_dup hE dX9_push_52 rfl ?_
          refine j_get (v := .int (ru_z 3 0)) hE lg_Rule_23 0 rfl 0 (wg_Rule_0 g a ru_z (up2 ru_y 2 (Int32.toNatClampNeg (ru_z 3 0)) x1)) rfl dX9_push_53 ?_
          refine j_iconst (v := 1) hE dX9_push_56 (by decide) ?_
          refine j_iadd hE dX9_push_57 ?_
          refine j_put (v := .int ((ru_z 3 0) + 1)) (ws' := ([n_Rule g a (up2 ru_z 3 0 ((ru_z 3 0) + 1)) (up2 ru_y 2 (Int32.toNatClampNeg (ru_z 3 0)) x1)] : List va_W)) hE lp_Rule_23 0 rfl 0 (wg_Rule_0 g a ru_z (up2 ru_y 2 (Int32.toNatClampNeg (ru_z 3 0)) x1)) rfl rfl (Nat.le_of_ble_eq_true rfl) (wp_Rule_3 g a ru_z (up2 ru_y 2 (Int32.toNatClampNeg (ru_z 3 0)) x1) ((ru_z 3 0) + 1)) rfl dX9_push_58 ?_
          obtain rfl := Option.some.inj hf
          exact j_vret hE hq rfl rfl dX9_push_61
        · refine j_aload_n hE dX9_push_35 rfl 0 rfl ?_
          refine j_iconst (v := 1) hE dX9_push_36 (by decide) ?_
          refine j_put (v := .int 1) (ws' := ([n_Rule g a (up2 ru_z 4 0 1) ru_y] : List va_W)) hE lp_Rule_26 0 rfl 0 (wg_Rule_0 g a ru_z ru_y) (by decide +kernel) (by decide +kernel) (Nat.le_of_ble_eq_true rfl) (wp_Rule_4 g a ru_z ru_y 1) rfl dX9_push_37 ?_
          obtain rfl := Option.some.inj hf
          exact j_vret hE hq rfl rfl dX9_push_40
def rm_Rule_valueOf : Room := { frames := 1, cells := 0, slots := 0, locals := 21 }
def f_Rule_valueOf (ru_z : jZ) (x1 : Int32) : Option (Int64) := (if x1 = 407948928 then some (Int32.toInt64 (if (if (ru_z 7 0) < (ru_z 6 0) then (ru_z 7 0) else (ru_z 6 0)) < (ru_z 5 0) then (if (ru_z 7 0) < (ru_z 6 0) then (ru_z 7 0) else (ru_z 6 0)) else (ru_z 5 0)))
    else (if x1 = 452579328 then some (Int32.toInt64 (if (ru_z 5 0) < (if (ru_z 6 0) < (ru_z 7 0) then (ru_z 7 0) else (ru_z 6 0)) then (if (ru_z 6 0) < (ru_z 7 0) then (ru_z 7 0) else (ru_z 6 0)) else (ru_z 5 0)))
    else (if x1 = 518160384 then some (Int32.toInt64 (ru_z 5 0))
    else (if x1 = 659980288 then some (Int32.toInt64 (((ru_z 5 0) + (ru_z 6 0)) + (ru_z 7 0)))
    else (if x1 = 680072352 then some (Int32.toInt64 (ru_z 7 0))
    else (if x1 = 695697408 then some (Int32.toInt64 (ru_z 6 0))
    else some (Int32.toInt64 (ru_z 8 0))))))))
set_option maxRecDepth 100000 in
theorem c_Rule_valueOf (l : Launch) (g : jG) (a : Nat → Nat) (ru_z : jZ) (ru_y : jY) (x1 : Int32) (res : Int64) (hf : f_Rule_valueOf ru_z x1 = some res) : MC l g yX9_valueOf cX9_valueOf 2 (some .long) rm_Rule_valueOf [.ref (a 0), .int x1] (([n_Rule g a ru_z ru_y] : List va_W)) (some (.long res)) (([n_Rule g a ru_z ru_y] : List va_W)) 0 0 := by
  refine MC_of (own := RX9) (lv := [(0, .ref (a 0)), (1, .int x1)]) (by decide) rfl (Nat.le_of_ble_eq_true rfl) rfl rfl (fun E hE hq => ?_)
  unfold f_Rule_valueOf at hf
  refine j_iload_n hE dX9_valueOf_0 rfl 1 rfl ?_
  refine j_case hf (fun c1 hf => ?_) (fun c1 hf => ?_)
  · refine j_lookup (tgt := 114) hE dX9_valueOf_1 (by decide) (by rw [c1]; try rfl) (by decide) ?_
    refine j_aload_n hE dX9_valueOf_114 rfl 0 rfl ?_
    refine j_get (v := .int (ru_z 5 0)) hE lg_Rule_30 0 rfl 0 (wg_Rule_0 g a ru_z ru_y) rfl dX9_valueOf_115 ?_
    refine j_aload_n hE dX9_valueOf_118 rfl 0 rfl ?_
    refine j_get (v := .int (ru_z 6 0)) hE lg_Rule_33 0 rfl 0 (wg_Rule_0 g a ru_z ru_y) rfl dX9_valueOf_119 ?_
    refine j_aload_n hE dX9_valueOf_122 rfl 0 rfl ?_
    refine j_get (v := .int (ru_z 7 0)) hE lg_Rule_36 0 rfl 0 (wg_Rule_0 g a ru_z ru_y) rfl dX9_valueOf_123 ?_
    refine j_mmin hE fm_mmin ml_Rule_75 ⟨⟨Nat.le_of_ble_eq_true rfl, Nat.le_of_ble_eq_true rfl⟩, Nat.zero_le _, Nat.zero_le _⟩ dX9_valueOf_126 ?_
    refine j_mmin hE fm_mmin ml_Rule_75 ⟨⟨Nat.le_of_ble_eq_true rfl, Nat.le_of_ble_eq_true rfl⟩, Nat.zero_le _, Nat.zero_le _⟩ dX9_valueOf_129 ?_
    refine j_i2l hE dX9_valueOf_132 ?_
    obtain rfl := Option.some.inj hf
    exact j_lret hE hq rfl rfl dX9_valueOf_133
  refine j_case hf (fun c2 hf => ?_) (fun c2 hf => ?_)
  · refine j_lookup (tgt := 94) hE dX9_valueOf_1 (by decide) (by rw [c2]; try rfl) (by decide) ?_
    refine j_aload_n hE dX9_valueOf_94 rfl 0 rfl ?_
    refine j_get (v := .int (ru_z 5 0)) hE lg_Rule_30 0 rfl 0 (wg_Rule_0 g a ru_z ru_y) rfl dX9_valueOf_95 ?_
    refine j_aload_n hE dX9_valueOf_98 rfl 0 rfl ?_
    refine j_get (v := .int (ru_z 6 0)) hE lg_Rule_33 0 rfl 0 (wg_Rule_0 g a ru_z ru_y) rfl dX9_valueOf_99 ?_
    refine j_aload_n hE dX9_valueOf_102 rfl 0 rfl ?_
    refine j_get (v := .int (ru_z 7 0)) hE lg_Rule_36 0 rfl 0 (wg_Rule_0 g a ru_z ru_y) rfl dX9_valueOf_103 ?_
    refine j_mmax hE fm_mmax ml_Rule_69 ⟨⟨Nat.le_of_ble_eq_true rfl, Nat.le_of_ble_eq_true rfl⟩, Nat.zero_le _, Nat.zero_le _⟩ dX9_valueOf_106 ?_
    refine j_mmax hE fm_mmax ml_Rule_69 ⟨⟨Nat.le_of_ble_eq_true rfl, Nat.le_of_ble_eq_true rfl⟩, Nat.zero_le _, Nat.zero_le _⟩ dX9_valueOf_109 ?_
    refine j_i2l hE dX9_valueOf_112 ?_
    obtain rfl := Option.some.inj hf
    exact j_lret hE hq rfl rfl dX9_valueOf_113
  refine j_case hf (fun c3 hf => ?_) (fun c3 hf => ?_)
  · refine j_lookup (tgt := 60) hE dX9_valueOf_1 (by decide) (by rw [c3]; try rfl) (by decide) ?_
    refine j_aload_n hE dX9_valueOf_60 rfl 0 rfl ?_
    refine j_get (v := .int (ru_z 5 0)) hE lg_Rule_30 0 rfl 0 (wg_Rule_0 g a ru_z ru_y) rfl dX9_valueOf_61 ?_
    refine j_i2l hE dX9_valueOf_64 ?_
    obtain rfl := Option.some.inj hf
    exact j_lret hE hq rfl rfl dX9_valueOf_65
  refine j_case hf (fun c4 hf => ?_) (fun c4 hf => ?_)
  · refine j_lookup (tgt := 78) hE dX9_valueOf_1 (by decide) (by rw [c4]; try rfl) (by decide) ?_
    refine j_aload_n hE dX9_valueOf_78 rfl 0 rfl ?_
    refine j_get (v := .int (ru_z 5 0)) hE lg_Rule_30 0 rfl 0 (wg_Rule_0 g a ru_z ru_y) rfl dX9_valueOf_79 ?_
    refine j_aload_n hE dX9_valueOf_82 rfl 0 rfl ?_
    refine j_get (v := .int (ru_z 6 0)) hE lg_Rule_33 0 rfl 0 (wg_Rule_0 g a ru_z ru_y) rfl dX9_valueOf_83 ?_
    refine j_iadd hE dX9_valueOf_86 ?_
    refine j_aload_n hE dX9_valueOf_87 rfl 0 rfl ?_
    refine j_get (v := .int (ru_z 7 0)) hE lg_Rule_36 0 rfl 0 (wg_Rule_0 g a ru_z ru_y) rfl dX9_valueOf_88 ?_
    refine j_iadd hE dX9_valueOf_91 ?_
    refine j_i2l hE dX9_valueOf_92 ?_
    obtain rfl := Option.some.inj hf
    exact j_lret hE hq rfl rfl dX9_valueOf_93
  refine j_case hf (fun c5 hf => ?_) (fun c5 hf => ?_)
  · refine j_lookup (tgt := 72) hE dX9_valueOf_1 (by decide) (by rw [c5]; try rfl) (by decide) ?_
    refine j_aload_n hE dX9_valueOf_72 rfl 0 rfl ?_
    refine j_get (v := .int (ru_z 7 0)) hE lg_Rule_36 0 rfl 0 (wg_Rule_0 g a ru_z ru_y) rfl dX9_valueOf_73 ?_
    refine j_i2l hE dX9_valueOf_76 ?_
    obtain rfl := Option.some.inj hf
    exact j_lret hE hq rfl rfl dX9_valueOf_77
  refine j_case hf (fun c6 hf => ?_) (fun c6 hf => ?_)
  · refine j_lookup (tgt := 66) hE dX9_valueOf_1 (by decide) (by rw [c6]; try rfl) (by decide) ?_
    refine j_aload_n hE dX9_valueOf_66 rfl 0 rfl ?_
    refine j_get (v := .int (ru_z 6 0)) hE lg_Rule_33 0 rfl 0 (wg_Rule_0 g a ru_z ru_y) rfl dX9_valueOf_67 ?_
    refine j_i2l hE dX9_valueOf_70 ?_
    obtain rfl := Option.some.inj hf
    exact j_lret hE hq rfl rfl dX9_valueOf_71
  have t_c1 : 407948928 ≠ Int32.toInt x1 := fun h => c1 (Int32.toInt_inj.mp (h.symm.trans (by decide)))
  have t_c2 : 452579328 ≠ Int32.toInt x1 := fun h => c2 (Int32.toInt_inj.mp (h.symm.trans (by decide)))
  have t_c3 : 518160384 ≠ Int32.toInt x1 := fun h => c3 (Int32.toInt_inj.mp (h.symm.trans (by decide)))
  have t_c4 : 659980288 ≠ Int32.toInt x1 := fun h => c4 (Int32.toInt_inj.mp (h.symm.trans (by decide)))
  have t_c5 : 680072352 ≠ Int32.toInt x1 := fun h => c5 (Int32.toInt_inj.mp (h.symm.trans (by decide)))
  have t_c6 : 695697408 ≠ Int32.toInt x1 := fun h => c6 (Int32.toInt_inj.mp (h.symm.trans (by decide)))
  refine j_lookup (off := 133) (tgt := 134) hE dX9_valueOf_1 (by decide) (by simp [Op.lookupswitch.offset, t_c1, t_c2, t_c3, t_c4, t_c5, t_c6]) (by decide) ?_
  refine j_aload_n hE dX9_valueOf_134 rfl 0 rfl ?_
  refine j_get (v := .int (ru_z 8 0)) hE lg_Rule_39 0 rfl 0 (wg_Rule_0 g a ru_z ru_y) rfl dX9_valueOf_135 ?_
  refine j_i2l hE dX9_valueOf_138 ?_
  obtain rfl := Option.some.inj hf
  exact j_lret hE hq rfl rfl dX9_valueOf_139
def rm_Rule_work : Room := { frames := 2, cells := 0, slots := 0, locals := 53 }
def f_Rule_work (ru_z : jZ) (ru_y : jY) (x1 : Int32) : Option (jZ × jY) := (if 0 ≤ x1 then (f_Tape_isOfCounts x1).bind fun q2 => (if q2 = 0 then (if x1 = 486146048 then (f_Rule_pop ru_z ru_y).bind fun q14 => (if (lg_cmp q14.2 0) = 0 then (f_Rule_push q14.1 ru_y 1).bind fun q19 => some (q19.1, q19.2)
    else (f_Rule_push q14.1 ru_y 0).bind fun q17 => some (q17.1, q17.2))
    else (f_Rule_pop ru_z ru_y).bind fun q6 => (f_Rule_pop q6.1 ru_y).bind fun q8 => (f_Rule_join q8.1 x1 q8.2 q6.2).bind fun q10 => (f_Rule_push q10.1 ru_y q10.2).bind fun q12 => some (q12.1, q12.2))
    else (f_Rule_valueOf ru_z x1).bind fun q21 => (f_Rule_push ru_z ru_y q21).bind fun q23 => some (q23.1, q23.2))
    else (f_Rule_push ru_z ru_y (Int32.toInt64 ((-1) - x1))).bind fun q25 => some (q25.1, q25.2))
set_option maxRecDepth 100000 in
theorem c_Rule_work (l : Launch) (g : jG) (a : Nat → Nat) (ru_z : jZ) (ru_y : jY) (x1 : Int32) (res : jZ × jY) (hf : f_Rule_work ru_z ru_y x1 = some res) : MC l g yX9_work cX9_work 6 (none : Option Jvm.ClassFile.FieldType) rm_Rule_work [.ref (a 0), .int x1] (([n_Rule g a ru_z ru_y] : List va_W)) none (([n_Rule g a res.1 res.2] : List va_W)) 0 0 := by
  refine MC_of (own := RX9) (lv := [(0, .ref (a 0)), (1, .int x1)]) (by decide) rfl (Nat.le_of_ble_eq_true rfl) rfl rfl (fun E hE hq => ?_)
  unfold f_Rule_work at hf
  refine j_iload_n hE dX9_work_0 rfl 1 rfl ?_
  refine j_if_ge (tgt := 15) hE hf dX9_work_1 (by decide) (fun c1 hf => ?_) (fun c1 hf => ?_)
  · refine j_iload_n hE dX9_work_15 rfl 1 rfl ?_
    obtain ⟨q2, hc3, hf⟩ := bind_of hf
    refine j_callS (ws' := ([n_Rule g a ru_z ru_y] : List va_W)) (As := [.int x1]) (rest := []) (st2 := [.int q2]) hE (fun l => c_Tape_isOfCounts l g x1 q2 hc3) cd_X10_isOfCounts st_X10_isOfCounts ml_Rule_50 rfl rfl ⟨⟨Nat.le_of_ble_eq_true rfl, Nat.le_of_ble_eq_true rfl⟩, ⟨Nat.zero_le _, Nat.zero_le _⟩, rfl, rfl⟩ [] rfl rfl rfl (Nat.le_of_ble_eq_true rfl) rfl dX9_work_16 ?_
    refine j_if_eq (tgt := 34) hE hf dX9_work_19 (by decide) (fun c4 hf => ?_) (fun c4 hf => ?_)
    · refine j_iload_n hE dX9_work_34 rfl 1 rfl ?_
      refine j_ldc hE co_Rule_60 dX9_work_35 ?_
      refine j_icmp_ne (tgt := 61) hE hf dX9_work_37 (by decide) (fun c5 hf => ?_) (fun c5 hf => ?_)
      · refine j_aload_n hE dX9_work_61 rfl 0 rfl ?_
        obtain ⟨q6, hc7, hf⟩ := bind_of hf
        refine j_callV (ws' := ([n_Rule g a q6.1 ru_y] : List va_W)) (As := []) (rest := []) (st2 := [.long q6.2]) hE (fun l => c_Rule_pop l g a ru_z ru_y q6 hc7) cd_X9_pop cv_X9_pop ml_Rule_61 rfl rfl rfl (wg_Rule_0 _ _ _ _) ⟨⟨Nat.le_of_ble_eq_true rfl, Nat.le_of_ble_eq_true rfl⟩, ⟨Nat.zero_le _, Nat.zero_le _⟩, rfl, rfl⟩ [0] rfl rfl rfl (Nat.le_of_ble_eq_true rfl) rfl dX9_work_62 ?_
        refine j_lstore_n (lv' := [(2, .long q6.2), (0, .ref (a 0)), (1, .int x1)]) hE dX9_work_65 rfl (by decide) rfl ?_
        refine j_aload_n hE dX9_work_66 rfl 1 rfl ?_
        obtain ⟨q8, hc9, hf⟩ := bind_of hf
        refine j_callV (ws' := ([n_Rule g a q8.1 ru_y] : List va_W)) (As := []) (rest := []) (st2 := [.long q8.2]) hE (fun l => c_Rule_pop l g a q6.1 ru_y q8 hc9) cd_X9_pop cv_X9_pop ml_Rule_61 rfl rfl rfl (wg_Rule_0 _ _ _ _) ⟨⟨Nat.le_of_ble_eq_true rfl, Nat.le_of_ble_eq_true rfl⟩, ⟨Nat.zero_le _, Nat.zero_le _⟩, rfl, rfl⟩ [0] rfl rfl rfl (Nat.le_of_ble_eq_true rfl) rfl dX9_work_67 ?_
        refine j_lstore (lv' := [(4, .long q8.2), (2, .long q6.2), (0, .ref (a 0)), (1, .int x1)]) hE dX9_work_70 (by decide) rfl ?_
        refine j_aload_n hE dX9_work_72 rfl 2 rfl ?_
        refine j_aload_n hE dX9_work_73 rfl 2 rfl ?_
        refine j_iload_n hE dX9_work_74 rfl 3 rfl ?_
        refine j_lload hE dX9_work_75 0 rfl ?_
        refine j_lload_n hE dX9_work_77 rfl 1 rfl ?_
        obtain ⟨q10, hc11, hf⟩ := bind_of hf
        refine j_callV (ws' := ([n_Rule g a q10.1 ru_y] : List va_W)) (As := [.int x1, .long q8.2, .long q6.2]) (rest := [.ref (a 0)]) (st2 := [.long q10.2, .ref (a 0)]) hE (fun l => c_Rule_join l g a q8.1 ru_y x1 q8.2 q6.2 q10 hc11) cd_X9_join cv_X9_join ml_Rule_65 rfl rfl rfl (wg_Rule_0 _ _ _ _) ⟨⟨Nat.le_of_ble_eq_true rfl, Nat.le_of_ble_eq_true rfl⟩, ⟨Nat.zero_le _, Nat.zero_le _⟩, rfl, rfl⟩ [0] rfl rfl rfl (Nat.le_of_ble_eq_true rfl) rfl dX9_work_78 ?_
        obtain ⟨q12, hc13, hf⟩ := bind_of hf
        refine j_callV (ws' := ([n_Rule g a q12.1 q12.2] : List va_W)) (As := [.long q10.2]) (rest := []) (st2 := []) hE (fun l => c_Rule_push l g a q10.1 ru_y q10.2 q12 hc13) cd_X9_push cv_X9_push ml_Rule_46 rfl rfl rfl (wg_Rule_0 _ _ _ _) ⟨⟨Nat.le_of_ble_eq_true rfl, Nat.le_of_ble_eq_true rfl⟩, ⟨Nat.zero_le _, Nat.zero_le _⟩, rfl, rfl⟩ [0] rfl rfl rfl (Nat.le_of_ble_eq_true rfl) rfl dX9_work_81 ?_
        obtain rfl := Option.some.inj hf
        exact j_vret hE hq rfl rfl dX9_work_84
      · refine j_aload_n hE dX9_work_40 rfl 0 rfl ?_
        refine j_aload_n hE dX9_work_41 rfl 0 rfl ?_
        obtain ⟨q14, hc15, hf⟩ := bind_of hf
        refine j_callV (ws' := ([n_Rule g a q14.1 ru_y] : List va_W)) (As := []) (rest := [.ref (a 0)]) (st2 := [.long q14.2, .ref (a 0)]) hE (fun l => c_Rule_pop l g a ru_z ru_y q14 hc15) cd_X9_pop cv_X9_pop ml_Rule_61 rfl rfl rfl (wg_Rule_0 _ _ _ _) ⟨⟨Nat.le_of_ble_eq_true rfl, Nat.le_of_ble_eq_true rfl⟩, ⟨Nat.zero_le _, Nat.zero_le _⟩, rfl, rfl⟩ [0] rfl rfl rfl (Nat.le_of_ble_eq_true rfl) rfl dX9_work_42 ?_
        refine j_lconst (v := 0) hE dX9_work_45 (by decide) ?_
        refine j_lcmp hE dX9_work_46 ?_
        refine j_if_ne (tgt := 54) hE hf dX9_work_47 (by decide) (fun c16 hf => ?_) (fun c16 hf => ?_)
        · refine j_lconst (v := 0) hE dX9_work_54 (by decide) ?_
          obtain ⟨q17, hc18, hf⟩ := bind_of hf
          refine j_callV (ws' := ([n_Rule g a q17.1 q17.2] : List va_W)) (As := [.long 0]) (rest := []) (st2 := []) hE (fun l => c_Rule_push l g a q14.1 ru_y 0 q17 hc18) cd_X9_push cv_X9_push ml_Rule_46 rfl rfl rfl (wg_Rule_0 _ _ _ _) ⟨⟨Nat.le_of_ble_eq_true rfl, Nat.le_of_ble_eq_true rfl⟩, ⟨Nat.zero_le _, Nat.zero_le _⟩, rfl, rfl⟩ [0] rfl rfl rfl (Nat.le_of_ble_eq_true rfl) rfl dX9_work_55 ?_
          refine j_goto (tgt := 84) hE dX9_work_58 (by decide) ?_
          obtain rfl := Option.some.inj hf
          exact j_vret hE hq rfl rfl dX9_work_84
        · refine j_lconst (v := 1) hE dX9_work_50 (by decide) ?_
          refine j_goto (tgt := 55) hE dX9_work_51 (by decide) ?_
          obtain ⟨q19, hc20, hf⟩ := bind_of hf
          refine j_callV (ws' := ([n_Rule g a q19.1 q19.2] : List va_W)) (As := [.long 1]) (rest := []) (st2 := []) hE (fun l => c_Rule_push l g a q14.1 ru_y 1 q19 hc20) cd_X9_push cv_X9_push ml_Rule_46 rfl rfl rfl (wg_Rule_0 _ _ _ _) ⟨⟨Nat.le_of_ble_eq_true rfl, Nat.le_of_ble_eq_true rfl⟩, ⟨Nat.zero_le _, Nat.zero_le _⟩, rfl, rfl⟩ [0] rfl rfl rfl (Nat.le_of_ble_eq_true rfl) rfl dX9_work_55 ?_
          refine j_goto (tgt := 84) hE dX9_work_58 (by decide) ?_
          obtain rfl := Option.some.inj hf
          exact j_vret hE hq rfl rfl dX9_work_84
    · refine j_aload_n hE dX9_work_22 rfl 0 rfl ?_
      refine j_aload_n hE dX9_work_23 rfl 0 rfl ?_
      refine j_iload_n hE dX9_work_24 rfl 1 rfl ?_
      obtain ⟨q21, hc22, hf⟩ := bind_of hf
      refine j_callV (ws' := ([n_Rule g a ru_z ru_y] : List va_W)) (As := [.int x1]) (rest := [.ref (a 0)]) (st2 := [.long q21, .ref (a 0)]) hE (fun l => c_Rule_valueOf l g a ru_z ru_y x1 q21 hc22) cd_X9_valueOf cv_X9_valueOf ml_Rule_56 rfl rfl rfl (wg_Rule_0 _ _ _ _) ⟨⟨Nat.le_of_ble_eq_true rfl, Nat.le_of_ble_eq_true rfl⟩, ⟨Nat.zero_le _, Nat.zero_le _⟩, rfl, rfl⟩ [0] rfl rfl rfl (Nat.le_of_ble_eq_true rfl) rfl dX9_work_25 ?_
      obtain ⟨q23, hc24, hf⟩ := bind_of hf
      refine j_callV (ws' := ([n_Rule g a q23.1 q23.2] : List va_W)) (As := [.long q21]) (rest := []) (st2 := []) hE (fun l => c_Rule_push l g a ru_z ru_y q21 q23 hc24) cd_X9_push cv_X9_push ml_Rule_46 rfl rfl rfl (wg_Rule_0 _ _ _ _) ⟨⟨Nat.le_of_ble_eq_true rfl, Nat.le_of_ble_eq_true rfl⟩, ⟨Nat.zero_le _, Nat.zero_le _⟩, rfl, rfl⟩ [0] rfl rfl rfl (Nat.le_of_ble_eq_true rfl) rfl dX9_work_28 ?_
      refine j_goto (tgt := 84) hE dX9_work_31 (by decide) ?_
      obtain rfl := Option.some.inj hf
      exact j_vret hE hq rfl rfl dX9_work_84
  · refine j_aload_n hE dX9_work_4 rfl 0 rfl ?_
    refine j_iconst (v := (-1)) hE dX9_work_5 (by decide) ?_
    refine j_iload_n hE dX9_work_6 rfl 1 rfl ?_
    refine j_isub hE dX9_work_7 ?_
    refine j_i2l hE dX9_work_8 ?_
    obtain ⟨q25, hc26, hf⟩ := bind_of hf
    refine j_callV (ws' := ([n_Rule g a q25.1 q25.2] : List va_W)) (As := [.long (Int32.toInt64 ((-1) - x1))]) (rest := []) (st2 := []) hE (fun l => c_Rule_push l g a ru_z ru_y (Int32.toInt64 ((-1) - x1)) q25 hc26) cd_X9_push cv_X9_push ml_Rule_46 rfl rfl rfl (wg_Rule_0 _ _ _ _) ⟨⟨Nat.le_of_ble_eq_true rfl, Nat.le_of_ble_eq_true rfl⟩, ⟨Nat.zero_le _, Nat.zero_le _⟩, rfl, rfl⟩ [0] rfl rfl rfl (Nat.le_of_ble_eq_true rfl) rfl dX9_work_9 ?_
    refine j_goto (tgt := 84) hE dX9_work_12 (by decide) ?_
    obtain rfl := Option.some.inj hf
    exact j_vret hE hq rfl rfl dX9_work_84
def rm_Rule_takes : Room := { frames := 3, cells := 0, slots := 0, locals := 78 }
def f_Rule_takes_77  (x1 : Int32) (x2 : Int32) (x3 : Int32) (x4 : Int32)  (ru_z : jZ) (ru_y : jY) : Option (jZ × jY × Int32) := (if (ru_z 4 0) = 0 then (if (ru_z 3 0) = 1 then (ix 0 64).bind fun _ => (if (lg_cmp (ru_y 2 (Int32.toNatClampNeg 0)) 0) = 0 then some (ru_z, ru_y, 0)
    else some (ru_z, ru_y, 1))
    else some (ru_z, ru_y, 0))
    else some (ru_z, ru_y, 0))
def f_Rule_takes_34  (x1 : Int32) (x2 : Int32) (x3 : Int32) (x4 : Int32)  : Nat → jZ → jY → Int32 → Option (jZ × jY × Int32)
  | 0, _, _, _ => none
  | n + 1, ru_z, ru_y, v5 => (if (ru_z 0 0) ≤ v5 then f_Rule_takes_77 x1 x2 x3 x4 ru_z ru_y
    else (if 64 ≤ v5 then f_Rule_takes_77 x1 x2 x3 x4 ru_z ru_y
    else (if (ru_z 4 0) = 0 then (ix v5 64).bind fun _ => (f_Rule_work ru_z ru_y (ru_z 1 (Int32.toNatClampNeg v5))).bind fun q5 => f_Rule_takes_34 x1 x2 x3 x4 n q5.1 q5.2 (v5 + 1)
    else f_Rule_takes_77 x1 x2 x3 x4 ru_z ru_y)))
def f_Rule_takes (ru_z : jZ) (ru_y : jY) (x1 : Int32) (x2 : Int32) (x3 : Int32) (x4 : Int32) : Option (jZ × jY × Int32) := f_Rule_takes_34 x1 x2 x3 x4 FU (up2 (up2 (up2 (up2 (up2 (up2 ru_z 5 0 x1) 6 0 x2) 7 0 x3) 8 0 x4) 3 0 0) 4 0 0) ru_y 0
set_option maxRecDepth 100000 in
theorem j_Rule_takes_77 (E : jT) (g : jG) (a : Nat → Nat)  (x1 : Int32) (x2 : Int32) (x3 : Int32) (x4 : Int32) (res : jZ × jY × Int32) (hE : jOk E g RX9 cX9_takes 6 (some .boolean) rm_Rule_takes) (hq : jEnd E g (some (.int res.2.2)) (([n_Rule g a res.1 res.2.1] : List va_W)) 0 0)  (ru_z : jZ) (ru_y : jY) (hf : f_Rule_takes_77 x1 x2 x3 x4 ru_z ru_y = some res) : J E g 0 0 (([n_Rule g a ru_z ru_y] : List va_W)) [(0, .ref (a 0))] 77 [] := by
  unfold f_Rule_takes_77 at hf
  refine j_aload_n hE dX9_takes_77 rfl 0 rfl ?_
  refine j_get (v := .int (ru_z 4 0)) hE lg_Rule_26 0 rfl 0 (wg_Rule_0 g a ru_z ru_y) rfl dX9_takes_78 ?_
  refine j_if_ne (tgt := 107) hE hf dX9_takes_81 (by decide) (fun c7 hf => ?_) (fun c7 hf => ?_)
  · refine j_iconst (v := 0) hE dX9_takes_107 (by decide) ?_
    obtain rfl := Option.some.inj hf
    exact j_zret_c hE (Or.inl rfl) hq rfl rfl dX9_takes_108
  · refine j_aload_n hE dX9_takes_84 rfl 0 rfl ?_
    refine j_get (v := .int (ru_z 3 0)) hE lg_Rule_23 0 rfl 0 (wg_Rule_0 g a ru_z ru_y) rfl dX9_takes_85 ?_
    refine j_iconst (v := 1) hE dX9_takes_88 (by decide) ?_
    refine j_icmp_ne (tgt := 107) hE hf dX9_takes_89 (by decide) (fun c8 hf => ?_) (fun c8 hf => ?_)
    · refine j_iconst (v := 0) hE dX9_takes_107 (by decide) ?_
      obtain rfl := Option.some.inj hf
      exact j_zret_c hE (Or.inl rfl) hq rfl rfl dX9_takes_108
    · refine j_aload_n hE dX9_takes_92 rfl 0 rfl ?_
      refine j_get (v := .ref (a 2)) hE lg_Rule_19 0 rfl 0 (wg_Rule_0 g a ru_z ru_y) rfl dX9_takes_93 ?_
      refine j_iconst (v := 0) hE dX9_takes_96 (by decide) ?_
      refine j_lald hE hf 0 rfl 2 (wg_Rule_2 g a ru_z ru_y) dX9_takes_97 (fun hf => ?_)
      refine j_lconst (v := 0) hE dX9_takes_98 (by decide) ?_
      refine j_lcmp hE dX9_takes_99 ?_
      refine j_if_eq (tgt := 107) hE hf dX9_takes_100 (by decide) (fun c10 hf => ?_) (fun c10 hf => ?_)
      · refine j_iconst (v := 0) hE dX9_takes_107 (by decide) ?_
        obtain rfl := Option.some.inj hf
        exact j_zret_c hE (Or.inl rfl) hq rfl rfl dX9_takes_108
      · refine j_iconst (v := 1) hE dX9_takes_103 (by decide) ?_
        refine j_goto (tgt := 108) hE dX9_takes_104 (by decide) ?_
        obtain rfl := Option.some.inj hf
        exact j_zret_c hE (Or.inr rfl) hq rfl rfl dX9_takes_108
set_option maxRecDepth 100000 in
theorem j_Rule_takes_34 (E : jT) (g : jG) (a : Nat → Nat)  (x1 : Int32) (x2 : Int32) (x3 : Int32) (x4 : Int32) (res : jZ × jY × Int32) (hE : jOk E g RX9 cX9_takes 6 (some .boolean) rm_Rule_takes) (hq : jEnd E g (some (.int res.2.2)) (([n_Rule g a res.1 res.2.1] : List va_W)) 0 0)  : ∀ (n : Nat) (ru_z : jZ) (ru_y : jY) (v5 : Int32), f_Rule_takes_34 x1 x2 x3 x4 n ru_z ru_y v5 = some res → J E g 0 0 (([n_Rule g a ru_z ru_y] : List va_W)) [(0, .ref (a 0)), (5, .int v5)] 34 [] := by
  intro n
  induction n with
  | zero =>
    intro ru_z ru_y v5 hf
    rw [f_Rule_takes_34] at hf
    cases hf
  | succ n ih =>
    intro ru_z ru_y v5 hf
    rw [f_Rule_takes_34] at hf
    refine j_iload hE dX9_takes_34 1 rfl ?_
    refine j_aload_n hE dX9_takes_36 rfl 0 rfl ?_
    refine j_get (v := .int (ru_z 0 0)) hE lg_Rule_9 0 rfl 0 (wg_Rule_0 g a ru_z ru_y) rfl dX9_takes_37 ?_
    refine j_icmp_ge (tgt := 77) hE hf dX9_takes_40 (by decide) (fun c1 hf => ?_) (fun c1 hf => ?_)
    · exact j_sub [0] rfl (j_Rule_takes_77 E g a x1 x2 x3 x4 res hE hq ru_z ru_y hf)
    · refine j_iload hE dX9_takes_43 1 rfl ?_
      refine j_aload_n hE dX9_takes_45 rfl 0 rfl ?_
      refine j_get (v := .ref (a 1)) hE lg_Rule_15 0 rfl 0 (wg_Rule_0 g a ru_z ru_y) rfl dX9_takes_46 ?_
      refine j_alen (v := 64) (t0 := 1) hE 0 rfl 1 (wg_Rule_1 g a ru_z ru_y) rfl rfl dX9_takes_49 ?_
      refine j_icmp_ge (tgt := 77) hE hf dX9_takes_50 (by decide) (fun c2 hf => ?_) (fun c2 hf => ?_)
      · exact j_sub [0] rfl (j_Rule_takes_77 E g a x1 x2 x3 x4 res hE hq ru_z ru_y hf)
      · refine j_aload_n hE dX9_takes_53 rfl 0 rfl ?_
        refine j_get (v := .int (ru_z 4 0)) hE lg_Rule_26 0 rfl 0 (wg_Rule_0 g a ru_z ru_y) rfl dX9_takes_54 ?_
        refine j_if_ne (tgt := 77) hE hf dX9_takes_57 (by decide) (fun c3 hf => ?_) (fun c3 hf => ?_)
        · exact j_sub [0] rfl (j_Rule_takes_77 E g a x1 x2 x3 x4 res hE hq ru_z ru_y hf)
        · refine j_aload_n hE dX9_takes_60 rfl 0 rfl ?_
          refine j_aload_n hE dX9_takes_61 rfl 0 rfl ?_
          refine j_get (v := .ref (a 1)) hE lg_Rule_15 0 rfl 0 (wg_Rule_0 g a ru_z ru_y) rfl dX9_takes_62 ?_
          refine j_iload hE dX9_takes_65 1 rfl ?_
          refine j_iald hE hf 0 rfl 1 (wg_Rule_1 g a ru_z ru_y) dX9_takes_67 (fun hf => ?_)
          obtain ⟨q5, hc6, hf⟩ := bind_of hf
          refine j_callV (ws' := ([n_Rule g a q5.1 q5.2] : List va_W)) (As := [.int (ru_z 1 (Int32.toNatClampNeg v5))]) (rest := []) (st2 := []) hE (fun l => c_Rule_work l g a ru_z ru_y (ru_z 1 (Int32.toNatClampNeg v5)) q5 hc6) cd_X9_work cv_X9_work ml_Rule_42 rfl rfl rfl (wg_Rule_0 _ _ _ _) ⟨⟨Nat.le_of_ble_eq_true rfl, Nat.le_of_ble_eq_true rfl⟩, ⟨Nat.zero_le _, Nat.zero_le _⟩, rfl, rfl⟩ [0] rfl rfl rfl (Nat.le_of_ble_eq_true rfl) rfl dX9_takes_68 ?_
          refine j_iinc (v := (v5 + 1)) (lv' := [(5, .int (v5 + 1)), (0, .ref (a 0))]) hE dX9_takes_71 1 rfl rfl (by decide) rfl ?_
          refine j_goto (tgt := 34) hE dX9_takes_74 (by decide) ?_
          exact j_sub [1, 0] rfl (ih q5.1 q5.2 (v5 + 1) hf)
set_option maxRecDepth 100000 in
theorem c_Rule_takes (l : Launch) (g : jG) (a : Nat → Nat) (ru_z : jZ) (ru_y : jY) (x1 : Int32) (x2 : Int32) (x3 : Int32) (x4 : Int32) (res : jZ × jY × Int32) (hf : f_Rule_takes ru_z ru_y x1 x2 x3 x4 = some res) : MC l g yX9_takes cX9_takes 6 (some .boolean) rm_Rule_takes [.ref (a 0), .int x1, .int x2, .int x3, .int x4] (([n_Rule g a ru_z ru_y] : List va_W)) (some (.int res.2.2)) (([n_Rule g a res.1 res.2.1] : List va_W)) 0 0 := by
  refine MC_of (own := RX9) (lv := [(0, .ref (a 0)), (1, .int x1), (2, .int x2), (3, .int x3), (4, .int x4)]) (by decide) rfl (Nat.le_of_ble_eq_true rfl) rfl rfl (fun E hE hq => ?_)
  unfold f_Rule_takes at hf
  refine j_aload_n hE dX9_takes_0 rfl 0 rfl ?_
  refine j_iload_n hE dX9_takes_1 rfl 1 rfl ?_
  refine j_put (v := .int x1) (ws' := ([n_Rule g a (up2 ru_z 5 0 x1) ru_y] : List va_W)) hE lp_Rule_30 0 rfl 0 (wg_Rule_0 g a ru_z ru_y) rfl rfl (Nat.le_of_ble_eq_true rfl) (wp_Rule_5 g a ru_z ru_y x1) rfl dX9_takes_2 ?_
  refine j_aload_n hE dX9_takes_5 rfl 0 rfl ?_
  refine j_iload_n hE dX9_takes_6 rfl 2 rfl ?_
  refine j_put (v := .int x2) (ws' := ([n_Rule g a (up2 (up2 ru_z 5 0 x1) 6 0 x2) ru_y] : List va_W)) hE lp_Rule_33 0 rfl 0 (wg_Rule_0 g a (up2 ru_z 5 0 x1) ru_y) rfl rfl (Nat.le_of_ble_eq_true rfl) (wp_Rule_6 g a (up2 ru_z 5 0 x1) ru_y x2) rfl dX9_takes_7 ?_
  refine j_aload_n hE dX9_takes_10 rfl 0 rfl ?_
  refine j_iload_n hE dX9_takes_11 rfl 3 rfl ?_
  refine j_put (v := .int x3) (ws' := ([n_Rule g a (up2 (up2 (up2 ru_z 5 0 x1) 6 0 x2) 7 0 x3) ru_y] : List va_W)) hE lp_Rule_36 0 rfl 0 (wg_Rule_0 g a (up2 (up2 ru_z 5 0 x1) 6 0 x2) ru_y) rfl rfl (Nat.le_of_ble_eq_true rfl) (wp_Rule_7 g a (up2 (up2 ru_z 5 0 x1) 6 0 x2) ru_y x3) rfl dX9_takes_12 ?_
  refine j_aload_n hE dX9_takes_15 rfl 0 rfl ?_
  refine j_iload hE dX9_takes_16 4 rfl ?_
  refine j_put (v := .int x4) (ws' := ([n_Rule g a (up2 (up2 (up2 (up2 ru_z 5 0 x1) 6 0 x2) 7 0 x3) 8 0 x4) ru_y] : List va_W)) hE lp_Rule_39 0 rfl 0 (wg_Rule_0 g a (up2 (up2 (up2 ru_z 5 0 x1) 6 0 x2) 7 0 x3) ru_y) rfl rfl (Nat.le_of_ble_eq_true rfl) (wp_Rule_8 g a (up2 (up2 (up2 ru_z 5 0 x1) 6 0 x2) 7 0 x3) ru_y x4) rfl dX9_takes_18 ?_
  refine j_aload_n hE dX9_takes_21 rfl 0 rfl ?_
  refine j_iconst (v := 0) hE dX9_takes_22 (by decide) ?_
  refine j_put (v := .int 0) (ws' := ([n_Rule g a (up2 (up2 (up2 (up2 (up2 ru_z 5 0 x1) 6 0 x2) 7 0 x3) 8 0 x4) 3 0 0) ru_y] : List va_W)) hE lp_Rule_23 0 rfl 0 (wg_Rule_0 g a (up2 (up2 (up2 (up2 ru_z 5 0 x1) 6 0 x2) 7 0 x3) 8 0 x4) ru_y) rfl rfl (Nat.le_of_ble_eq_true rfl) (wp_Rule_3 g a (up2 (up2 (up2 (up2 ru_z 5 0 x1) 6 0 x2) 7 0 x3) 8 0 x4) ru_y 0) rfl dX9_takes_23 ?_
  refine j_aload_n hE dX9_takes_26 rfl 0 rfl ?_
  refine j_iconst (v := 0) hE dX9_takes_27 (by decide) ?_
  refine j_put (v := .int 0) (ws' := ([n_Rule g a (up2 (up2 (up2 (up2 (up2 (up2 ru_z 5 0 x1) 6 0 x2) 7 0 x3) 8 0 x4) 3 0 0) 4 0 0) ru_y] : List va_W)) hE lp_Rule_26 0 rfl 0 (wg_Rule_0 g a (up2 (up2 (up2 (up2 (up2 ru_z 5 0 x1) 6 0 x2) 7 0 x3) 8 0 x4) 3 0 0) ru_y) (by decide +kernel) (by decide +kernel) (Nat.le_of_ble_eq_true rfl) (wp_Rule_4 g a (up2 (up2 (up2 (up2 (up2 ru_z 5 0 x1) 6 0 x2) 7 0 x3) 8 0 x4) 3 0 0) ru_y 0) rfl dX9_takes_28 ?_
  refine j_iconst (v := 0) hE dX9_takes_31 (by decide) ?_
  refine j_istore (lv' := [(5, .int 0), (0, .ref (a 0)), (1, .int x1), (2, .int x2), (3, .int x3), (4, .int x4)]) hE dX9_takes_32 (by decide) rfl ?_
  exact j_sub [1, 0] rfl (j_Rule_takes_34 E g a x1 x2 x3 x4 res hE hq FU (up2 (up2 (up2 (up2 (up2 (up2 ru_z 5 0 x1) 6 0 x2) 7 0 x3) 8 0 x4) 3 0 0) 4 0 0) ru_y 0 hf)
def rm_Notes_byHowMany : Room := { frames := 0, cells := 0, slots := 0, locals := 0 }
def f_Notes_byHowMany (no_z : jZ)  : Option (Int32) := (if (no_z 1 0) = (-1) then some (no_z 0 0)
    else some (no_z 1 0))
set_option maxRecDepth 100000 in
theorem c_Notes_byHowMany (l : Launch) (g : jG) (a : Nat → Nat) (no_z : jZ)  (res : Int32) (hf : f_Notes_byHowMany no_z = some res) : MC l g yX4_byHowMany cX4_byHowMany 1 (some .int) rm_Notes_byHowMany [.ref (a 0)] (([n_Notes g a no_z] : List va_W)) (some (.int res)) (([n_Notes g a no_z] : List va_W)) 0 0 := by
  refine MC_of (own := RX4) (lv := [(0, .ref (a 0))]) (by decide) rfl (Nat.le_of_ble_eq_true rfl) rfl rfl (fun E hE hq => ?_)
  unfold f_Notes_byHowMany at hf
  refine j_aload_n hE dX4_byHowMany_0 rfl 0 rfl ?_
  refine j_get (v := .int (no_z 1 0)) hE lg_Notes_15 0 rfl 0 (wg_Notes_0 g a no_z) rfl dX4_byHowMany_1 ?_
  refine j_iconst (v := (-1)) hE dX4_byHowMany_4 (by decide) ?_
  refine j_icmp_ne (tgt := 15) hE hf dX4_byHowMany_5 (by decide) (fun c1 hf => ?_) (fun c1 hf => ?_)
  · refine j_aload_n hE dX4_byHowMany_15 rfl 0 rfl ?_
    refine j_get (v := .int (no_z 1 0)) hE lg_Notes_15 0 rfl 0 (wg_Notes_0 g a no_z) rfl dX4_byHowMany_16 ?_
    obtain rfl := Option.some.inj hf
    exact j_iret hE hq rfl rfl dX4_byHowMany_19
  · refine j_aload_n hE dX4_byHowMany_8 rfl 0 rfl ?_
    refine j_get (v := .int (no_z 0 0)) hE lg_Notes_9 0 rfl 0 (wg_Notes_0 g a no_z) rfl dX4_byHowMany_9 ?_
    refine j_goto (tgt := 19) hE dX4_byHowMany_12 (by decide) ?_
    obtain rfl := Option.some.inj hf
    exact j_iret hE hq rfl rfl dX4_byHowMany_19
def rm_Notes_findStruck : Room := { frames := 1, cells := 0, slots := 0, locals := 21 }
def f_Notes_findStruck_32  (x1 : Int32)  : Nat → jZ → Int32 → Option (jZ)
  | 0, _, _ => none
  | n + 1, no_z, v2 => (if v2 < 0 then some no_z
    else (ix v2 150).bind fun _ => (ix v2 150).bind fun _ => (if (no_z 6 (Int32.toNatClampNeg v2)) = 0 then (if (no_z 5 (Int32.toNatClampNeg v2)) < 0 then f_Notes_findStruck_32 x1 n no_z (v2 + (-1))
    else (if 150 ≤ (no_z 5 (Int32.toNatClampNeg v2)) then f_Notes_findStruck_32 x1 n no_z (v2 + (-1))
    else (ix (no_z 5 (Int32.toNatClampNeg v2)) 150).bind fun _ => f_Notes_findStruck_32 x1 n (up2 no_z 6 (Int32.toNatClampNeg (no_z 5 (Int32.toNatClampNeg v2))) 1) (v2 + (-1))))
    else f_Notes_findStruck_32 x1 n no_z (v2 + (-1))))
def f_Notes_findStruck_2  (x1 : Int32)  : Nat → jZ → Int32 → Option (jZ)
  | 0, _, _ => none
  | n + 1, no_z, v2 => (if 150 ≤ v2 then f_Notes_findStruck_32 x1 FU no_z ((if 150 < x1 then 150 else x1) - 1)
    else (ix v2 150).bind fun _ => f_Notes_findStruck_2 x1 n (up2 no_z 6 (Int32.toNatClampNeg v2) 0) (v2 + 1))
def f_Notes_findStruck (no_z : jZ) (x1 : Int32) : Option (jZ) := f_Notes_findStruck_2 x1 FU no_z 0
set_option maxRecDepth 100000 in
theorem j_Notes_findStruck_32 (E : jT) (g : jG) (a : Nat → Nat)  (x1 : Int32) (res : jZ) (hE : jOk E g RX4 cX4_findStruck 4 (none : Option Jvm.ClassFile.FieldType) rm_Notes_findStruck) (hq : jEnd E g none (([n_Notes g a res] : List va_W)) 0 0)  : ∀ (n : Nat) (no_z : jZ) (v2 : Int32), f_Notes_findStruck_32 x1 n no_z v2 = some res → J E g 0 0 (([n_Notes g a no_z] : List va_W)) [(0, .ref (a 0)), (2, .int v2)] 32 [] := by
  intro n
  induction n with
  | zero =>
    intro no_z v2 hf
    rw [f_Notes_findStruck_32] at hf
    cases hf
  | succ n ih =>
    intro no_z v2 hf
    rw [f_Notes_findStruck_32] at hf
    refine j_iload_n hE dX4_findStruck_32 rfl 1 rfl ?_
    refine j_if_lt (tgt := 76) hE hf dX4_findStruck_33 (by decide) (fun c2 hf => ?_) (fun c2 hf => ?_)
    · obtain rfl := Option.some.inj hf
      exact j_vret hE hq rfl rfl dX4_findStruck_76
    · refine j_aload_n hE dX4_findStruck_36 rfl 0 rfl ?_
      refine j_get (v := .ref (a 4)) hE lg_Notes_28 0 rfl 0 (wg_Notes_0 g a no_z) rfl dX4_findStruck_37 ?_
      refine j_iload_n hE dX4_findStruck_40 rfl 1 rfl ?_
      refine j_iald hE hf 0 rfl 4 (wg_Notes_4 g a no_z) dX4_findStruck_41 (fun hf => ?_)
      refine j_istore_n (lv' := [(3, .int (no_z 5 (Int32.toNatClampNeg v2))), (0, .ref (a 0)), (2, .int v2)]) hE dX4_findStruck_42 rfl (by decide) rfl ?_
      refine j_aload_n hE dX4_findStruck_43 rfl 1 rfl ?_
      refine j_get (v := .ref (a 5)) hE lg_Notes_31 0 rfl 0 (wg_Notes_0 g a no_z) rfl dX4_findStruck_44 ?_
      refine j_iload_n hE dX4_findStruck_47 rfl 2 rfl ?_
      refine j_zald hE hf 0 rfl 5 (wg_Notes_5 g a no_z) dX4_findStruck_48 (fun hf => ?_)
      refine j_if_ne (tgt := 70) hE hf dX4_findStruck_49 (by decide) (fun c5 hf => ?_) (fun c5 hf => ?_)
      · refine j_iinc (v := (v2 + (-1))) (lv' := [(2, .int (v2 + (-1))), (3, .int (no_z 5 (Int32.toNatClampNeg v2))), (0, .ref (a 0))]) hE dX4_findStruck_70 2 rfl rfl (by decide) rfl ?_
        refine j_goto (tgt := 32) hE dX4_findStruck_73 (by decide) ?_
        exact j_sub [2, 0] rfl (ih no_z (v2 + (-1)) hf)
      · refine j_iload_n hE dX4_findStruck_52 rfl 0 rfl ?_
        refine j_if_lt (tgt := 70) hE hf dX4_findStruck_53 (by decide) (fun c6 hf => ?_) (fun c6 hf => ?_)
        · refine j_iinc (v := (v2 + (-1))) (lv' := [(2, .int (v2 + (-1))), (3, .int (no_z 5 (Int32.toNatClampNeg v2))), (0, .ref (a 0))]) hE dX4_findStruck_70 2 rfl rfl (by decide) rfl ?_
          refine j_goto (tgt := 32) hE dX4_findStruck_73 (by decide) ?_
          exact j_sub [2, 0] rfl (ih no_z (v2 + (-1)) hf)
        · refine j_iload_n hE dX4_findStruck_56 rfl 0 rfl ?_
          refine j_sipush (v := 150) hE dX4_findStruck_57 (by decide) ?_
          refine j_icmp_ge (tgt := 70) hE hf dX4_findStruck_60 (by decide) (fun c7 hf => ?_) (fun c7 hf => ?_)
          · refine j_iinc (v := (v2 + (-1))) (lv' := [(2, .int (v2 + (-1))), (3, .int (no_z 5 (Int32.toNatClampNeg v2))), (0, .ref (a 0))]) hE dX4_findStruck_70 2 rfl rfl (by decide) rfl ?_
            refine j_goto (tgt := 32) hE dX4_findStruck_73 (by decide) ?_
            exact j_sub [2, 0] rfl (ih no_z (v2 + (-1)) hf)
          · refine j_aload_n hE dX4_findStruck_63 rfl 1 rfl ?_
            refine j_get (v := .ref (a 5)) hE lg_Notes_31 0 rfl 0 (wg_Notes_0 g a no_z) rfl dX4_findStruck_64 ?_
            refine j_iload_n hE dX4_findStruck_67 rfl 0 rfl ?_
            refine j_iconst (v := 1) hE dX4_findStruck_68 (by decide) ?_
            refine j_zast (ws' := ([n_Notes g a (up2 no_z 6 (Int32.toNatClampNeg (no_z 5 (Int32.toNatClampNeg v2))) 1)] : List va_W)) hE hf 0 rfl 5 (wg_Notes_5 g a no_z) (wa_Notes_5 g a no_z (Int32.toNatClampNeg (no_z 5 (Int32.toNatClampNeg v2))) 1) rfl dX4_findStruck_69 (fun hf => ?_)
            refine j_iinc (v := (v2 + (-1))) (lv' := [(2, .int (v2 + (-1))), (3, .int (no_z 5 (Int32.toNatClampNeg v2))), (0, .ref (a 0))]) hE dX4_findStruck_70 2 rfl rfl (by decide) rfl ?_
            refine j_goto (tgt := 32) hE dX4_findStruck_73 (by decide) ?_
            exact j_sub [2, 0] rfl (ih (up2 no_z 6 (Int32.toNatClampNeg (no_z 5 (Int32.toNatClampNeg v2))) 1) (v2 + (-1)) hf)
set_option maxRecDepth 100000 in
theorem j_Notes_findStruck_2 (E : jT) (g : jG) (a : Nat → Nat)  (x1 : Int32) (res : jZ) (hE : jOk E g RX4 cX4_findStruck 4 (none : Option Jvm.ClassFile.FieldType) rm_Notes_findStruck) (hq : jEnd E g none (([n_Notes g a res] : List va_W)) 0 0)  : ∀ (n : Nat) (no_z : jZ) (v2 : Int32), f_Notes_findStruck_2 x1 n no_z v2 = some res → J E g 0 0 (([n_Notes g a no_z] : List va_W)) [(0, .ref (a 0)), (1, .int x1), (2, .int v2)] 2 [] := by
  intro n
  induction n with
  | zero =>
    intro no_z v2 hf
    rw [f_Notes_findStruck_2] at hf
    cases hf
  | succ n ih =>
    intro no_z v2 hf
    rw [f_Notes_findStruck_2] at hf
    refine j_iload_n hE dX4_findStruck_2 rfl 2 rfl ?_
    refine j_sipush (v := 150) hE dX4_findStruck_3 (by decide) ?_
    refine j_icmp_ge (tgt := 22) hE hf dX4_findStruck_6 (by decide) (fun c1 hf => ?_) (fun c1 hf => ?_)
    · refine j_iload_n hE dX4_findStruck_22 rfl 1 rfl ?_
      refine j_sipush (v := 150) hE dX4_findStruck_23 (by decide) ?_
      refine j_mmin hE fm_mmin ml_Notes_57 ⟨⟨Nat.le_of_ble_eq_true rfl, Nat.le_of_ble_eq_true rfl⟩, Nat.zero_le _, Nat.zero_le _⟩ dX4_findStruck_26 ?_
      refine j_iconst (v := 1) hE dX4_findStruck_29 (by decide) ?_
      refine j_isub hE dX4_findStruck_30 ?_
      refine j_istore_n (lv' := [(2, .int ((if 150 < x1 then 150 else x1) - 1)), (0, .ref (a 0)), (1, .int x1)]) hE dX4_findStruck_31 rfl (by decide) rfl ?_
      exact j_sub [1, 0] rfl (j_Notes_findStruck_32 E g a x1 res hE hq FU no_z ((if 150 < x1 then 150 else x1) - 1) hf)
    · refine j_aload_n hE dX4_findStruck_9 rfl 0 rfl ?_
      refine j_get (v := .ref (a 5)) hE lg_Notes_31 0 rfl 0 (wg_Notes_0 g a no_z) rfl dX4_findStruck_10 ?_
      refine j_iload_n hE dX4_findStruck_13 rfl 2 rfl ?_
      refine j_iconst (v := 0) hE dX4_findStruck_14 (by decide) ?_
      refine j_zast (ws' := ([n_Notes g a (up2 no_z 6 (Int32.toNatClampNeg v2) 0)] : List va_W)) hE hf 0 rfl 5 (wg_Notes_5 g a no_z) (wa_Notes_5 g a no_z (Int32.toNatClampNeg v2) 0) rfl dX4_findStruck_15 (fun hf => ?_)
      refine j_iinc (v := (v2 + 1)) (lv' := [(2, .int (v2 + 1)), (0, .ref (a 0)), (1, .int x1)]) hE dX4_findStruck_16 2 rfl rfl (by decide) rfl ?_
      refine j_goto (tgt := 2) hE dX4_findStruck_19 (by decide) ?_
      exact j_sub [1, 2, 0] rfl (ih (up2 no_z 6 (Int32.toNatClampNeg v2) 0) (v2 + 1) hf)
set_option maxRecDepth 100000 in
theorem c_Notes_findStruck (l : Launch) (g : jG) (a : Nat → Nat) (no_z : jZ) (x1 : Int32) (res : jZ) (hf : f_Notes_findStruck no_z x1 = some res) : MC l g yX4_findStruck cX4_findStruck 4 (none : Option Jvm.ClassFile.FieldType) rm_Notes_findStruck [.ref (a 0), .int x1] (([n_Notes g a no_z] : List va_W)) none (([n_Notes g a res] : List va_W)) 0 0 := by
  refine MC_of (own := RX4) (lv := [(0, .ref (a 0)), (1, .int x1)]) (by decide) rfl (Nat.le_of_ble_eq_true rfl) rfl rfl (fun E hE hq => ?_)
  unfold f_Notes_findStruck at hf
  refine j_iconst (v := 0) hE dX4_findStruck_0 (by decide) ?_
  refine j_istore_n (lv' := [(2, .int 0), (0, .ref (a 0)), (1, .int x1)]) hE dX4_findStruck_1 rfl (by decide) rfl ?_
  exact j_sub [1, 2, 0] rfl (j_Notes_findStruck_2 E g a x1 res hE hq FU no_z 0 hf)
def rm_WP_isWithin : Room := { frames := 0, cells := 0, slots := 0, locals := 0 }
def f_WP_isWithin  (x0 : Int32) (x1 : Int32) (x2 : Int32) : Option (Int32) := (if x0 < x1 then some 0
    else (if x2 < x0 then some 0
    else some 1))
set_option maxRecDepth 100000 in
theorem c_WP_isWithin (l : Launch) (g : jG)   (x0 : Int32) (x1 : Int32) (x2 : Int32) (res : Int32) (hf : f_WP_isWithin x0 x1 x2 = some res) : MC l g yX11_isWithin cX11_isWithin 3 (some .boolean) rm_WP_isWithin [.int x0, .int x1, .int x2] (([] : List va_W)) (some (.int res)) (([] : List va_W)) 0 0 := by
  refine MC_of (own := RX11) (lv := [(0, .int x0), (1, .int x1), (2, .int x2)]) (by decide) rfl (Nat.le_of_ble_eq_true rfl) rfl rfl (fun E hE hq => ?_)
  unfold f_WP_isWithin at hf
  refine j_iload_n hE dX11_isWithin_0 rfl 0 rfl ?_
  refine j_iload_n hE dX11_isWithin_1 rfl 1 rfl ?_
  refine j_icmp_lt (tgt := 14) hE hf dX11_isWithin_2 (by decide) (fun c1 hf => ?_) (fun c1 hf => ?_)
  · refine j_iconst (v := 0) hE dX11_isWithin_14 (by decide) ?_
    obtain rfl := Option.some.inj hf
    exact j_zret_c hE (Or.inl rfl) hq rfl rfl dX11_isWithin_15
  · refine j_iload_n hE dX11_isWithin_5 rfl 0 rfl ?_
    refine j_iload_n hE dX11_isWithin_6 rfl 2 rfl ?_
    refine j_icmp_gt (tgt := 14) hE hf dX11_isWithin_7 (by decide) (fun c2 hf => ?_) (fun c2 hf => ?_)
    · refine j_iconst (v := 0) hE dX11_isWithin_14 (by decide) ?_
      obtain rfl := Option.some.inj hf
      exact j_zret_c hE (Or.inl rfl) hq rfl rfl dX11_isWithin_15
    · refine j_iconst (v := 1) hE dX11_isWithin_10 (by decide) ?_
      refine j_goto (tgt := 15) hE dX11_isWithin_11 (by decide) ?_
      obtain rfl := Option.some.inj hf
      exact j_zret_c hE (Or.inr rfl) hq rfl rfl dX11_isWithin_15
def rm_Notes_refresh : Room := { frames := 2, cells := 0, slots := 0, locals := 44 }
def f_Notes_refresh_79   (k39 : jZ → Int32 → Int32 → Option (jZ)) (no_z : jZ) (v1 : Int32) (v2 : Int32) (s0 : Int32) : Option (jZ) := (if s0 = 0 then k39 no_z v1 (v2 + 1)
    else (ix v2 150).bind fun _ => (if (no_z 6 (Int32.toNatClampNeg v2)) = 0 then (ix v2 150).bind fun _ => (ix v2 150).bind fun _ => (ix v2 150).bind fun _ => (ix (((no_z 2 (Int32.toNatClampNeg v2)) * 9) + (no_z 3 (Int32.toNatClampNeg v2))) 108).bind fun _ => k39 (up2 no_z 7 (Int32.toNatClampNeg (((no_z 2 (Int32.toNatClampNeg v2)) * 9) + (no_z 3 (Int32.toNatClampNeg v2)))) (no_z 4 (Int32.toNatClampNeg v2))) v1 (v2 + 1)
    else k39 no_z v1 (v2 + 1)))
def f_Notes_refresh_39    : Nat → jZ → Int32 → Int32 → Option (jZ)
  | 0, _, _, _ => none
  | n + 1, no_z, v1, v2 => (if v1 ≤ v2 then some no_z
    else (ix v2 150).bind fun _ => (f_WP_isWithin (no_z 2 (Int32.toNatClampNeg v2)) 0 11).bind fun q8 => (if q8 = 0 then f_Notes_refresh_79 (fun no_z v1 v2 => f_Notes_refresh_39  n no_z v1 v2) no_z v1 v2 0
    else (ix v2 150).bind fun _ => (f_WP_isWithin (no_z 3 (Int32.toNatClampNeg v2)) 0 8).bind fun q12 => (if q12 = 0 then f_Notes_refresh_79 (fun no_z v1 v2 => f_Notes_refresh_39  n no_z v1 v2) no_z v1 v2 0
    else f_Notes_refresh_79 (fun no_z v1 v2 => f_Notes_refresh_39  n no_z v1 v2) no_z v1 v2 1)))
def f_Notes_refresh_18    : Nat → jZ → Int32 → Int32 → Option (jZ)
  | 0, _, _, _ => none
  | n + 1, no_z, v1, v2 => (if 108 ≤ v2 then f_Notes_refresh_39 FU no_z v1 0
    else (ix v2 108).bind fun _ => f_Notes_refresh_18  n (up2 no_z 7 (Int32.toNatClampNeg v2) (-1)) v1 (v2 + 1))
def f_Notes_refresh (no_z : jZ)  : Option (jZ) := (f_Notes_byHowMany no_z).bind fun q1 => (f_Notes_findStruck no_z (if 150 < q1 then 150 else q1)).bind fun q3 => f_Notes_refresh_18 FU q3 (if 150 < q1 then 150 else q1) 0
set_option maxRecDepth 100000 in
theorem j_Notes_refresh_79 (E : jT) (g : jG) (a : Nat → Nat)   (res : jZ) (hE : jOk E g RX4 cX4_refresh 4 (none : Option Jvm.ClassFile.FieldType) rm_Notes_refresh) (hq : jEnd E g none (([n_Notes g a res] : List va_W)) 0 0) (k39 : jZ → Int32 → Int32 → Option (jZ)) (hk39 : ∀ (no_z : jZ) (v1 : Int32) (v2 : Int32), k39 no_z v1 v2 = some res → J E g 0 0 (([n_Notes g a no_z] : List va_W)) [(0, .ref (a 0)), (1, .int v1), (2, .int v2)] 39 []) (no_z : jZ) (v1 : Int32) (v2 : Int32) (s0 : Int32) (hf : f_Notes_refresh_79 k39 no_z v1 v2 s0 = some res) : J E g 0 0 (([n_Notes g a no_z] : List va_W)) [(0, .ref (a 0)), (1, .int v1), (2, .int v2)] 79 [.int s0] := by
  unfold f_Notes_refresh_79 at hf
  refine j_istore_n (lv' := [(3, .int s0), (0, .ref (a 0)), (1, .int v1), (2, .int v2)]) hE dX4_refresh_79 rfl (by decide) rfl ?_
  refine j_iload_n hE dX4_refresh_80 rfl 0 rfl ?_
  refine j_if_eq (tgt := 120) hE hf dX4_refresh_81 (by decide) (fun c15 hf => ?_) (fun c15 hf => ?_)
  · refine j_iinc (v := (v2 + 1)) (lv' := [(2, .int (v2 + 1)), (3, .int s0), (0, .ref (a 0)), (1, .int v1)]) hE dX4_refresh_120 3 rfl rfl (by decide) rfl ?_
    refine j_goto (tgt := 39) hE dX4_refresh_123 (by decide) ?_
    exact j_sub [2, 3, 0] rfl (hk39 no_z v1 (v2 + 1) hf)
  · refine j_aload_n hE dX4_refresh_84 rfl 1 rfl ?_
    refine j_get (v := .ref (a 5)) hE lg_Notes_31 0 rfl 0 (wg_Notes_0 g a no_z) rfl dX4_refresh_85 ?_
    refine j_iload_n hE dX4_refresh_88 rfl 3 rfl ?_
    refine j_zald hE hf 0 rfl 5 (wg_Notes_5 g a no_z) dX4_refresh_89 (fun hf => ?_)
    refine j_if_ne (tgt := 120) hE hf dX4_refresh_90 (by decide) (fun c17 hf => ?_) (fun c17 hf => ?_)
    · refine j_iinc (v := (v2 + 1)) (lv' := [(2, .int (v2 + 1)), (3, .int s0), (0, .ref (a 0)), (1, .int v1)]) hE dX4_refresh_120 3 rfl rfl (by decide) rfl ?_
      refine j_goto (tgt := 39) hE dX4_refresh_123 (by decide) ?_
      exact j_sub [2, 3, 0] rfl (hk39 no_z v1 (v2 + 1) hf)
    · refine j_aload_n hE dX4_refresh_93 rfl 1 rfl ?_
      refine j_get (v := .ref (a 6)) hE lg_Notes_35 0 rfl 0 (wg_Notes_0 g a no_z) rfl dX4_refresh_94 ?_
      refine j_aload_n hE dX4_refresh_97 rfl 1 rfl ?_
      refine j_get (v := .ref (a 1)) hE lg_Notes_18 0 rfl 0 (wg_Notes_0 g a no_z) rfl dX4_refresh_98 ?_
      refine j_iload_n hE dX4_refresh_101 rfl 3 rfl ?_
      refine j_iald hE hf 0 rfl 1 (wg_Notes_1 g a no_z) dX4_refresh_102 (fun hf => ?_)
      refine j_bipush (v := 9) hE dX4_refresh_103 (by decide) ?_
      refine j_imul hE dX4_refresh_105 ?_
      refine j_aload_n hE dX4_refresh_106 rfl 1 rfl ?_
      refine j_get (v := .ref (a 2)) hE lg_Notes_22 0 rfl 0 (wg_Notes_0 g a no_z) rfl dX4_refresh_107 ?_
      refine j_iload_n hE dX4_refresh_110 rfl 3 rfl ?_
      refine j_iald hE hf 0 rfl 2 (wg_Notes_2 g a no_z) dX4_refresh_111 (fun hf => ?_)
      refine j_iadd hE dX4_refresh_112 ?_
      refine j_aload_n hE dX4_refresh_113 rfl 1 rfl ?_
      refine j_get (v := .ref (a 3)) hE lg_Notes_25 0 rfl 0 (wg_Notes_0 g a no_z) rfl dX4_refresh_114 ?_
      refine j_iload_n hE dX4_refresh_117 rfl 3 rfl ?_
      refine j_iald hE hf 0 rfl 3 (wg_Notes_3 g a no_z) dX4_refresh_118 (fun hf => ?_)
      refine j_iast (ws' := ([n_Notes g a (up2 no_z 7 (Int32.toNatClampNeg (((no_z 2 (Int32.toNatClampNeg v2)) * 9) + (no_z 3 (Int32.toNatClampNeg v2)))) (no_z 4 (Int32.toNatClampNeg v2)))] : List va_W)) hE hf 0 rfl 6 (wg_Notes_6 g a no_z) (wa_Notes_6 g a no_z (Int32.toNatClampNeg (((no_z 2 (Int32.toNatClampNeg v2)) * 9) + (no_z 3 (Int32.toNatClampNeg v2)))) (no_z 4 (Int32.toNatClampNeg v2))) rfl dX4_refresh_119 (fun hf => ?_)
      refine j_iinc (v := (v2 + 1)) (lv' := [(2, .int (v2 + 1)), (3, .int s0), (0, .ref (a 0)), (1, .int v1)]) hE dX4_refresh_120 3 rfl rfl (by decide) rfl ?_
      refine j_goto (tgt := 39) hE dX4_refresh_123 (by decide) ?_
      exact j_sub [2, 3, 0] rfl (hk39 (up2 no_z 7 (Int32.toNatClampNeg (((no_z 2 (Int32.toNatClampNeg v2)) * 9) + (no_z 3 (Int32.toNatClampNeg v2)))) (no_z 4 (Int32.toNatClampNeg v2))) v1 (v2 + 1) hf)
set_option maxRecDepth 100000 in
theorem j_Notes_refresh_39 (E : jT) (g : jG) (a : Nat → Nat)   (res : jZ) (hE : jOk E g RX4 cX4_refresh 4 (none : Option Jvm.ClassFile.FieldType) rm_Notes_refresh) (hq : jEnd E g none (([n_Notes g a res] : List va_W)) 0 0)  : ∀ (n : Nat) (no_z : jZ) (v1 : Int32) (v2 : Int32), f_Notes_refresh_39 n no_z v1 v2 = some res → J E g 0 0 (([n_Notes g a no_z] : List va_W)) [(0, .ref (a 0)), (1, .int v1), (2, .int v2)] 39 [] := by
  intro n
  induction n with
  | zero =>
    intro no_z v1 v2 hf
    rw [f_Notes_refresh_39] at hf
    cases hf
  | succ n ih =>
    intro no_z v1 v2 hf
    rw [f_Notes_refresh_39] at hf
    refine j_iload_n hE dX4_refresh_39 rfl 2 rfl ?_
    refine j_iload_n hE dX4_refresh_40 rfl 1 rfl ?_
    refine j_icmp_ge (tgt := 126) hE hf dX4_refresh_41 (by decide) (fun c6 hf => ?_) (fun c6 hf => ?_)
    · obtain rfl := Option.some.inj hf
      exact j_vret hE hq rfl rfl dX4_refresh_126
    · refine j_aload_n hE dX4_refresh_44 rfl 0 rfl ?_
      refine j_get (v := .ref (a 1)) hE lg_Notes_18 0 rfl 0 (wg_Notes_0 g a no_z) rfl dX4_refresh_45 ?_
      refine j_iload_n hE dX4_refresh_48 rfl 2 rfl ?_
      refine j_iald hE hf 0 rfl 1 (wg_Notes_1 g a no_z) dX4_refresh_49 (fun hf => ?_)
      refine j_iconst (v := 0) hE dX4_refresh_50 (by decide) ?_
      refine j_bipush (v := 11) hE dX4_refresh_51 (by decide) ?_
      obtain ⟨q8, hc9, hf⟩ := bind_of hf
      refine j_callSN (ws' := ([n_Notes g a no_z] : List va_W)) (As := [.int (no_z 2 (Int32.toNatClampNeg v2)), .int 0, .int 11]) (rest := []) (st2 := [.int q8]) hE (fun l => c_WP_isWithin l g (no_z 2 (Int32.toNatClampNeg v2)) 0 11 q8 hc9) cd_X11_isWithin st_X11_isWithin ml_Notes_45 rfl rfl ⟨⟨Nat.le_of_ble_eq_true rfl, Nat.le_of_ble_eq_true rfl⟩, ⟨Nat.zero_le _, Nat.zero_le _⟩, rfl, rfl⟩ [] rfl rfl rfl (Nat.le_of_ble_eq_true rfl) rfl dX4_refresh_53 ?_
      refine j_if_eq (tgt := 78) hE hf dX4_refresh_56 (by decide) (fun c10 hf => ?_) (fun c10 hf => ?_)
      · refine j_iconst (v := 0) hE dX4_refresh_78 (by decide) ?_
        exact j_Notes_refresh_79 E g a res hE hq (fun no_z v1 v2 => f_Notes_refresh_39  n no_z v1 v2) (fun no_z v1 v2 hf => ih no_z v1 v2 hf) no_z v1 v2 0 hf
      · refine j_aload_n hE dX4_refresh_59 rfl 0 rfl ?_
        refine j_get (v := .ref (a 2)) hE lg_Notes_22 0 rfl 0 (wg_Notes_0 g a no_z) rfl dX4_refresh_60 ?_
        refine j_iload_n hE dX4_refresh_63 rfl 2 rfl ?_
        refine j_iald hE hf 0 rfl 2 (wg_Notes_2 g a no_z) dX4_refresh_64 (fun hf => ?_)
        refine j_iconst (v := 0) hE dX4_refresh_65 (by decide) ?_
        refine j_bipush (v := 8) hE dX4_refresh_66 (by decide) ?_
        obtain ⟨q12, hc13, hf⟩ := bind_of hf
        refine j_callSN (ws' := ([n_Notes g a no_z] : List va_W)) (As := [.int (no_z 3 (Int32.toNatClampNeg v2)), .int 0, .int 8]) (rest := []) (st2 := [.int q12]) hE (fun l => c_WP_isWithin l g (no_z 3 (Int32.toNatClampNeg v2)) 0 8 q12 hc13) cd_X11_isWithin st_X11_isWithin ml_Notes_45 rfl rfl ⟨⟨Nat.le_of_ble_eq_true rfl, Nat.le_of_ble_eq_true rfl⟩, ⟨Nat.zero_le _, Nat.zero_le _⟩, rfl, rfl⟩ [] rfl rfl rfl (Nat.le_of_ble_eq_true rfl) rfl dX4_refresh_68 ?_
        refine j_if_eq (tgt := 78) hE hf dX4_refresh_71 (by decide) (fun c14 hf => ?_) (fun c14 hf => ?_)
        · refine j_iconst (v := 0) hE dX4_refresh_78 (by decide) ?_
          exact j_Notes_refresh_79 E g a res hE hq (fun no_z v1 v2 => f_Notes_refresh_39  n no_z v1 v2) (fun no_z v1 v2 hf => ih no_z v1 v2 hf) no_z v1 v2 0 hf
        · refine j_iconst (v := 1) hE dX4_refresh_74 (by decide) ?_
          refine j_goto (tgt := 79) hE dX4_refresh_75 (by decide) ?_
          exact j_Notes_refresh_79 E g a res hE hq (fun no_z v1 v2 => f_Notes_refresh_39  n no_z v1 v2) (fun no_z v1 v2 hf => ih no_z v1 v2 hf) no_z v1 v2 1 hf
set_option maxRecDepth 100000 in
theorem j_Notes_refresh_18 (E : jT) (g : jG) (a : Nat → Nat)   (res : jZ) (hE : jOk E g RX4 cX4_refresh 4 (none : Option Jvm.ClassFile.FieldType) rm_Notes_refresh) (hq : jEnd E g none (([n_Notes g a res] : List va_W)) 0 0)  : ∀ (n : Nat) (no_z : jZ) (v1 : Int32) (v2 : Int32), f_Notes_refresh_18 n no_z v1 v2 = some res → J E g 0 0 (([n_Notes g a no_z] : List va_W)) [(0, .ref (a 0)), (1, .int v1), (2, .int v2)] 18 [] := by
  intro n
  induction n with
  | zero =>
    intro no_z v1 v2 hf
    rw [f_Notes_refresh_18] at hf
    cases hf
  | succ n ih =>
    intro no_z v1 v2 hf
    rw [f_Notes_refresh_18] at hf
    refine j_iload_n hE dX4_refresh_18 rfl 2 rfl ?_
    refine j_bipush (v := 108) hE dX4_refresh_19 (by decide) ?_
    refine j_icmp_ge (tgt := 37) hE hf dX4_refresh_21 (by decide) (fun c5 hf => ?_) (fun c5 hf => ?_)
    · refine j_iconst (v := 0) hE dX4_refresh_37 (by decide) ?_
      refine j_istore_n (lv' := [(2, .int 0), (0, .ref (a 0)), (1, .int v1)]) hE dX4_refresh_38 rfl (by decide) rfl ?_
      exact j_sub [1, 2, 0] rfl (j_Notes_refresh_39 E g a res hE hq FU no_z v1 0 hf)
    · refine j_aload_n hE dX4_refresh_24 rfl 0 rfl ?_
      refine j_get (v := .ref (a 6)) hE lg_Notes_35 0 rfl 0 (wg_Notes_0 g a no_z) rfl dX4_refresh_25 ?_
      refine j_iload_n hE dX4_refresh_28 rfl 2 rfl ?_
      refine j_iconst (v := (-1)) hE dX4_refresh_29 (by decide) ?_
      refine j_iast (ws' := ([n_Notes g a (up2 no_z 7 (Int32.toNatClampNeg v2) (-1))] : List va_W)) hE hf 0 rfl 6 (wg_Notes_6 g a no_z) (wa_Notes_6 g a no_z (Int32.toNatClampNeg v2) (-1)) rfl dX4_refresh_30 (fun hf => ?_)
      refine j_iinc (v := (v2 + 1)) (lv' := [(2, .int (v2 + 1)), (0, .ref (a 0)), (1, .int v1)]) hE dX4_refresh_31 2 rfl rfl (by decide) rfl ?_
      refine j_goto (tgt := 18) hE dX4_refresh_34 (by decide) ?_
      exact j_sub [1, 2, 0] rfl (ih (up2 no_z 7 (Int32.toNatClampNeg v2) (-1)) v1 (v2 + 1) hf)
set_option maxRecDepth 100000 in
theorem c_Notes_refresh (l : Launch) (g : jG) (a : Nat → Nat) (no_z : jZ)  (res : jZ) (hf : f_Notes_refresh no_z = some res) : MC l g yX4_refresh cX4_refresh 4 (none : Option Jvm.ClassFile.FieldType) rm_Notes_refresh [.ref (a 0)] (([n_Notes g a no_z] : List va_W)) none (([n_Notes g a res] : List va_W)) 0 0 := by
  refine MC_of (own := RX4) (lv := [(0, .ref (a 0))]) (by decide) rfl (Nat.le_of_ble_eq_true rfl) rfl rfl (fun E hE hq => ?_)
  unfold f_Notes_refresh at hf
  refine j_aload_n hE dX4_refresh_0 rfl 0 rfl ?_
  obtain ⟨q1, hc2, hf⟩ := bind_of hf
  refine j_callV (ws' := ([n_Notes g a no_z] : List va_W)) (As := []) (rest := []) (st2 := [.int q1]) hE (fun l => c_Notes_byHowMany l g a no_z q1 hc2) cd_X4_byHowMany cv_X4_byHowMany ml_Notes_53 rfl rfl rfl (wg_Notes_0 _ _ _) ⟨⟨Nat.le_of_ble_eq_true rfl, Nat.le_of_ble_eq_true rfl⟩, ⟨Nat.zero_le _, Nat.zero_le _⟩, rfl, rfl⟩ [0] rfl rfl rfl (Nat.le_of_ble_eq_true rfl) rfl dX4_refresh_1 ?_
  refine j_sipush (v := 150) hE dX4_refresh_4 (by decide) ?_
  refine j_mmin hE fm_mmin ml_Notes_57 ⟨⟨Nat.le_of_ble_eq_true rfl, Nat.le_of_ble_eq_true rfl⟩, Nat.zero_le _, Nat.zero_le _⟩ dX4_refresh_7 ?_
  refine j_istore_n (lv' := [(1, .int (if 150 < q1 then 150 else q1)), (0, .ref (a 0))]) hE dX4_refresh_10 rfl (by decide) rfl ?_
  refine j_aload_n hE dX4_refresh_11 rfl 1 rfl ?_
  refine j_iload_n hE dX4_refresh_12 rfl 0 rfl ?_
  obtain ⟨q3, hc4, hf⟩ := bind_of hf
  refine j_callV (ws' := ([n_Notes g a q3] : List va_W)) (As := [.int (if 150 < q1 then 150 else q1)]) (rest := []) (st2 := []) hE (fun l => c_Notes_findStruck l g a no_z (if 150 < q1 then 150 else q1) q3 hc4) cd_X4_findStruck cv_X4_findStruck ml_Notes_62 rfl rfl rfl (wg_Notes_0 _ _ _) ⟨⟨Nat.le_of_ble_eq_true rfl, Nat.le_of_ble_eq_true rfl⟩, ⟨Nat.zero_le _, Nat.zero_le _⟩, rfl, rfl⟩ [0] rfl rfl rfl (Nat.le_of_ble_eq_true rfl) rfl dX4_refresh_13 ?_
  refine j_iconst (v := 0) hE dX4_refresh_16 (by decide) ?_
  refine j_istore_n (lv' := [(2, .int 0), (1, .int (if 150 < q1 then 150 else q1)), (0, .ref (a 0))]) hE dX4_refresh_17 rfl (by decide) rfl ?_
  exact j_sub [2, 1, 0] rfl (j_Notes_refresh_18 E g a res hE hq FU q3 (if 150 < q1 then 150 else q1) 0 hf)
