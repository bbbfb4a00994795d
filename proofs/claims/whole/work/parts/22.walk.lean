def rm_Luck_next : Room := { frames := 0, cells := 0, slots := 0, locals := 0 }
def f_Luck_next (lu_z : jZ)  : Option (jZ × Int32) := some ((up2 lu_z 4 0 ((((lu_z 4 0) * 1103515245) + 12345) &&& 2147483647)), (((((lu_z 4 0) * 1103515245) + 12345) &&& 2147483647) / 65536))
set_option maxRecDepth 100000 in
theorem c_Luck_next (l : Launch) (g : jG) (a : Nat → Nat) (lu_z : jZ) (lu_y : jY)  (res : jZ × Int32) (hf : f_Luck_next lu_z = some res) : MC l g yX3_next cX3_next 1 (some .int) rm_Luck_next [.ref (a 0)] (([n_Luck g a lu_z lu_y] : List va_W)) (some (.int res.2)) (([n_Luck g a res.1 lu_y] : List va_W)) 0 0 := by
  refine MC_of (own := RX3) (lv := [(0, .ref (a 0))]) (by decide) rfl (Nat.le_of_ble_eq_true rfl) rfl rfl (fun E hE hq => ?_)
  unfold f_Luck_next at hf
  refine j_aload_n hE dX3_next_0 rfl 0 rfl ?_
  refine j_aload_n hE dX3_next_1 rfl 0 rfl ?_
  refine j_get (v := .int (lu_z 4 0)) hE lg_Luck_25 0 rfl 0 (wg_Luck_0 g a lu_z lu_y) rfl dX3_next_2 ?_
  refine j_ldc hE co_Luck_96 dX3_next_5 ?_
  refine j_imul hE dX3_next_7 ?_
  refine j_sipush (v := 12345) hE dX3_next_8 (by decide) ?_
  refine j_iadd hE dX3_next_11 ?_
  refine j_ldc hE co_Luck_99 dX3_next_12 ?_
  refine j_iand hE dX3_next_14 ?_
  refine j_put (v := .int ((((lu_z 4 0) * 1103515245) + 12345) &&& 2147483647)) (ws' := ([n_Luck g a (up2 lu_z 4 0 ((((lu_z 4 0) * 1103515245) + 12345) &&& 2147483647)) lu_y] : List va_W)) hE lp_Luck_25 0 rfl 0 (wg_Luck_0 g a lu_z lu_y) rfl rfl (Nat.le_of_ble_eq_true rfl) (wp_Luck_4 g a lu_z lu_y ((((lu_z 4 0) * 1103515245) + 12345) &&& 2147483647)) rfl dX3_next_15 ?_
  refine j_aload_n hE dX3_next_18 rfl 0 rfl ?_
  refine j_get (v := .int ((((lu_z 4 0) * 1103515245) + 12345) &&& 2147483647)) hE lg_Luck_25 0 rfl 0 (wg_Luck_0 g a (up2 lu_z 4 0 ((((lu_z 4 0) * 1103515245) + 12345) &&& 2147483647)) lu_y) rfl dX3_next_19 ?_
  refine j_ldc hE co_Luck_100 dX3_next_22 ?_
  refine j_idiv_c hE (by decide) dX3_next_24 ?_
  obtain rfl := Option.some.inj hf
  exact j_iret hE hq rfl rfl dX3_next_25
def rm_Luck_kindBy : Room := { frames := 0, cells := 0, slots := 0, locals := 0 }
def f_Luck_kindBy_23 (ki_z : jZ) (x1 : Int32)  : Nat → Int32 → Int32 → Int32 → Option (Int32)
  | 0, _, _, _ => none
  | n + 1, v2, v3, v4 => (if (ki_z 0 0) ≤ v4 then some 0
    else (if 5 ≤ v4 then some 0
    else (ix v4 5).bind fun _ => (if (v3 + (ki_z 3 (Int32.toNatClampNeg v4))) ≤ v2 then f_Luck_kindBy_23 ki_z x1 n v2 (v3 + (ki_z 3 (Int32.toNatClampNeg v4))) (v4 + 1)
    else some v4)))
def f_Luck_kindBy (ki_z : jZ) (x1 : Int32) : Option (Int32) := (if (ki_z 1 0) ≤ 0 then f_Luck_kindBy_23 ki_z x1 FU 0 0 0
    else (nz (ki_z 1 0)).bind fun _ => f_Luck_kindBy_23 ki_z x1 FU (x1 - x1 / (ki_z 1 0) * (ki_z 1 0)) 0 0)
set_option maxRecDepth 100000 in
theorem j_Luck_kindBy_23 (E : jT) (g : jG) (b : Nat → Nat) (ki_z : jZ) (x1 : Int32) (res : Int32) (hE : jOk E g RX3 cX3_kindBy 5 (some .int) rm_Luck_kindBy) (hq : jEnd E g (some (.int res)) (([n_Kinds g b ki_z] : List va_W)) 0 0)  : ∀ (n : Nat) (v2 : Int32) (v3 : Int32) (v4 : Int32), f_Luck_kindBy_23 ki_z x1 n v2 v3 v4 = some res → J E g 0 0 (([n_Kinds g b ki_z] : List va_W)) [(0, .ref (b 0)), (2, .int v2), (3, .int v3), (4, .int v4)] 23 [] := by
  intro n
  induction n with
  | zero =>
    intro v2 v3 v4 hf
    rw [f_Luck_kindBy_23] at hf
    cases hf
  | succ n ih =>
    intro v2 v3 v4 hf
    rw [f_Luck_kindBy_23] at hf
    refine j_iload hE dX3_kindBy_23 3 rfl ?_
    refine j_aload_n hE dX3_kindBy_25 rfl 0 rfl ?_
    refine j_get (v := .int (ki_z 0 0)) hE lg_Luck_52 0 rfl 0 (wg_Kinds_0 g b ki_z) rfl dX3_kindBy_26 ?_
    refine j_icmp_ge (tgt := 62) hE hf dX3_kindBy_29 (by decide) (fun c2 hf => ?_) (fun c2 hf => ?_)
    · refine j_iconst (v := 0) hE dX3_kindBy_62 (by decide) ?_
      obtain rfl := Option.some.inj hf
      exact j_iret hE hq rfl rfl dX3_kindBy_63
    · refine j_iload hE dX3_kindBy_32 3 rfl ?_
      refine j_iconst (v := 5) hE dX3_kindBy_34 (by decide) ?_
      refine j_icmp_ge (tgt := 62) hE hf dX3_kindBy_35 (by decide) (fun c3 hf => ?_) (fun c3 hf => ?_)
      · refine j_iconst (v := 0) hE dX3_kindBy_62 (by decide) ?_
        obtain rfl := Option.some.inj hf
        exact j_iret hE hq rfl rfl dX3_kindBy_63
      · refine j_iload_n hE dX3_kindBy_38 rfl 2 rfl ?_
        refine j_aload_n hE dX3_kindBy_39 rfl 0 rfl ?_
        refine j_get (v := .ref (b 2)) hE lg_Luck_57 0 rfl 0 (wg_Kinds_0 g b ki_z) rfl dX3_kindBy_40 ?_
        refine j_iload hE dX3_kindBy_43 3 rfl ?_
        refine j_iald hE hf 0 rfl 2 (wg_Kinds_2 g b ki_z) dX3_kindBy_45 (fun hf => ?_)
        refine j_iadd hE dX3_kindBy_46 ?_
        refine j_istore_n (lv' := [(3, .int (v3 + (ki_z 3 (Int32.toNatClampNeg v4)))), (0, .ref (b 0)), (2, .int v2), (4, .int v4)]) hE dX3_kindBy_47 rfl (by decide) rfl ?_
        refine j_iload_n hE dX3_kindBy_48 rfl 0 rfl ?_
        refine j_iload_n hE dX3_kindBy_49 rfl 2 rfl ?_
        refine j_icmp_le (tgt := 56) hE hf dX3_kindBy_50 (by decide) (fun c5 hf => ?_) (fun c5 hf => ?_)
        · refine j_iinc (v := (v4 + 1)) (lv' := [(4, .int (v4 + 1)), (3, .int (v3 + (ki_z 3 (Int32.toNatClampNeg v4)))), (0, .ref (b 0)), (2, .int v2)]) hE dX3_kindBy_56 3 rfl rfl (by decide) rfl ?_
          refine j_goto (tgt := 23) hE dX3_kindBy_59 (by decide) ?_
          exact j_sub [2, 3, 1, 0] rfl (ih v2 (v3 + (ki_z 3 (Int32.toNatClampNeg v4))) (v4 + 1) hf)
        · refine j_iload hE dX3_kindBy_53 3 rfl ?_
          obtain rfl := Option.some.inj hf
          exact j_iret hE hq rfl rfl dX3_kindBy_55
set_option maxRecDepth 100000 in
theorem c_Luck_kindBy (l : Launch) (g : jG) (b : Nat → Nat) (ki_z : jZ) (x1 : Int32) (res : Int32) (hf : f_Luck_kindBy ki_z x1 = some res) : MC l g yX3_kindBy cX3_kindBy 5 (some .int) rm_Luck_kindBy [.ref (b 0), .int x1] (([n_Kinds g b ki_z] : List va_W)) (some (.int res)) (([n_Kinds g b ki_z] : List va_W)) 0 0 := by
  refine MC_of (own := RX3) (lv := [(0, .ref (b 0)), (1, .int x1)]) (by decide) rfl (Nat.le_of_ble_eq_true rfl) rfl rfl (fun E hE hq => ?_)
  unfold f_Luck_kindBy at hf
  refine j_aload_n hE dX3_kindBy_0 rfl 0 rfl ?_
  refine j_get (v := .int (ki_z 1 0)) hE lg_Luck_93 0 rfl 0 (wg_Kinds_0 g b ki_z) rfl dX3_kindBy_1 ?_
  refine j_if_le (tgt := 16) hE hf dX3_kindBy_4 (by decide) (fun c1 hf => ?_) (fun c1 hf => ?_)
  · refine j_iconst (v := 0) hE dX3_kindBy_16 (by decide) ?_
    refine j_istore_n (lv' := [(2, .int 0), (0, .ref (b 0)), (1, .int x1)]) hE dX3_kindBy_17 rfl (by decide) rfl ?_
    refine j_iconst (v := 0) hE dX3_kindBy_18 (by decide) ?_
    refine j_istore_n (lv' := [(3, .int 0), (2, .int 0), (0, .ref (b 0)), (1, .int x1)]) hE dX3_kindBy_19 rfl (by decide) rfl ?_
    refine j_iconst (v := 0) hE dX3_kindBy_20 (by decide) ?_
    refine j_istore (lv' := [(4, .int 0), (3, .int 0), (2, .int 0), (0, .ref (b 0)), (1, .int x1)]) hE dX3_kindBy_21 (by decide) rfl ?_
    exact j_sub [3, 2, 1, 0] rfl (j_Luck_kindBy_23 E g b ki_z x1 res hE hq FU 0 0 0 hf)
  · refine j_iload_n hE dX3_kindBy_7 rfl 1 rfl ?_
    refine j_aload_n hE dX3_kindBy_8 rfl 0 rfl ?_
    refine j_get (v := .int (ki_z 1 0)) hE lg_Luck_93 0 rfl 0 (wg_Kinds_0 g b ki_z) rfl dX3_kindBy_9 ?_
    refine j_irem hE hf dX3_kindBy_12 (fun hf => ?_)
    refine j_goto (tgt := 17) hE dX3_kindBy_13 (by decide) ?_
    refine j_istore_n (lv' := [(2, .int (x1 - x1 / (ki_z 1 0) * (ki_z 1 0))), (0, .ref (b 0)), (1, .int x1)]) hE dX3_kindBy_17 rfl (by decide) rfl ?_
    refine j_iconst (v := 0) hE dX3_kindBy_18 (by decide) ?_
    refine j_istore_n (lv' := [(3, .int 0), (2, .int (x1 - x1 / (ki_z 1 0) * (ki_z 1 0))), (0, .ref (b 0)), (1, .int x1)]) hE dX3_kindBy_19 rfl (by decide) rfl ?_
    refine j_iconst (v := 0) hE dX3_kindBy_20 (by decide) ?_
    refine j_istore (lv' := [(4, .int 0), (3, .int 0), (2, .int (x1 - x1 / (ki_z 1 0) * (ki_z 1 0))), (0, .ref (b 0)), (1, .int x1)]) hE dX3_kindBy_21 (by decide) rfl ?_
    exact j_sub [3, 2, 1, 0] rfl (j_Luck_kindBy_23 E g b ki_z x1 res hE hq FU (x1 - x1 / (ki_z 1 0) * (ki_z 1 0)) 0 0 hf)
def rm_Luck_dealOnce : Room := { frames := 4, cells := 0, slots := 0, locals := 103 }
def f_Luck_dealOnce_14 (ki_z : jZ)   : Nat → jZ → jZ → jY → Int32 → Int32 → Option (jZ × jZ × jY)
  | 0, _, _, _, _, _ => none
  | n + 1, lu_z, ru_z, ru_y, v2, v3 => (if 6 ≤ v3 then (ix 0 6).bind fun _ => (ix 1 6).bind fun _ => (ix 2 6).bind fun _ => (f_Rule_takes ru_z ru_y (lu_z 5 (Int32.toNatClampNeg 0)) (lu_z 5 (Int32.toNatClampNeg 1)) (lu_z 5 (Int32.toNatClampNeg 2)) 0).bind fun q9 => (if q9.2.2 = 0 then some (lu_z, q9.1, q9.2.1)
    else (ix 0 6).bind fun _ => (ix 1 6).bind fun _ => (ix 2 6).bind fun _ => (ix 3 6).bind fun _ => (ix 4 6).bind fun _ => (ix 5 6).bind fun _ => some ((up2 (up2 lu_z 6 0 ((lu_z 6 0) + 1)) 7 0 ((lu_z 7 0) + ((((((lu_z 5 (Int32.toNatClampNeg 0)) + (lu_z 5 (Int32.toNatClampNeg 1))) + (lu_z 5 (Int32.toNatClampNeg 2))) - (lu_z 5 (Int32.toNatClampNeg 3))) - (lu_z 5 (Int32.toNatClampNeg 4))) - (lu_z 5 (Int32.toNatClampNeg 5))))), q9.1, q9.2.1))
    else (f_Luck_next lu_z).bind fun q18 => (f_Kinds_faceAt ki_z v2 (q18.2 - q18.2 / 10 * 10)).bind fun q20 => (ix v3 6).bind fun _ => f_Luck_dealOnce_14 ki_z n (up2 q18.1 5 (Int32.toNatClampNeg v3) q20) ru_z ru_y v2 (v3 + 1))
def f_Luck_dealOnce (lu_z : jZ) (ki_z : jZ) (ru_z : jZ) (ru_y : jY)  : Option (jZ × jZ × jY) := (f_Luck_next lu_z).bind fun q1 => (f_Luck_kindBy ki_z q1.2).bind fun q3 => f_Luck_dealOnce_14 ki_z FU q1.1 ru_z ru_y q3 0
set_option maxRecDepth 100000 in
theorem j_Luck_dealOnce_14 (E : jT) (g : jG) (a : Nat → Nat) (b : Nat → Nat) (lu_y : jY) (ro_z : jZ) (ki_z : jZ) (no_z : jZ)  (res : jZ × jZ × jY) (hE : jOk E g RX3 cX3_dealOnce 4 (none : Option Jvm.ClassFile.FieldType) rm_Luck_dealOnce) (hq : jEnd E g none (([n_Luck g a res.1 lu_y, n_Road g b ro_z, n_Kinds g (fun i => b (i + 8)) ki_z, n_Rule g (fun i => b (i + 14)) res.2.1 res.2.2, n_Notes g (fun i => b (i + 17)) no_z] : List va_W)) 0 0)  : ∀ (n : Nat) (lu_z : jZ) (ru_z : jZ) (ru_y : jY) (v2 : Int32) (v3 : Int32), f_Luck_dealOnce_14 ki_z n lu_z ru_z ru_y v2 v3 = some res → J E g 0 0 (([n_Luck g a lu_z lu_y, n_Road g b ro_z, n_Kinds g (fun i => b (i + 8)) ki_z, n_Rule g (fun i => b (i + 14)) ru_z ru_y, n_Notes g (fun i => b (i + 17)) no_z] : List va_W)) [(0, .ref (a 0)), (1, .ref (b 0)), (2, .int v2), (3, .int v3)] 14 [] := by
  intro n
  induction n with
  | zero =>
    intro lu_z ru_z ru_y v2 v3 hf
    rw [f_Luck_dealOnce_14] at hf
    cases hf
  | succ n ih =>
    intro lu_z ru_z ru_y v2 v3 hf
    rw [f_Luck_dealOnce_14] at hf
    refine j_iload_n hE dX3_dealOnce_14 rfl 3 rfl ?_
    refine j_aload_n hE dX3_dealOnce_15 rfl 0 rfl ?_
    refine j_get (v := .ref (a 1)) hE lg_Luck_28 0 rfl 0 (wg_Luck_0 g a lu_z lu_y) rfl dX3_dealOnce_16 ?_
    refine j_alen (v := 6) (t0 := 1) hE 0 rfl 1 (wg_Luck_1 g a lu_z lu_y) rfl rfl dX3_dealOnce_19 ?_
    refine j_icmp_ge (tgt := 50) hE hf dX3_dealOnce_20 (by decide) (fun c5 hf => ?_) (fun c5 hf => ?_)
    · refine j_aload_n hE dX3_dealOnce_50 rfl 1 rfl ?_
      refine j_get (v := .ref (b 14)) hE lg_Luck_69 1 rfl 0 (wg_Road_0 g b ro_z) rfl dX3_dealOnce_51 ?_
      refine j_aload_n hE dX3_dealOnce_54 rfl 0 rfl ?_
      refine j_get (v := .ref (a 1)) hE lg_Luck_28 0 rfl 0 (wg_Luck_0 g a lu_z lu_y) rfl dX3_dealOnce_55 ?_
      refine j_iconst (v := 0) hE dX3_dealOnce_58 (by decide) ?_
      refine j_iald hE hf 0 rfl 1 (wg_Luck_1 g a lu_z lu_y) dX3_dealOnce_59 (fun hf => ?_)
      refine j_aload_n hE dX3_dealOnce_60 rfl 0 rfl ?_
      refine j_get (v := .ref (a 1)) hE lg_Luck_28 0 rfl 0 (wg_Luck_0 g a lu_z lu_y) rfl dX3_dealOnce_61 ?_
      refine j_iconst (v := 1) hE dX3_dealOnce_64 (by decide) ?_
      refine j_iald hE hf 0 rfl 1 (wg_Luck_1 g a lu_z lu_y) dX3_dealOnce_65 (fun hf => ?_)
      refine j_aload_n hE dX3_dealOnce_66 rfl 0 rfl ?_
      refine j_get (v := .ref (a 1)) hE lg_Luck_28 0 rfl 0 (wg_Luck_0 g a lu_z lu_y) rfl dX3_dealOnce_67 ?_
      refine j_iconst (v := 2) hE dX3_dealOnce_70 (by decide) ?_
      refine j_iald hE hf 0 rfl 1 (wg_Luck_1 g a lu_z lu_y) dX3_dealOnce_71 (fun hf => ?_)
      refine j_iconst (v := 0) hE dX3_dealOnce_72 (by decide) ?_
      obtain ⟨q9, hc10, hf⟩ := bind_of hf
      refine j_callV (ws' := ([n_Luck g a lu_z lu_y, n_Road g b ro_z, n_Kinds g (fun i => b (i + 8)) ki_z, n_Rule g (fun i => b (i + 14)) q9.1 q9.2.1, n_Notes g (fun i => b (i + 17)) no_z] : List va_W)) (As := [.int (lu_z 5 (Int32.toNatClampNeg 0)), .int (lu_z 5 (Int32.toNatClampNeg 1)), .int (lu_z 5 (Int32.toNatClampNeg 2)), .int 0]) (rest := []) (st2 := [.int q9.2.2]) hE (fun l => c_Rule_takes l g (fun i => b (i + 14)) ru_z ru_y (lu_z 5 (Int32.toNatClampNeg 0)) (lu_z 5 (Int32.toNatClampNeg 1)) (lu_z 5 (Int32.toNatClampNeg 2)) 0 q9 hc10) cd_X9_takes cv_X9_takes ml_Luck_73 rfl rfl rfl (wg_Rule_0 _ _ _ _) ⟨⟨Nat.le_of_ble_eq_true rfl, Nat.le_of_ble_eq_true rfl⟩, ⟨Nat.zero_le _, Nat.zero_le _⟩, rfl, rfl⟩ [3] rfl rfl rfl (Nat.le_of_ble_eq_true rfl) rfl dX3_dealOnce_73 ?_
      refine j_if_eq (tgt := 139) hE hf dX3_dealOnce_76 (by decide) (fun c11 hf => ?_) (fun c11 hf => ?_)
      · obtain rfl := Option.some.inj hf
        exact j_vret hE hq rfl rfl dX3_dealOnce_139
      · refine j_aload_n hE dX3_dealOnce_79 rfl 0 rfl ?_
        refine j_dup hE dX3_dealOnce_80 rfl ?_
        refine j_get (v := .int (lu_z 6 0)) hE lg_Luck_32 0 rfl 0 (wg_Luck_0 g a lu_z lu_y) rfl dX3_dealOnce_81 ?_
        refine j_iconst (v := 1) hE dX3_dealOnce_84 (by decide) ?_
        refine j_iadd hE dX3_dealOnce_85 ?_
        refine j_put (v := .int ((lu_z 6 0) + 1)) (ws' := ([n_Luck g a (up2 lu_z 6 0 ((lu_z 6 0) + 1)) lu_y, n_Road g b ro_z, n_Kinds g (fun i => b (i + 8)) ki_z, n_Rule g (fun i => b (i + 14)) q9.1 q9.2.1, n_Notes g (fun i => b (i + 17)) no_z] : List va_W)) hE lp_Luck_32 0 rfl 0 (wg_Luck_0 g a lu_z lu_y) rfl rfl (Nat.le_of_ble_eq_true rfl) (wp_Luck_6 g a lu_z lu_y ((lu_z 6 0) + 1)) rfl dX3_dealOnce_86 ?_
        refine j_aload_n hE dX3_dealOnce_89 rfl 0 rfl ?_
        refine j_dup hE dX3_dealOnce_90 rfl ?_
        refine j_get (v := .int (lu_z 7 0)) hE lg_Luck_35 0 rfl 0 (wg_Luck_0 g a (up2 lu_z 6 0 ((lu_z 6 0) + 1)) lu_y) rfl dX3_dealOnce_91 ?_
        refine j_aload_n hE dX3_dealOnce_94 rfl 0 rfl ?_
        refine j_get (v := .ref (a 1)) hE lg_Luck_28 0 rfl 0 (wg_Luck_0 g a (up2 lu_z 6 0 ((lu_z 6 0) + 1)) lu_y) rfl dX3_dealOnce_95 ?_
        refine j_iconst (v := 0) hE dX3_dealOnce_98 (by decide) ?_
        refine j_iald hE hf 0 rfl 1 (wg_Luck_1 g a (up2 lu_z 6 0 ((lu_z 6 0) + 1)) lu_y) dX3_dealOnce_99 (fun hf => ?_)
        refine j_st (st' := [.int (lu_z 5 (Int32.toNatClampNeg 0)), .int (lu_z 7 0), .ref (a 0)]) rfl ?_
        refine j_aload_n hE dX3_dealOnce_100 rfl 0 rfl ?_
        refine j_get (v := .ref (a 1)) hE lg_Luck_28 0 rfl 0 (wg_Luck_0 g a (up2 lu_z 6 0 ((lu_z 6 0) + 1)) lu_y) rfl dX3_dealOnce_101 ?_
        refine j_iconst (v := 1) hE dX3_dealOnce_104 (by decide) ?_
        refine j_iald hE hf 0 rfl 1 (wg_Luck_1 g a (up2 lu_z 6 0 ((lu_z 6 0) + 1)) lu_y) dX3_dealOnce_105 (fun hf => ?_)
        refine j_st (st' := [.int (lu_z 5 (Int32.toNatClampNeg 1)), .int (lu_z 5 (Int32.toNatClampNeg 0)), .int (lu_z 7 0), .ref (a 0)]) rfl ?_
        refine j_iadd hE dX3_dealOnce_106 ?_
        refine j_aload_n hE dX3_dealOnce_107 rfl 0 rfl ?_
        refine j_get (v := .ref (a 1)) hE lg_Luck_28 0 rfl 0 (wg_Luck_0 g a (up2 lu_z 6 0 ((lu_z 6 0) + 1)) lu_y) rfl dX3_dealOnce_108 ?_
        refine j_iconst (v := 2) hE dX3_dealOnce_111 (by decide) ?_
        refine j_iald hE hf 0 rfl 1 (wg_Luck_1 g a (up2 lu_z 6 0 ((lu_z 6 0) + 1)) lu_y) dX3_dealOnce_112 (fun hf => ?_)
        refine j_st (st' := [.int (lu_z 5 (Int32.toNatClampNeg 2)), .int ((lu_z 5 (Int32.toNatClampNeg 0)) + (lu_z 5 (Int32.toNatClampNeg 1))), .int (lu_z 7 0), .ref (a 0)]) rfl ?_
        refine j_iadd hE dX3_dealOnce_113 ?_
        refine j_aload_n hE dX3_dealOnce_114 rfl 0 rfl ?_
        refine j_get (v := .ref (a 1)) hE lg_Luck_28 0 rfl 0 (wg_Luck_0 g a (up2 lu_z 6 0 ((lu_z 6 0) + 1)) lu_y) rfl dX3_dealOnce_115 ?_
        refine j_iconst (v := 3) hE dX3_dealOnce_118 (by decide) ?_
        refine j_iald hE hf 0 rfl 1 (wg_Luck_1 g a (up2 lu_z 6 0 ((lu_z 6 0) + 1)) lu_y) dX3_dealOnce_119 (fun hf => ?_)
        refine j_st (st' := [.int (lu_z 5 (Int32.toNatClampNeg 3)), .int (((lu_z 5 (Int32.toNatClampNeg 0)) + (lu_z 5 (Int32.toNatClampNeg 1))) + (lu_z 5 (Int32.toNatClampNeg 2))), .int (lu_z 7 0), .ref (a 0)]) rfl ?_
        refine j_isub hE dX3_dealOnce_120 ?_
        refine j_aload_n hE dX3_dealOnce_121 rfl 0 rfl ?_
        refine j_get (v := .ref (a 1)) hE lg_Luck_28 0 rfl 0 (wg_Luck_0 g a (up2 lu_z 6 0 ((lu_z 6 0) + 1)) lu_y) rfl dX3_dealOnce_122 ?_
        refine j_iconst (v := 4) hE dX3_dealOnce_125 (by decide) ?_
        refine j_iald hE hf 0 rfl 1 (wg_Luck_1 g a (up2 lu_z 6 0 ((lu_z 6 0) + 1)) lu_y) dX3_dealOnce_126 (fun hf => ?_)
        refine j_st (st' := [.int (lu_z 5 (Int32.toNatClampNeg 4)), .int ((((lu_z 5 (Int32.toNatClampNeg 0)) + (lu_z 5 (Int32.toNatClampNeg 1))) + (lu_z 5 (Int32.toNatClampNeg 2))) - (lu_z 5 (Int32.toNatClampNeg 3))), .int (lu_z 7 0), .ref (a 0)]) rfl ?_
        refine j_isub hE dX3_dealOnce_127 ?_
        refine j_aload_n hE dX3_dealOnce_128 rfl 0 rfl ?_
        refine j_get (v := .ref (a 1)) hE lg_Luck_28 0 rfl 0 (wg_Luck_0 g a (up2 lu_z 6 0 ((lu_z 6 0) + 1)) lu_y) rfl dX3_dealOnce_129 ?_
        refine j_iconst (v := 5) hE dX3_dealOnce_132 (by decide) ?_
        refine j_iald hE hf 0 rfl 1 (wg_Luck_1 g a (up2 lu_z 6 0 ((lu_z 6 0) + 1)) lu_y) dX3_dealOnce_133 (fun hf => ?_)
        refine j_st (st' := [.int (lu_z 5 (Int32.toNatClampNeg 5)), .int (((((lu_z 5 (Int32.toNatClampNeg 0)) + (lu_z 5 (Int32.toNatClampNeg 1))) + (lu_z 5 (Int32.toNatClampNeg 2))) - (lu_z 5 (Int32.toNatClampNeg 3))) - (lu_z 5 (Int32.toNatClampNeg 4))), .int (lu_z 7 0), .ref (a 0)]) rfl ?_
        refine j_isub hE dX3_dealOnce_134 ?_
        refine j_iadd hE dX3_dealOnce_135 ?_
        refine j_put (v := .int ((lu_z 7 0) + ((((((lu_z 5 (Int32.toNatClampNeg 0)) + (lu_z 5 (Int32.toNatClampNeg 1))) + (lu_z 5 (Int32.toNatClampNeg 2))) - (lu_z 5 (Int32.toNatClampNeg 3))) - (lu_z 5 (Int32.toNatClampNeg 4))) - (lu_z 5 (Int32.toNatClampNeg 5))))) (ws' := ([n_Luck g a (up2 (up2 lu_z 6 0 ((lu_z 6 0) + 1)) 7 0 ((lu_z 7 0) + ((((((lu_z 5 (Int32.toNatClampNeg 0)) + (lu_z 5 (Int32.toNatClampNeg 1))) + (lu_z 5 (Int32.toNatClampNeg 2))) - (lu_z 5 (Int32.toNatClampNeg 3))) - (lu_z 5 (Int32.toNatClampNeg 4))) - (lu_z 5 (Int32.toNatClampNeg 5))))) lu_y, n_Road g b ro_z, n_Kinds g (fun i => b (i + 8)) ki_z, n_Rule g (fun i => b (i + 14)) q9.1 q9.2.1, n_Notes g (fun i => b (i + 17)) no_z] : List va_W)) hE lp_Luck_35 0 rfl 0 (wg_Luck_0 g a (up2 lu_z 6 0 ((lu_z 6 0) + 1)) lu_y) rfl rfl (Nat.le_of_ble_eq_true rfl) (wp_Luck_7 g a (up2 lu_z 6 0 ((lu_z 6 0) + 1)) lu_y ((lu_z 7 0) + ((((((lu_z 5 (Int32.toNatClampNeg 0)) + (lu_z 5 (Int32.toNatClampNeg 1))) + (lu_z 5 (Int32.toNatClampNeg 2))) - (lu_z 5 (Int32.toNatClampNeg 3))) - (lu_z 5 (Int32.toNatClampNeg 4))) - (lu_z 5 (Int32.toNatClampNeg 5))))) rfl dX3_dealOnce_136 ?_
        obtain rfl := Option.some.inj hf
        exact j_vret hE hq rfl rfl dX3_dealOnce_139
    · refine j_aload_n hE dX3_dealOnce_23 rfl 0 rfl ?_
      refine j_get (v := .ref (a 1)) hE lg_Luck_28 0 rfl 0 (wg_Luck_0 g a lu_z lu_y) rfl dX3_dealOnce_24 ?_
      refine j_iload_n hE dX3_dealOnce_27 rfl 3 rfl ?_
      refine j_aload_n hE dX3_dealOnce_28 rfl 1 rfl ?_
      refine j_get (v := .ref (b 8)) hE lg_Luck_46 1 rfl 0 (wg_Road_0 g b ro_z) rfl dX3_dealOnce_29 ?_
      refine j_iload_n hE dX3_dealOnce_32 rfl 2 rfl ?_
      refine j_aload_n hE dX3_dealOnce_33 rfl 0 rfl ?_
      obtain ⟨q18, hc19, hf⟩ := bind_of hf
      refine j_callV (ws' := ([n_Luck g a q18.1 lu_y, n_Road g b ro_z, n_Kinds g (fun i => b (i + 8)) ki_z, n_Rule g (fun i => b (i + 14)) ru_z ru_y, n_Notes g (fun i => b (i + 17)) no_z] : List va_W)) (As := []) (rest := [.int v2, .ref (b 8), .int v3, .ref (a 1)]) (st2 := [.int q18.2, .int v2, .ref (b 8), .int v3, .ref (a 1)]) hE (fun l => c_Luck_next l g a lu_z lu_y q18 hc19) cd_X3_next cv_X3_next ml_Luck_82 rfl rfl rfl (wg_Luck_0 _ _ _ _) ⟨⟨Nat.le_of_ble_eq_true rfl, Nat.le_of_ble_eq_true rfl⟩, ⟨Nat.zero_le _, Nat.zero_le _⟩, rfl, rfl⟩ [0] rfl rfl rfl (Nat.le_of_ble_eq_true rfl) rfl dX3_dealOnce_34 ?_
      refine j_bipush (v := 10) hE dX3_dealOnce_37 (by decide) ?_
      refine j_irem_c hE (by decide) dX3_dealOnce_39 ?_
      obtain ⟨q20, hc21, hf⟩ := bind_of hf
      refine j_callV (ws' := ([n_Luck g a q18.1 lu_y, n_Road g b ro_z, n_Kinds g (fun i => b (i + 8)) ki_z, n_Rule g (fun i => b (i + 14)) ru_z ru_y, n_Notes g (fun i => b (i + 17)) no_z] : List va_W)) (As := [.int v2, .int (q18.2 - q18.2 / 10 * 10)]) (rest := [.int v3, .ref (a 1)]) (st2 := [.int q20, .int v3, .ref (a 1)]) hE (fun l => c_Kinds_faceAt l g (fun i => b (i + 8)) ki_z v2 (q18.2 - q18.2 / 10 * 10) q20 hc21) cd_X2_faceAt cv_X2_faceAt ml_Luck_90 rfl rfl rfl (wg_Kinds_0 _ _ _) ⟨⟨Nat.le_of_ble_eq_true rfl, Nat.le_of_ble_eq_true rfl⟩, ⟨Nat.zero_le _, Nat.zero_le _⟩, rfl, rfl⟩ [2] rfl rfl rfl (Nat.le_of_ble_eq_true rfl) rfl dX3_dealOnce_40 ?_
      refine j_iast (ws' := ([n_Luck g a (up2 q18.1 5 (Int32.toNatClampNeg v3) q20) lu_y, n_Road g b ro_z, n_Kinds g (fun i => b (i + 8)) ki_z, n_Rule g (fun i => b (i + 14)) ru_z ru_y, n_Notes g (fun i => b (i + 17)) no_z] : List va_W)) hE hf 0 rfl 1 (wg_Luck_1 g a q18.1 lu_y) (wa_Luck_1 g a q18.1 lu_y (Int32.toNatClampNeg v3) q20) rfl dX3_dealOnce_43 (fun hf => ?_)
      refine j_iinc (v := (v3 + 1)) (lv' := [(3, .int (v3 + 1)), (0, .ref (a 0)), (1, .ref (b 0)), (2, .int v2)]) hE dX3_dealOnce_44 3 rfl rfl (by decide) rfl ?_
      refine j_goto (tgt := 14) hE dX3_dealOnce_47 (by decide) ?_
      exact j_sub [1, 2, 3, 0] rfl (ih (up2 q18.1 5 (Int32.toNatClampNeg v3) q20) ru_z ru_y v2 (v3 + 1) hf)
set_option maxRecDepth 100000 in
theorem c_Luck_dealOnce (l : Launch) (g : jG) (a : Nat → Nat) (b : Nat → Nat) (lu_z : jZ) (lu_y : jY) (ro_z : jZ) (ki_z : jZ) (ru_z : jZ) (ru_y : jY) (no_z : jZ)  (res : jZ × jZ × jY) (hf : f_Luck_dealOnce lu_z ki_z ru_z ru_y = some res) : MC l g yX3_dealOnce cX3_dealOnce 4 (none : Option Jvm.ClassFile.FieldType) rm_Luck_dealOnce [.ref (a 0), .ref (b 0)] (([n_Luck g a lu_z lu_y, n_Road g b ro_z, n_Kinds g (fun i => b (i + 8)) ki_z, n_Rule g (fun i => b (i + 14)) ru_z ru_y, n_Notes g (fun i => b (i + 17)) no_z] : List va_W)) none (([n_Luck g a res.1 lu_y, n_Road g b ro_z, n_Kinds g (fun i => b (i + 8)) ki_z, n_Rule g (fun i => b (i + 14)) res.2.1 res.2.2, n_Notes g (fun i => b (i + 17)) no_z] : List va_W)) 0 0 := by
  refine MC_of (own := RX3) (lv := [(0, .ref (a 0)), (1, .ref (b 0))]) (by decide) rfl (Nat.le_of_ble_eq_true rfl) rfl rfl (fun E hE hq => ?_)
  unfold f_Luck_dealOnce at hf
  refine j_aload_n hE dX3_dealOnce_0 rfl 1 rfl ?_
  refine j_get (v := .ref (b 8)) hE lg_Luck_46 1 rfl 0 (wg_Road_0 g b ro_z) rfl dX3_dealOnce_1 ?_
  refine j_aload_n hE dX3_dealOnce_4 rfl 0 rfl ?_
  obtain ⟨q1, hc2, hf⟩ := bind_of hf
  refine j_callV (ws' := ([n_Luck g a q1.1 lu_y, n_Road g b ro_z, n_Kinds g (fun i => b (i + 8)) ki_z, n_Rule g (fun i => b (i + 14)) ru_z ru_y, n_Notes g (fun i => b (i + 17)) no_z] : List va_W)) (As := []) (rest := [.ref (b 8)]) (st2 := [.int q1.2, .ref (b 8)]) hE (fun l => c_Luck_next l g a lu_z lu_y q1 hc2) cd_X3_next cv_X3_next ml_Luck_82 rfl rfl rfl (wg_Luck_0 _ _ _ _) ⟨⟨Nat.le_of_ble_eq_true rfl, Nat.le_of_ble_eq_true rfl⟩, ⟨Nat.zero_le _, Nat.zero_le _⟩, rfl, rfl⟩ [0] rfl rfl rfl (Nat.le_of_ble_eq_true rfl) rfl dX3_dealOnce_5 ?_
  obtain ⟨q3, hc4, hf⟩ := bind_of hf
  refine j_callS (ws' := ([n_Luck g a q1.1 lu_y, n_Road g b ro_z, n_Kinds g (fun i => b (i + 8)) ki_z, n_Rule g (fun i => b (i + 14)) ru_z ru_y, n_Notes g (fun i => b (i + 17)) no_z] : List va_W)) (As := [.ref (b 8), .int q1.2]) (rest := []) (st2 := [.int q3]) hE (fun l => c_Luck_kindBy l g (fun i => b (i + 8)) ki_z q1.2 q3 hc4) cd_X3_kindBy st_X3_kindBy ml_Luck_86 rfl rfl ⟨⟨Nat.le_of_ble_eq_true rfl, Nat.le_of_ble_eq_true rfl⟩, ⟨Nat.zero_le _, Nat.zero_le _⟩, rfl, rfl⟩ [2] rfl rfl rfl (Nat.le_of_ble_eq_true rfl) rfl dX3_dealOnce_8 ?_
  refine j_istore_n (lv' := [(2, .int q3), (0, .ref (a 0)), (1, .ref (b 0))]) hE dX3_dealOnce_11 rfl (by decide) rfl ?_
  refine j_iconst (v := 0) hE dX3_dealOnce_12 (by decide) ?_
  refine j_istore_n (lv' := [(3, .int 0), (2, .int q3), (0, .ref (a 0)), (1, .ref (b 0))]) hE dX3_dealOnce_13 rfl (by decide) rfl ?_
  exact j_sub [2, 3, 1, 0] rfl (j_Luck_dealOnce_14 E g a b lu_y ro_z ki_z no_z res hE hq FU q1.1 ru_z ru_y q3 0 hf)
def rm_Luck_deal : Room := { frames := 5, cells := 0, slots := 0, locals := 126 }
def f_Luck_deal_18 (ki_z : jZ) (x2 : Int32) (x3 : Int32)  : Nat → jZ → jZ → jY → Int32 → Option (jZ × jZ × jY)
  | 0, _, _, _, _ => none
  | n + 1, lu_z, ru_z, ru_y, v4 => (if x3 ≤ v4 then some (lu_z, ru_z, ru_y)
    else (if 500 ≤ v4 then some (lu_z, ru_z, ru_y)
    else (f_Luck_dealOnce lu_z ki_z ru_z ru_y).bind fun q3 => f_Luck_deal_18 ki_z x2 x3 n q3.1 q3.2.1 q3.2.2 (v4 + 1)))
def f_Luck_deal (lu_z : jZ) (ki_z : jZ) (ru_z : jZ) (ru_y : jY) (x2 : Int32) (x3 : Int32) : Option (jZ × jZ × jY) := f_Luck_deal_18 ki_z x2 x3 FU (up2 (up2 (up2 lu_z 4 0 x2) 6 0 0) 7 0 0) ru_z ru_y 0
set_option maxRecDepth 100000 in
theorem j_Luck_deal_18 (E : jT) (g : jG) (a : Nat → Nat) (b : Nat → Nat) (lu_y : jY) (ro_z : jZ) (ki_z : jZ) (no_z : jZ) (x2 : Int32) (x3 : Int32) (res : jZ × jZ × jY) (hE : jOk E g RX3 cX3_deal 5 (none : Option Jvm.ClassFile.FieldType) rm_Luck_deal) (hq : jEnd E g none (([n_Luck g a res.1 lu_y, n_Road g b ro_z, n_Kinds g (fun i => b (i + 8)) ki_z, n_Rule g (fun i => b (i + 14)) res.2.1 res.2.2, n_Notes g (fun i => b (i + 17)) no_z] : List va_W)) 0 0)  : ∀ (n : Nat) (lu_z : jZ) (ru_z : jZ) (ru_y : jY) (v4 : Int32), f_Luck_deal_18 ki_z x2 x3 n lu_z ru_z ru_y v4 = some res → J E g 0 0 (([n_Luck g a lu_z lu_y, n_Road g b ro_z, n_Kinds g (fun i => b (i + 8)) ki_z, n_Rule g (fun i => b (i + 14)) ru_z ru_y, n_Notes g (fun i => b (i + 17)) no_z] : List va_W)) [(0, .ref (a 0)), (1, .ref (b 0)), (3, .int x3), (4, .int v4)] 18 [] := by
  intro n
  induction n with
  | zero =>
    intro lu_z ru_z ru_y v4 hf
    rw [f_Luck_deal_18] at hf
    cases hf
  | succ n ih =>
    intro lu_z ru_z ru_y v4 hf
    rw [f_Luck_deal_18] at hf
    refine j_iload hE dX3_deal_18 3 rfl ?_
    refine j_iload_n hE dX3_deal_20 rfl 2 rfl ?_
    refine j_icmp_ge (tgt := 43) hE hf dX3_deal_21 (by decide) (fun c1 hf => ?_) (fun c1 hf => ?_)
    · obtain rfl := Option.some.inj hf
      exact j_vret hE hq rfl rfl dX3_deal_43
    · refine j_iload hE dX3_deal_24 3 rfl ?_
      refine j_sipush (v := 500) hE dX3_deal_26 (by decide) ?_
      refine j_icmp_ge (tgt := 43) hE hf dX3_deal_29 (by decide) (fun c2 hf => ?_) (fun c2 hf => ?_)
      · obtain rfl := Option.some.inj hf
        exact j_vret hE hq rfl rfl dX3_deal_43
      · refine j_aload_n hE dX3_deal_32 rfl 0 rfl ?_
        refine j_aload_n hE dX3_deal_33 rfl 1 rfl ?_
        obtain ⟨q3, hc4, hf⟩ := bind_of hf
        refine j_callV (ws' := ([n_Luck g a q3.1 lu_y, n_Road g b ro_z, n_Kinds g (fun i => b (i + 8)) ki_z, n_Rule g (fun i => b (i + 14)) q3.2.1 q3.2.2, n_Notes g (fun i => b (i + 17)) no_z] : List va_W)) (As := [.ref (b 0)]) (rest := []) (st2 := []) hE (fun l => c_Luck_dealOnce l g a b lu_z lu_y ro_z ki_z ru_z ru_y no_z q3 hc4) cd_X3_dealOnce cv_X3_dealOnce ml_Luck_78 rfl rfl rfl (wg_Luck_0 _ _ _ _) ⟨⟨Nat.le_of_ble_eq_true rfl, Nat.le_of_ble_eq_true rfl⟩, ⟨Nat.zero_le _, Nat.zero_le _⟩, rfl, rfl⟩ [0, 1, 2, 3, 4] rfl rfl rfl (Nat.le_of_ble_eq_true rfl) rfl dX3_deal_34 ?_
        refine j_iinc (v := (v4 + 1)) (lv' := [(4, .int (v4 + 1)), (0, .ref (a 0)), (1, .ref (b 0)), (3, .int x3)]) hE dX3_deal_37 3 rfl rfl (by decide) rfl ?_
        refine j_goto (tgt := 18) hE dX3_deal_40 (by decide) ?_
        exact j_sub [1, 2, 3, 0] rfl (ih q3.1 q3.2.1 q3.2.2 (v4 + 1) hf)
set_option maxRecDepth 100000 in
theorem c_Luck_deal (l : Launch) (g : jG) (a : Nat → Nat) (b : Nat → Nat) (lu_z : jZ) (lu_y : jY) (ro_z : jZ) (ki_z : jZ) (ru_z : jZ) (ru_y : jY) (no_z : jZ) (x2 : Int32) (x3 : Int32) (res : jZ × jZ × jY) (hf : f_Luck_deal lu_z ki_z ru_z ru_y x2 x3 = some res) : MC l g yX3_deal cX3_deal 5 (none : Option Jvm.ClassFile.FieldType) rm_Luck_deal [.ref (a 0), .ref (b 0), .int x2, .int x3] (([n_Luck g a lu_z lu_y, n_Road g b ro_z, n_Kinds g (fun i => b (i + 8)) ki_z, n_Rule g (fun i => b (i + 14)) ru_z ru_y, n_Notes g (fun i => b (i + 17)) no_z] : List va_W)) none (([n_Luck g a res.1 lu_y, n_Road g b ro_z, n_Kinds g (fun i => b (i + 8)) ki_z, n_Rule g (fun i => b (i + 14)) res.2.1 res.2.2, n_Notes g (fun i => b (i + 17)) no_z] : List va_W)) 0 0 := by
  refine MC_of (own := RX3) (lv := [(0, .ref (a 0)), (1, .ref (b 0)), (2, .int x2), (3, .int x3)]) (by decide) rfl (Nat.le_of_ble_eq_true rfl) rfl rfl (fun E hE hq => ?_)
  unfold f_Luck_deal at hf
  refine j_aload_n hE dX3_deal_0 rfl 0 rfl ?_
  refine j_iload_n hE dX3_deal_1 rfl 2 rfl ?_
  refine j_put (v := .int x2) (ws' := ([n_Luck g a (up2 lu_z 4 0 x2) lu_y, n_Road g b ro_z, n_Kinds g (fun i => b (i + 8)) ki_z, n_Rule g (fun i => b (i + 14)) ru_z ru_y, n_Notes g (fun i => b (i + 17)) no_z] : List va_W)) hE lp_Luck_25 0 rfl 0 (wg_Luck_0 g a lu_z lu_y) rfl rfl (Nat.le_of_ble_eq_true rfl) (wp_Luck_4 g a lu_z lu_y x2) rfl dX3_deal_2 ?_
  refine j_aload_n hE dX3_deal_5 rfl 0 rfl ?_
  refine j_iconst (v := 0) hE dX3_deal_6 (by decide) ?_
  refine j_put (v := .int 0) (ws' := ([n_Luck g a (up2 (up2 lu_z 4 0 x2) 6 0 0) lu_y, n_Road g b ro_z, n_Kinds g (fun i => b (i + 8)) ki_z, n_Rule g (fun i => b (i + 14)) ru_z ru_y, n_Notes g (fun i => b (i + 17)) no_z] : List va_W)) hE lp_Luck_32 0 rfl 0 (wg_Luck_0 g a (up2 lu_z 4 0 x2) lu_y) rfl rfl (Nat.le_of_ble_eq_true rfl) (wp_Luck_6 g a (up2 lu_z 4 0 x2) lu_y 0) rfl dX3_deal_7 ?_
  refine j_aload_n hE dX3_deal_10 rfl 0 rfl ?_
  refine j_iconst (v := 0) hE dX3_deal_11 (by decide) ?_
  refine j_put (v := .int 0) (ws' := ([n_Luck g a (up2 (up2 (up2 lu_z 4 0 x2) 6 0 0) 7 0 0) lu_y, n_Road g b ro_z, n_Kinds g (fun i => b (i + 8)) ki_z, n_Rule g (fun i => b (i + 14)) ru_z ru_y, n_Notes g (fun i => b (i + 17)) no_z] : List va_W)) hE lp_Luck_35 0 rfl 0 (wg_Luck_0 g a (up2 (up2 lu_z 4 0 x2) 6 0 0) lu_y) rfl rfl (Nat.le_of_ble_eq_true rfl) (wp_Luck_7 g a (up2 (up2 lu_z 4 0 x2) 6 0 0) lu_y 0) rfl dX3_deal_12 ?_
  refine j_iconst (v := 0) hE dX3_deal_15 (by decide) ?_
  refine j_istore (lv' := [(4, .int 0), (0, .ref (a 0)), (1, .ref (b 0)), (2, .int x2), (3, .int x3)]) hE dX3_deal_16 (by decide) rfl ?_
  exact j_sub [1, 2, 4, 0] rfl (j_Luck_deal_18 E g a b lu_y ro_z ki_z no_z x2 x3 res hE hq FU (up2 (up2 (up2 lu_z 4 0 x2) 6 0 0) 7 0 0) ru_z ru_y 0 hf)
def rm_House_keep : Room := { frames := 0, cells := 0, slots := 0, locals := 0 }
def f_House_keep_34  (x1 : Int32)  (ho_z : jZ) (v2 : Int32) (s0 : Int32) : Option (jZ × Int32) := (if (ho_z 0 0) = 0 then (bz v2).bind fun _ => some ((up2 (up2 (up2 ho_z 1 0 s0) 2 0 x1) 0 0 1), v2)
    else (if (ho_z 2 0) ≤ x1 then (bz v2).bind fun _ => some ((up2 (up2 (up2 ho_z 1 0 s0) 2 0 (ho_z 2 0)) 0 0 1), v2)
    else (bz v2).bind fun _ => some ((up2 (up2 (up2 ho_z 1 0 s0) 2 0 x1) 0 0 1), v2)))
def f_House_keep (ho_z : jZ) (x1 : Int32) : Option (jZ × Int32) := (if (ho_z 0 0) = 0 then f_House_keep_34 x1 ho_z 1 x1
    else (if x1 ≤ (ho_z 1 0) then f_House_keep_34 x1 ho_z 0 (ho_z 1 0)
    else f_House_keep_34 x1 ho_z 1 x1))
set_option maxRecDepth 100000 in
theorem j_House_keep_34 (E : jT) (g : jG) (a : Nat → Nat)  (x1 : Int32) (res : jZ × Int32) (hE : jOk E g RX1 cX1_keep 3 (some .boolean) rm_House_keep) (hq : jEnd E g (some (.int res.2)) (([n_House g a res.1] : List va_W)) 0 0)  (ho_z : jZ) (v2 : Int32) (s0 : Int32) (hf : f_House_keep_34 x1 ho_z v2 s0 = some res) : J E g 0 0 (([n_House g a ho_z] : List va_W)) [(0, .ref (a 0)), (1, .int x1), (2, .int v2)] 34 [.int s0, .ref (a 0)] := by
  unfold f_House_keep_34 at hf
  refine j_put (v := .int s0) (ws' := ([n_House g a (up2 ho_z 1 0 s0)] : List va_W)) hE lp_House_15 0 rfl 0 (wg_House_0 g a ho_z) rfl rfl (Nat.le_of_ble_eq_true rfl) (wp_House_1 g a ho_z s0) rfl dX1_keep_34 ?_
  refine j_aload_n hE dX1_keep_37 rfl 0 rfl ?_
  refine j_aload_n hE dX1_keep_38 rfl 0 rfl ?_
  refine j_get (v := .int (ho_z 0 0)) hE lg_House_9 0 rfl 0 (wg_House_0 g a (up2 ho_z 1 0 s0)) rfl dX1_keep_39 ?_
  refine j_if_eq (tgt := 53) hE hf dX1_keep_42 (by decide) (fun c3 hf => ?_) (fun c3 hf => ?_)
  · refine j_iload_n hE dX1_keep_53 rfl 1 rfl ?_
    refine j_goto (tgt := 61) hE dX1_keep_54 (by decide) ?_
    refine j_put (v := .int x1) (ws' := ([n_House g a (up2 (up2 ho_z 1 0 s0) 2 0 x1)] : List va_W)) hE lp_House_19 0 rfl 0 (wg_House_0 g a (up2 ho_z 1 0 s0)) rfl rfl (Nat.le_of_ble_eq_true rfl) (wp_House_2 g a (up2 ho_z 1 0 s0) x1) rfl dX1_keep_61 ?_
    refine j_aload_n hE dX1_keep_64 rfl 0 rfl ?_
    refine j_iconst (v := 1) hE dX1_keep_65 (by decide) ?_
    refine j_put (v := .int 1) (ws' := ([n_House g a (up2 (up2 (up2 ho_z 1 0 s0) 2 0 x1) 0 0 1)] : List va_W)) hE lp_House_9 0 rfl 0 (wg_House_0 g a (up2 (up2 ho_z 1 0 s0) 2 0 x1)) (by decide +kernel) (by decide +kernel) (Nat.le_of_ble_eq_true rfl) (wp_House_0 g a (up2 (up2 ho_z 1 0 s0) 2 0 x1) 1) rfl dX1_keep_66 ?_
    refine j_iload_n hE dX1_keep_69 rfl 2 rfl ?_
    obtain ⟨b4, hf⟩ := bz_of hf
    obtain rfl := Option.some.inj hf
    exact j_zret_c hE b4 hq rfl rfl dX1_keep_70
  · refine j_iload_n hE dX1_keep_45 rfl 1 rfl ?_
    refine j_aload_n hE dX1_keep_46 rfl 0 rfl ?_
    refine j_get (v := .int (ho_z 2 0)) hE lg_House_19 0 rfl 0 (wg_House_0 g a (up2 ho_z 1 0 s0)) rfl dX1_keep_47 ?_
    refine j_icmp_ge (tgt := 57) hE hf dX1_keep_50 (by decide) (fun c5 hf => ?_) (fun c5 hf => ?_)
    · refine j_aload_n hE dX1_keep_57 rfl 0 rfl ?_
      refine j_get (v := .int (ho_z 2 0)) hE lg_House_19 0 rfl 0 (wg_House_0 g a (up2 ho_z 1 0 s0)) rfl dX1_keep_58 ?_
      refine j_put (v := .int (ho_z 2 0)) (ws' := ([n_House g a (up2 (up2 ho_z 1 0 s0) 2 0 (ho_z 2 0))] : List va_W)) hE lp_House_19 0 rfl 0 (wg_House_0 g a (up2 ho_z 1 0 s0)) rfl rfl (Nat.le_of_ble_eq_true rfl) (wp_House_2 g a (up2 ho_z 1 0 s0) (ho_z 2 0)) rfl dX1_keep_61 ?_
      refine j_aload_n hE dX1_keep_64 rfl 0 rfl ?_
      refine j_iconst (v := 1) hE dX1_keep_65 (by decide) ?_
      refine j_put (v := .int 1) (ws' := ([n_House g a (up2 (up2 (up2 ho_z 1 0 s0) 2 0 (ho_z 2 0)) 0 0 1)] : List va_W)) hE lp_House_9 0 rfl 0 (wg_House_0 g a (up2 (up2 ho_z 1 0 s0) 2 0 (ho_z 2 0))) (by decide +kernel) (by decide +kernel) (Nat.le_of_ble_eq_true rfl) (wp_House_0 g a (up2 (up2 ho_z 1 0 s0) 2 0 (ho_z 2 0)) 1) rfl dX1_keep_66 ?_
      refine j_iload_n hE dX1_keep_69 rfl 2 rfl ?_
      obtain ⟨b6, hf⟩ := bz_of hf
      obtain rfl := Option.some.inj hf
      exact j_zret_c hE b6 hq rfl rfl dX1_keep_70
    · refine j_iload_n hE dX1_keep_53 rfl 1 rfl ?_
      refine j_goto (tgt := 61) hE dX1_keep_54 (by decide) ?_
      refine j_put (v := .int x1) (ws' := ([n_House g a (up2 (up2 ho_z 1 0 s0) 2 0 x1)] : List va_W)) hE lp_House_19 0 rfl 0 (wg_House_0 g a (up2 ho_z 1 0 s0)) rfl rfl (Nat.le_of_ble_eq_true rfl) (wp_House_2 g a (up2 ho_z 1 0 s0) x1) rfl dX1_keep_61 ?_
      refine j_aload_n hE dX1_keep_64 rfl 0 rfl ?_
      refine j_iconst (v := 1) hE dX1_keep_65 (by decide) ?_
      refine j_put (v := .int 1) (ws' := ([n_House g a (up2 (up2 (up2 ho_z 1 0 s0) 2 0 x1) 0 0 1)] : List va_W)) hE lp_House_9 0 rfl 0 (wg_House_0 g a (up2 (up2 ho_z 1 0 s0) 2 0 x1)) (by decide +kernel) (by decide +kernel) (Nat.le_of_ble_eq_true rfl) (wp_House_0 g a (up2 (up2 ho_z 1 0 s0) 2 0 x1) 1) rfl dX1_keep_66 ?_
      refine j_iload_n hE dX1_keep_69 rfl 2 rfl ?_
      obtain ⟨b7, hf⟩ := bz_of hf
      obtain rfl := Option.some.inj hf
      exact j_zret_c hE b7 hq rfl rfl dX1_keep_70
set_option maxRecDepth 100000 in
theorem c_House_keep (l : Launch) (g : jG) (a : Nat → Nat) (ho_z : jZ) (x1 : Int32) (res : jZ × Int32) (hf : f_House_keep ho_z x1 = some res) : MC l g yX1_keep cX1_keep 3 (some .boolean) rm_House_keep [.ref (a 0), .int x1] (([n_House g a ho_z] : List va_W)) (some (.int res.2)) (([n_House g a res.1] : List va_W)) 0 0 := by
  refine MC_of (own := RX1) (lv := [(0, .ref (a 0)), (1, .int x1)]) (by decide) rfl (Nat.le_of_ble_eq_true rfl) rfl rfl (fun E hE hq => ?_)
  unfold f_House_keep at hf
  refine j_aload_n hE dX1_keep_0 rfl 0 rfl ?_
  refine j_get (v := .int (ho_z 0 0)) hE lg_House_9 0 rfl 0 (wg_House_0 g a ho_z) rfl dX1_keep_1 ?_
  refine j_if_eq (tgt := 15) hE hf dX1_keep_4 (by decide) (fun c1 hf => ?_) (fun c1 hf => ?_)
  · refine j_iconst (v := 1) hE dX1_keep_15 (by decide) ?_
    refine j_goto (tgt := 20) hE dX1_keep_16 (by decide) ?_
    refine j_istore_n (lv' := [(2, .int 1), (0, .ref (a 0)), (1, .int x1)]) hE dX1_keep_20 rfl (by decide) rfl ?_
    refine j_aload_n hE dX1_keep_21 rfl 1 rfl ?_
    refine j_iload_n hE dX1_keep_22 rfl 0 rfl ?_
    refine j_if_eq_f (tgt := 30) hE (by decide) dX1_keep_23 (by decide) ?_
    refine j_iload_n hE dX1_keep_26 rfl 2 rfl ?_
    refine j_goto (tgt := 34) hE dX1_keep_27 (by decide) ?_
    exact j_sub [1, 2, 0] rfl (j_House_keep_34 E g a x1 res hE hq ho_z 1 x1 hf)
  · refine j_iload_n hE dX1_keep_7 rfl 1 rfl ?_
    refine j_aload_n hE dX1_keep_8 rfl 0 rfl ?_
    refine j_get (v := .int (ho_z 1 0)) hE lg_House_15 0 rfl 0 (wg_House_0 g a ho_z) rfl dX1_keep_9 ?_
    refine j_icmp_le (tgt := 19) hE hf dX1_keep_12 (by decide) (fun c2 hf => ?_) (fun c2 hf => ?_)
    · refine j_iconst (v := 0) hE dX1_keep_19 (by decide) ?_
      refine j_istore_n (lv' := [(2, .int 0), (0, .ref (a 0)), (1, .int x1)]) hE dX1_keep_20 rfl (by decide) rfl ?_
      refine j_aload_n hE dX1_keep_21 rfl 1 rfl ?_
      refine j_iload_n hE dX1_keep_22 rfl 0 rfl ?_
      refine j_if_eq_t (tgt := 30) hE (by decide) dX1_keep_23 (by decide) ?_
      refine j_aload_n hE dX1_keep_30 rfl 1 rfl ?_
      refine j_get (v := .int (ho_z 1 0)) hE lg_House_15 0 rfl 0 (wg_House_0 g a ho_z) rfl dX1_keep_31 ?_
      exact j_sub [1, 2, 0] rfl (j_House_keep_34 E g a x1 res hE hq ho_z 0 (ho_z 1 0) hf)
    · refine j_iconst (v := 1) hE dX1_keep_15 (by decide) ?_
      refine j_goto (tgt := 20) hE dX1_keep_16 (by decide) ?_
      refine j_istore_n (lv' := [(2, .int 1), (0, .ref (a 0)), (1, .int x1)]) hE dX1_keep_20 rfl (by decide) rfl ?_
      refine j_aload_n hE dX1_keep_21 rfl 1 rfl ?_
      refine j_iload_n hE dX1_keep_22 rfl 0 rfl ?_
      refine j_if_eq_f (tgt := 30) hE (by decide) dX1_keep_23 (by decide) ?_
      refine j_iload_n hE dX1_keep_26 rfl 2 rfl ?_
      refine j_goto (tgt := 34) hE dX1_keep_27 (by decide) ?_
      exact j_sub [1, 2, 0] rfl (j_House_keep_34 E g a x1 res hE hq ho_z 1 x1 hf)
def rm_House_seek : Room := { frames := 2, cells := 0, slots := 0, locals := 49 }
def f_House_seek_40 (no_z : jZ) (x2 : Int32) (x3 : Int32) (k8 : jZ → Int32 → Option (jZ × Int32)) (k21 : jZ → Int32 → Int32 → Option (jZ × Int32)) : Nat → jZ → Int32 → Int32 → Int32 → Option (jZ × Int32)
  | 0, _, _, _, _ => none
  | n + 1, ho_z, v4, v5, v6 => (if 9 < (v6 + v4) then k21 ho_z v4 (v5 + 1)
    else (f_Notes_sumOf no_z x2 v5 v4).bind fun q8 => (f_Notes_sumOf no_z x2 v6 v4).bind fun q10 => (if q8 ≤ 0 then f_House_seek_40 no_z x2 x3 k8 k21 n ho_z v4 v5 (v6 + 1)
    else (if q10 = (-1) then f_House_seek_40 no_z x2 x3 k8 k21 n ho_z v4 v5 (v6 + 1)
    else (nz q8).bind fun _ => (f_House_keep ho_z ((100 * (q8 - q10)) / q8)).bind fun q14 => (if q14.2 = 0 then f_House_seek_40 no_z x2 x3 k8 k21 n q14.1 v4 v5 (v6 + 1)
    else f_House_seek_40 no_z x2 x3 k8 k21 n (up2 (up2 (up2 q14.1 3 0 v4) 4 0 v5) 5 0 v6) v4 v5 (v6 + 1)))))
def f_House_seek_21 (no_z : jZ) (x2 : Int32) (x3 : Int32) (k8 : jZ → Int32 → Option (jZ × Int32)) : Nat → jZ → Int32 → Int32 → Option (jZ × Int32)
  | 0, _, _, _ => none
  | n + 1, ho_z, v4, v5 => (if x3 < (v5 + v4) then k8 ho_z (v4 + 1)
    else (if 9 ≤ v5 then k8 ho_z (v4 + 1)
    else f_House_seek_40 no_z x2 x3 k8 (fun ho_z v4 v5 => f_House_seek_21 no_z x2 x3 k8 n ho_z v4 v5) FU ho_z v4 v5 x3))
def f_House_seek_8 (no_z : jZ) (x2 : Int32) (x3 : Int32)  : Nat → jZ → Int32 → Option (jZ × Int32)
  | 0, _, _ => none
  | n + 1, ho_z, v4 => (if 3 < v4 then (bz (ho_z 0 0)).bind fun _ => some (ho_z, (ho_z 0 0))
    else (if x3 ≤ 0 then (bz (ho_z 0 0)).bind fun _ => some (ho_z, (ho_z 0 0))
    else f_House_seek_21 no_z x2 x3 (fun ho_z v4 => f_House_seek_8 no_z x2 x3 n ho_z v4) FU ho_z v4 0))
def f_House_seek (ho_z : jZ) (no_z : jZ) (x2 : Int32) (x3 : Int32) : Option (jZ × Int32) := f_House_seek_8 no_z x2 x3 FU (up2 ho_z 0 0 0) 1
set_option maxRecDepth 100000 in
theorem j_House_seek_40 (E : jT) (g : jG) (a : Nat → Nat) (b : Nat → Nat) (no_z : jZ) (x2 : Int32) (x3 : Int32) (res : jZ × Int32) (hE : jOk E g RX1 cX1_seek 9 (some .boolean) rm_House_seek) (hq : jEnd E g (some (.int res.2)) (([n_House g a res.1, n_Notes g b no_z] : List va_W)) 0 0) (k8 : jZ → Int32 → Option (jZ × Int32)) (hk8 : ∀ (ho_z : jZ) (v4 : Int32), k8 ho_z v4 = some res → J E g 0 0 (([n_House g a ho_z, n_Notes g b no_z] : List va_W)) [(0, .ref (a 0)), (1, .ref (b 0)), (2, .int x2), (3, .int x3), (4, .int v4)] 8 []) (k21 : jZ → Int32 → Int32 → Option (jZ × Int32)) (hk21 : ∀ (ho_z : jZ) (v4 : Int32) (v5 : Int32), k21 ho_z v4 v5 = some res → J E g 0 0 (([n_House g a ho_z, n_Notes g b no_z] : List va_W)) [(0, .ref (a 0)), (1, .ref (b 0)), (2, .int x2), (3, .int x3), (4, .int v4), (5, .int v5)] 21 []) : ∀ (n : Nat) (ho_z : jZ) (v4 : Int32) (v5 : Int32) (v6 : Int32), f_House_seek_40 no_z x2 x3 k8 k21 n ho_z v4 v5 v6 = some res → J E g 0 0 (([n_House g a ho_z, n_Notes g b no_z] : List va_W)) [(0, .ref (a 0)), (1, .ref (b 0)), (2, .int x2), (3, .int x3), (4, .int v4), (5, .int v5), (6, .int v6)] 40 [] := by
  intro n
  induction n with
  | zero =>
    intro ho_z v4 v5 v6 hf
    rw [f_House_seek_40] at hf
    cases hf
  | succ n ih =>
    intro ho_z v4 v5 v6 hf
    rw [f_House_seek_40] at hf
    refine j_iload hE dX1_seek_40 6 rfl ?_
    refine j_iload hE dX1_seek_42 4 rfl ?_
    refine j_iadd hE dX1_seek_44 ?_
    refine j_bipush (v := 9) hE dX1_seek_45 (by decide) ?_
    refine j_icmp_gt (tgt := 125) hE hf dX1_seek_47 (by decide) (fun c7 hf => ?_) (fun c7 hf => ?_)
    · refine j_iinc (v := (v5 + 1)) (lv' := [(5, .int (v5 + 1)), (0, .ref (a 0)), (1, .ref (b 0)), (2, .int x2), (3, .int x3), (4, .int v4), (6, .int v6)]) hE dX1_seek_125 5 rfl rfl (by decide) rfl ?_
      refine j_goto (tgt := 21) hE dX1_seek_128 (by decide) ?_
      exact j_sub [1, 2, 3, 4, 5, 0] rfl (hk21 ho_z v4 (v5 + 1) hf)
    · refine j_aload_n hE dX1_seek_50 rfl 1 rfl ?_
      refine j_iload_n hE dX1_seek_51 rfl 2 rfl ?_
      refine j_iload hE dX1_seek_52 5 rfl ?_
      refine j_iload hE dX1_seek_54 4 rfl ?_
      obtain ⟨q8, hc9, hf⟩ := bind_of hf
      refine j_callV (ws' := ([n_House g a ho_z, n_Notes g b no_z] : List va_W)) (As := [.int x2, .int v5, .int v4]) (rest := []) (st2 := [.int q8]) hE (fun l => c_Notes_sumOf l g b no_z x2 v5 v4 q8 hc9) cd_X4_sumOf cv_X4_sumOf ml_House_31 rfl rfl rfl (wg_Notes_0 _ _ _) ⟨⟨Nat.le_of_ble_eq_true rfl, Nat.le_of_ble_eq_true rfl⟩, ⟨Nat.zero_le _, Nat.zero_le _⟩, rfl, rfl⟩ [1] rfl rfl rfl (Nat.le_of_ble_eq_true rfl) rfl dX1_seek_56 ?_
      refine j_istore (lv' := [(7, .int q8), (0, .ref (a 0)), (1, .ref (b 0)), (2, .int x2), (3, .int x3), (4, .int v4), (5, .int v5), (6, .int v6)]) hE dX1_seek_59 (by decide) rfl ?_
      refine j_aload_n hE dX1_seek_61 rfl 2 rfl ?_
      refine j_iload_n hE dX1_seek_62 rfl 3 rfl ?_
      refine j_iload hE dX1_seek_63 7 rfl ?_
      refine j_iload hE dX1_seek_65 5 rfl ?_
      obtain ⟨q10, hc11, hf⟩ := bind_of hf
      refine j_callV (ws' := ([n_House g a ho_z, n_Notes g b no_z] : List va_W)) (As := [.int x2, .int v6, .int v4]) (rest := []) (st2 := [.int q10]) hE (fun l => c_Notes_sumOf l g b no_z x2 v6 v4 q10 hc11) cd_X4_sumOf cv_X4_sumOf ml_House_31 rfl rfl rfl (wg_Notes_0 _ _ _) ⟨⟨Nat.le_of_ble_eq_true rfl, Nat.le_of_ble_eq_true rfl⟩, ⟨Nat.zero_le _, Nat.zero_le _⟩, rfl, rfl⟩ [1] rfl rfl rfl (Nat.le_of_ble_eq_true rfl) rfl dX1_seek_67 ?_
      refine j_istore (lv' := [(8, .int q10), (7, .int q8), (0, .ref (a 0)), (1, .ref (b 0)), (2, .int x2), (3, .int x3), (4, .int v4), (5, .int v5), (6, .int v6)]) hE dX1_seek_70 (by decide) rfl ?_
      refine j_iload hE dX1_seek_72 1 rfl ?_
      refine j_if_le (tgt := 119) hE hf dX1_seek_74 (by decide) (fun c12 hf => ?_) (fun c12 hf => ?_)
      · refine j_iinc (v := (v6 + 1)) (lv' := [(6, .int (v6 + 1)), (8, .int q10), (7, .int q8), (0, .ref (a 0)), (1, .ref (b 0)), (2, .int x2), (3, .int x3), (4, .int v4), (5, .int v5)]) hE dX1_seek_119 8 rfl rfl (by decide) rfl ?_
        refine j_goto (tgt := 40) hE dX1_seek_122 (by decide) ?_
        exact j_sub [3, 4, 5, 6, 7, 8, 0] rfl (ih ho_z v4 v5 (v6 + 1) hf)
      · refine j_iload hE dX1_seek_77 0 rfl ?_
        refine j_iconst (v := (-1)) hE dX1_seek_79 (by decide) ?_
        refine j_icmp_eq (tgt := 119) hE hf dX1_seek_80 (by decide) (fun c13 hf => ?_) (fun c13 hf => ?_)
        · refine j_iinc (v := (v6 + 1)) (lv' := [(6, .int (v6 + 1)), (8, .int q10), (7, .int q8), (0, .ref (a 0)), (1, .ref (b 0)), (2, .int x2), (3, .int x3), (4, .int v4), (5, .int v5)]) hE dX1_seek_119 8 rfl rfl (by decide) rfl ?_
          refine j_goto (tgt := 40) hE dX1_seek_122 (by decide) ?_
          exact j_sub [3, 4, 5, 6, 7, 8, 0] rfl (ih ho_z v4 v5 (v6 + 1) hf)
        · refine j_aload_n hE dX1_seek_83 rfl 2 rfl ?_
          refine j_bipush (v := 100) hE dX1_seek_84 (by decide) ?_
          refine j_iload hE dX1_seek_86 1 rfl ?_
          refine j_iload hE dX1_seek_88 0 rfl ?_
          refine j_isub hE dX1_seek_90 ?_
          refine j_imul hE dX1_seek_91 ?_
          refine j_iload hE dX1_seek_92 1 rfl ?_
          refine j_idiv hE hf dX1_seek_94 (fun hf => ?_)
          obtain ⟨q14, hc15, hf⟩ := bind_of hf
          refine j_callV (ws' := ([n_House g a q14.1, n_Notes g b no_z] : List va_W)) (As := [.int ((100 * (q8 - q10)) / q8)]) (rest := []) (st2 := [.int q14.2]) hE (fun l => c_House_keep l g a ho_z ((100 * (q8 - q10)) / q8) q14 hc15) cd_X1_keep cv_X1_keep ml_House_37 rfl rfl rfl (wg_House_0 _ _ _) ⟨⟨Nat.le_of_ble_eq_true rfl, Nat.le_of_ble_eq_true rfl⟩, ⟨Nat.zero_le _, Nat.zero_le _⟩, rfl, rfl⟩ [0] rfl rfl rfl (Nat.le_of_ble_eq_true rfl) rfl dX1_seek_95 ?_
          refine j_if_eq (tgt := 119) hE hf dX1_seek_98 (by decide) (fun c16 hf => ?_) (fun c16 hf => ?_)
          · refine j_iinc (v := (v6 + 1)) (lv' := [(6, .int (v6 + 1)), (8, .int q10), (7, .int q8), (0, .ref (a 0)), (1, .ref (b 0)), (2, .int x2), (3, .int x3), (4, .int v4), (5, .int v5)]) hE dX1_seek_119 8 rfl rfl (by decide) rfl ?_
            refine j_goto (tgt := 40) hE dX1_seek_122 (by decide) ?_
            exact j_sub [3, 4, 5, 6, 7, 8, 0] rfl (ih q14.1 v4 v5 (v6 + 1) hf)
          · refine j_aload_n hE dX1_seek_101 rfl 2 rfl ?_
            refine j_iload hE dX1_seek_102 6 rfl ?_
            refine j_put (v := .int v4) (ws' := ([n_House g a (up2 q14.1 3 0 v4), n_Notes g b no_z] : List va_W)) hE lp_House_22 0 rfl 0 (wg_House_0 g a q14.1) rfl rfl (Nat.le_of_ble_eq_true rfl) (wp_House_3 g a q14.1 v4) rfl dX1_seek_104 ?_
            refine j_aload_n hE dX1_seek_107 rfl 2 rfl ?_
            refine j_iload hE dX1_seek_108 7 rfl ?_
            refine j_put (v := .int v5) (ws' := ([n_House g a (up2 (up2 q14.1 3 0 v4) 4 0 v5), n_Notes g b no_z] : List va_W)) hE lp_House_25 0 rfl 0 (wg_House_0 g a (up2 q14.1 3 0 v4)) rfl rfl (Nat.le_of_ble_eq_true rfl) (wp_House_4 g a (up2 q14.1 3 0 v4) v5) rfl dX1_seek_110 ?_
            refine j_aload_n hE dX1_seek_113 rfl 2 rfl ?_
            refine j_iload hE dX1_seek_114 8 rfl ?_
            refine j_put (v := .int v6) (ws' := ([n_House g a (up2 (up2 (up2 q14.1 3 0 v4) 4 0 v5) 5 0 v6), n_Notes g b no_z] : List va_W)) hE lp_House_28 0 rfl 0 (wg_House_0 g a (up2 (up2 q14.1 3 0 v4) 4 0 v5)) rfl rfl (Nat.le_of_ble_eq_true rfl) (wp_House_5 g a (up2 (up2 q14.1 3 0 v4) 4 0 v5) v6) rfl dX1_seek_116 ?_
            refine j_iinc (v := (v6 + 1)) (lv' := [(6, .int (v6 + 1)), (8, .int q10), (7, .int q8), (0, .ref (a 0)), (1, .ref (b 0)), (2, .int x2), (3, .int x3), (4, .int v4), (5, .int v5)]) hE dX1_seek_119 8 rfl rfl (by decide) rfl ?_
            refine j_goto (tgt := 40) hE dX1_seek_122 (by decide) ?_
            exact j_sub [3, 4, 5, 6, 7, 8, 0] rfl (ih (up2 (up2 (up2 q14.1 3 0 v4) 4 0 v5) 5 0 v6) v4 v5 (v6 + 1) hf)
set_option maxRecDepth 100000 in
theorem j_House_seek_21 (E : jT) (g : jG) (a : Nat → Nat) (b : Nat → Nat) (no_z : jZ) (x2 : Int32) (x3 : Int32) (res : jZ × Int32) (hE : jOk E g RX1 cX1_seek 9 (some .boolean) rm_House_seek) (hq : jEnd E g (some (.int res.2)) (([n_House g a res.1, n_Notes g b no_z] : List va_W)) 0 0) (k8 : jZ → Int32 → Option (jZ × Int32)) (hk8 : ∀ (ho_z : jZ) (v4 : Int32), k8 ho_z v4 = some res → J E g 0 0 (([n_House g a ho_z, n_Notes g b no_z] : List va_W)) [(0, .ref (a 0)), (1, .ref (b 0)), (2, .int x2), (3, .int x3), (4, .int v4)] 8 []) : ∀ (n : Nat) (ho_z : jZ) (v4 : Int32) (v5 : Int32), f_House_seek_21 no_z x2 x3 k8 n ho_z v4 v5 = some res → J E g 0 0 (([n_House g a ho_z, n_Notes g b no_z] : List va_W)) [(0, .ref (a 0)), (1, .ref (b 0)), (2, .int x2), (3, .int x3), (4, .int v4), (5, .int v5)] 21 [] := by
  intro n
  induction n with
  | zero =>
    intro ho_z v4 v5 hf
    rw [f_House_seek_21] at hf
    cases hf
  | succ n ih =>
    intro ho_z v4 v5 hf
    rw [f_House_seek_21] at hf
    refine j_iload hE dX1_seek_21 5 rfl ?_
    refine j_iload hE dX1_seek_23 4 rfl ?_
    refine j_iadd hE dX1_seek_25 ?_
    refine j_iload_n hE dX1_seek_26 rfl 3 rfl ?_
    refine j_icmp_gt (tgt := 131) hE hf dX1_seek_27 (by decide) (fun c5 hf => ?_) (fun c5 hf => ?_)
    · refine j_iinc (v := (v4 + 1)) (lv' := [(4, .int (v4 + 1)), (0, .ref (a 0)), (1, .ref (b 0)), (2, .int x2), (3, .int x3), (5, .int v5)]) hE dX1_seek_131 4 rfl rfl (by decide) rfl ?_
      refine j_goto (tgt := 8) hE dX1_seek_134 (by decide) ?_
      exact j_sub [1, 2, 3, 4, 0] rfl (hk8 ho_z (v4 + 1) hf)
    · refine j_iload hE dX1_seek_30 5 rfl ?_
      refine j_bipush (v := 9) hE dX1_seek_32 (by decide) ?_
      refine j_icmp_ge (tgt := 131) hE hf dX1_seek_34 (by decide) (fun c6 hf => ?_) (fun c6 hf => ?_)
      · refine j_iinc (v := (v4 + 1)) (lv' := [(4, .int (v4 + 1)), (0, .ref (a 0)), (1, .ref (b 0)), (2, .int x2), (3, .int x3), (5, .int v5)]) hE dX1_seek_131 4 rfl rfl (by decide) rfl ?_
        refine j_goto (tgt := 8) hE dX1_seek_134 (by decide) ?_
        exact j_sub [1, 2, 3, 4, 0] rfl (hk8 ho_z (v4 + 1) hf)
      · refine j_iload_n hE dX1_seek_37 rfl 3 rfl ?_
        refine j_istore (lv' := [(6, .int x3), (0, .ref (a 0)), (1, .ref (b 0)), (2, .int x2), (3, .int x3), (4, .int v4), (5, .int v5)]) hE dX1_seek_38 (by decide) rfl ?_
        exact j_sub [1, 2, 3, 4, 5, 6, 0] rfl (j_House_seek_40 E g a b no_z x2 x3 res hE hq k8 hk8 (fun ho_z v4 v5 => f_House_seek_21 no_z x2 x3 k8 n ho_z v4 v5) (fun ho_z v4 v5 hf => ih ho_z v4 v5 hf) FU ho_z v4 v5 x3 hf)
set_option maxRecDepth 100000 in
theorem j_House_seek_8 (E : jT) (g : jG) (a : Nat → Nat) (b : Nat → Nat) (no_z : jZ) (x2 : Int32) (x3 : Int32) (res : jZ × Int32) (hE : jOk E g RX1 cX1_seek 9 (some .boolean) rm_House_seek) (hq : jEnd E g (some (.int res.2)) (([n_House g a res.1, n_Notes g b no_z] : List va_W)) 0 0)  : ∀ (n : Nat) (ho_z : jZ) (v4 : Int32), f_House_seek_8 no_z x2 x3 n ho_z v4 = some res → J E g 0 0 (([n_House g a ho_z, n_Notes g b no_z] : List va_W)) [(0, .ref (a 0)), (1, .ref (b 0)), (2, .int x2), (3, .int x3), (4, .int v4)] 8 [] := by
  intro n
  induction n with
  | zero =>
    intro ho_z v4 hf
    rw [f_House_seek_8] at hf
    cases hf
  | succ n ih =>
    intro ho_z v4 hf
    rw [f_House_seek_8] at hf
    refine j_iload hE dX1_seek_8 4 rfl ?_
    refine j_iconst (v := 3) hE dX1_seek_10 (by decide) ?_
    refine j_icmp_gt (tgt := 137) hE hf dX1_seek_11 (by decide) (fun c1 hf => ?_) (fun c1 hf => ?_)
    · refine j_aload_n hE dX1_seek_137 rfl 0 rfl ?_
      refine j_get (v := .int (ho_z 0 0)) hE lg_House_9 0 rfl 0 (wg_House_0 g a ho_z) rfl dX1_seek_138 ?_
      obtain ⟨b2, hf⟩ := bz_of hf
      obtain rfl := Option.some.inj hf
      exact j_zret_c hE b2 hq rfl rfl dX1_seek_141
    · refine j_iload_n hE dX1_seek_14 rfl 3 rfl ?_
      refine j_if_le (tgt := 137) hE hf dX1_seek_15 (by decide) (fun c3 hf => ?_) (fun c3 hf => ?_)
      · refine j_aload_n hE dX1_seek_137 rfl 0 rfl ?_
        refine j_get (v := .int (ho_z 0 0)) hE lg_House_9 0 rfl 0 (wg_House_0 g a ho_z) rfl dX1_seek_138 ?_
        obtain ⟨b4, hf⟩ := bz_of hf
        obtain rfl := Option.some.inj hf
        exact j_zret_c hE b4 hq rfl rfl dX1_seek_141
      · refine j_iconst (v := 0) hE dX1_seek_18 (by decide) ?_
        refine j_istore (lv' := [(5, .int 0), (0, .ref (a 0)), (1, .ref (b 0)), (2, .int x2), (3, .int x3), (4, .int v4)]) hE dX1_seek_19 (by decide) rfl ?_
        exact j_sub [1, 2, 3, 4, 5, 0] rfl (j_House_seek_21 E g a b no_z x2 x3 res hE hq (fun ho_z v4 => f_House_seek_8 no_z x2 x3 n ho_z v4) (fun ho_z v4 hf => ih ho_z v4 hf) FU ho_z v4 0 hf)
set_option maxRecDepth 100000 in
theorem c_House_seek (l : Launch) (g : jG) (a : Nat → Nat) (b : Nat → Nat) (ho_z : jZ) (no_z : jZ) (x2 : Int32) (x3 : Int32) (res : jZ × Int32) (hf : f_House_seek ho_z no_z x2 x3 = some res) : MC l g yX1_seek cX1_seek 9 (some .boolean) rm_House_seek [.ref (a 0), .ref (b 0), .int x2, .int x3] (([n_House g a ho_z, n_Notes g b no_z] : List va_W)) (some (.int res.2)) (([n_House g a res.1, n_Notes g b no_z] : List va_W)) 0 0 := by
  refine MC_of (own := RX1) (lv := [(0, .ref (a 0)), (1, .ref (b 0)), (2, .int x2), (3, .int x3)]) (by decide) rfl (Nat.le_of_ble_eq_true rfl) rfl rfl (fun E hE hq => ?_)
  unfold f_House_seek at hf
  refine j_aload_n hE dX1_seek_0 rfl 0 rfl ?_
  refine j_iconst (v := 0) hE dX1_seek_1 (by decide) ?_
  refine j_put (v := .int 0) (ws' := ([n_House g a (up2 ho_z 0 0 0), n_Notes g b no_z] : List va_W)) hE lp_House_9 0 rfl 0 (wg_House_0 g a ho_z) (by decide +kernel) (by decide +kernel) (Nat.le_of_ble_eq_true rfl) (wp_House_0 g a ho_z 0) rfl dX1_seek_2 ?_
  refine j_iconst (v := 1) hE dX1_seek_5 (by decide) ?_
  refine j_istore (lv' := [(4, .int 1), (0, .ref (a 0)), (1, .ref (b 0)), (2, .int x2), (3, .int x3)]) hE dX1_seek_6 (by decide) rfl ?_
  exact j_sub [1, 2, 3, 4, 0] rfl (j_House_seek_8 E g a b no_z x2 x3 res hE hq FU (up2 ho_z 0 0 0) 1 hf)
def rm_Falls_seekSums : Room := { frames := 2, cells := 0, slots := 0, locals := 49 }
def f_Falls_seekSums (fa_z : jZ) (no_z : jZ) (x2 : Int32) (x3 : Int32) : Option (jZ × Int32) := (f_Notes_sumOf no_z x2 (x3 - 3) 3).bind fun q1 => (f_Notes_sumOf no_z x2 x3 3).bind fun q3 => (if q1 = (-1) then some ((up2 (up2 fa_z 3 0 q1) 4 0 q3), 0)
    else (if q3 = (-1) then some ((up2 (up2 fa_z 3 0 q1) 4 0 q3), 0)
    else some ((up2 (up2 fa_z 3 0 q1) 4 0 q3), 1)))
set_option maxRecDepth 100000 in
theorem c_Falls_seekSums (l : Launch) (g : jG) (a : Nat → Nat) (b : Nat → Nat) (fa_z : jZ) (fod_z : jZ) (fod_y : jY) (no_z : jZ) (x2 : Int32) (x3 : Int32) (res : jZ × Int32) (hf : f_Falls_seekSums fa_z no_z x2 x3 = some res) : MC l g yX0_seekSums cX0_seekSums 4 (some .boolean) rm_Falls_seekSums [.ref (a 0), .ref (b 0), .int x2, .int x3] (([n_Falls g a fa_z, n_Odds g (fun i => a (i + 1)) fod_z fod_y, n_Notes g b no_z] : List va_W)) (some (.int res.2)) (([n_Falls g a res.1, n_Odds g (fun i => a (i + 1)) fod_z fod_y, n_Notes g b no_z] : List va_W)) 0 0 := by
  refine MC_of (own := RX0) (lv := [(0, .ref (a 0)), (1, .ref (b 0)), (2, .int x2), (3, .int x3)]) (by decide) rfl (Nat.le_of_ble_eq_true rfl) rfl rfl (fun E hE hq => ?_)
  unfold f_Falls_seekSums at hf
  refine j_aload_n hE dX0_seekSums_0 rfl 0 rfl ?_
  refine j_aload_n hE dX0_seekSums_1 rfl 1 rfl ?_
  refine j_iload_n hE dX0_seekSums_2 rfl 2 rfl ?_
  refine j_iload_n hE dX0_seekSums_3 rfl 3 rfl ?_
  refine j_iconst (v := 3) hE dX0_seekSums_4 (by decide) ?_
  refine j_isub hE dX0_seekSums_5 ?_
  refine j_iconst (v := 3) hE dX0_seekSums_6 (by decide) ?_
  obtain ⟨q1, hc2, hf⟩ := bind_of hf
  refine j_callV (ws' := ([n_Falls g a fa_z, n_Odds g (fun i => a (i + 1)) fod_z fod_y, n_Notes g b no_z] : List va_W)) (As := [.int x2, .int (x3 - 3), .int 3]) (rest := [.ref (a 0)]) (st2 := [.int q1, .ref (a 0)]) hE (fun l => c_Notes_sumOf l g b no_z x2 (x3 - 3) 3 q1 hc2) cd_X4_sumOf cv_X4_sumOf ml_Falls_118 rfl rfl rfl (wg_Notes_0 _ _ _) ⟨⟨Nat.le_of_ble_eq_true rfl, Nat.le_of_ble_eq_true rfl⟩, ⟨Nat.zero_le _, Nat.zero_le _⟩, rfl, rfl⟩ [2] rfl rfl rfl (Nat.le_of_ble_eq_true rfl) rfl dX0_seekSums_7 ?_
  refine j_put (v := .int q1) (ws' := ([n_Falls g a (up2 fa_z 3 0 q1), n_Odds g (fun i => a (i + 1)) fod_z fod_y, n_Notes g b no_z] : List va_W)) hE lp_Falls_25 0 rfl 0 (wg_Falls_0 g a fa_z) rfl rfl (Nat.le_of_ble_eq_true rfl) (wp_Falls_3 g a fa_z q1) rfl dX0_seekSums_10 ?_
  refine j_aload_n hE dX0_seekSums_13 rfl 0 rfl ?_
  refine j_aload_n hE dX0_seekSums_14 rfl 1 rfl ?_
  refine j_iload_n hE dX0_seekSums_15 rfl 2 rfl ?_
  refine j_iload_n hE dX0_seekSums_16 rfl 3 rfl ?_
  refine j_iconst (v := 3) hE dX0_seekSums_17 (by decide) ?_
  obtain ⟨q3, hc4, hf⟩ := bind_of hf
  refine j_callV (ws' := ([n_Falls g a (up2 fa_z 3 0 q1), n_Odds g (fun i => a (i + 1)) fod_z fod_y, n_Notes g b no_z] : List va_W)) (As := [.int x2, .int x3, .int 3]) (rest := [.ref (a 0)]) (st2 := [.int q3, .ref (a 0)]) hE (fun l => c_Notes_sumOf l g b no_z x2 x3 3 q3 hc4) cd_X4_sumOf cv_X4_sumOf ml_Falls_118 rfl rfl rfl (wg_Notes_0 _ _ _) ⟨⟨Nat.le_of_ble_eq_true rfl, Nat.le_of_ble_eq_true rfl⟩, ⟨Nat.zero_le _, Nat.zero_le _⟩, rfl, rfl⟩ [2] rfl rfl rfl (Nat.le_of_ble_eq_true rfl) rfl dX0_seekSums_18 ?_
  refine j_put (v := .int q3) (ws' := ([n_Falls g a (up2 (up2 fa_z 3 0 q1) 4 0 q3), n_Odds g (fun i => a (i + 1)) fod_z fod_y, n_Notes g b no_z] : List va_W)) hE lp_Falls_28 0 rfl 0 (wg_Falls_0 g a (up2 fa_z 3 0 q1)) rfl rfl (Nat.le_of_ble_eq_true rfl) (wp_Falls_4 g a (up2 fa_z 3 0 q1) q3) rfl dX0_seekSums_21 ?_
  refine j_aload_n hE dX0_seekSums_24 rfl 0 rfl ?_
  refine j_get (v := .int q1) hE lg_Falls_25 0 rfl 0 (wg_Falls_0 g a (up2 (up2 fa_z 3 0 q1) 4 0 q3)) rfl dX0_seekSums_25 ?_
  refine j_iconst (v := (-1)) hE dX0_seekSums_28 (by decide) ?_
  refine j_icmp_eq (tgt := 44) hE hf dX0_seekSums_29 (by decide) (fun c5 hf => ?_) (fun c5 hf => ?_)
  · refine j_iconst (v := 0) hE dX0_seekSums_44 (by decide) ?_
    obtain rfl := Option.some.inj hf
    exact j_zret_c hE (Or.inl rfl) hq rfl rfl dX0_seekSums_45
  · refine j_aload_n hE dX0_seekSums_32 rfl 0 rfl ?_
    refine j_get (v := .int q3) hE lg_Falls_28 0 rfl 0 (wg_Falls_0 g a (up2 (up2 fa_z 3 0 q1) 4 0 q3)) rfl dX0_seekSums_33 ?_
    refine j_iconst (v := (-1)) hE dX0_seekSums_36 (by decide) ?_
    refine j_icmp_eq (tgt := 44) hE hf dX0_seekSums_37 (by decide) (fun c6 hf => ?_) (fun c6 hf => ?_)
    · refine j_iconst (v := 0) hE dX0_seekSums_44 (by decide) ?_
      obtain rfl := Option.some.inj hf
      exact j_zret_c hE (Or.inl rfl) hq rfl rfl dX0_seekSums_45
    · refine j_iconst (v := 1) hE dX0_seekSums_40 (by decide) ?_
      refine j_goto (tgt := 45) hE dX0_seekSums_41 (by decide) ?_
      obtain rfl := Option.some.inj hf
      exact j_zret_c hE (Or.inr rfl) hq rfl rfl dX0_seekSums_45
def rm_Falls_seekLand : Room := { frames := 3, cells := 0, slots := 0, locals := 72 }
def f_Falls_seekLand_12 (ro_z : jZ) (no_z : jZ) (x2 : Int32)  : Nat → jZ → Int32 → Option (jZ)
  | 0, _, _ => none
  | n + 1, fa_z, v3 => (if 12 ≤ v3 then some fa_z
    else (f_Road_has ro_z v3).bind fun q2 => (if q2 = 0 then some fa_z
    else (ix v3 12).bind fun _ => (if (ro_z 11 (Int32.toNatClampNeg v3)) = 0 then (f_Falls_seekSums fa_z no_z v3 x2).bind fun q7 => (if q7.2 = 0 then f_Falls_seekLand_12 ro_z no_z x2 n q7.1 (v3 + 1)
    else f_Falls_seekLand_12 ro_z no_z x2 n (up2 (up2 q7.1 1 0 ((q7.1 1 0) + (q7.1 3 0))) 2 0 ((q7.1 2 0) + (q7.1 4 0))) (v3 + 1))
    else f_Falls_seekLand_12 ro_z no_z x2 n fa_z (v3 + 1))))
def f_Falls_seekLand (fa_z : jZ) (ro_z : jZ) (no_z : jZ) (x2 : Int32) : Option (jZ) := f_Falls_seekLand_12 ro_z no_z x2 FU (up2 (up2 fa_z 1 0 0) 2 0 0) 0
set_option maxRecDepth 100000 in
theorem j_Falls_seekLand_12 (E : jT) (g : jG) (a : Nat → Nat) (b : Nat → Nat) (fod_z : jZ) (fod_y : jY) (ro_z : jZ) (ki_z : jZ) (ru_z : jZ) (ru_y : jY) (no_z : jZ) (x2 : Int32) (res : jZ) (hE : jOk E g RX0 cX0_seekLand 4 (none : Option Jvm.ClassFile.FieldType) rm_Falls_seekLand) (hq : jEnd E g none (([n_Falls g a res, n_Odds g (fun i => a (i + 1)) fod_z fod_y, n_Road g b ro_z, n_Kinds g (fun i => b (i + 8)) ki_z, n_Rule g (fun i => b (i + 14)) ru_z ru_y, n_Notes g (fun i => b (i + 17)) no_z] : List va_W)) 0 0)  : ∀ (n : Nat) (fa_z : jZ) (v3 : Int32), f_Falls_seekLand_12 ro_z no_z x2 n fa_z v3 = some res → J E g 0 0 (([n_Falls g a fa_z, n_Odds g (fun i => a (i + 1)) fod_z fod_y, n_Road g b ro_z, n_Kinds g (fun i => b (i + 8)) ki_z, n_Rule g (fun i => b (i + 14)) ru_z ru_y, n_Notes g (fun i => b (i + 17)) no_z] : List va_W)) [(0, .ref (a 0)), (1, .ref (b 0)), (2, .int x2), (3, .int v3)] 12 [] := by
  intro n
  induction n with
  | zero =>
    intro fa_z v3 hf
    rw [f_Falls_seekLand_12] at hf
    cases hf
  | succ n ih =>
    intro fa_z v3 hf
    rw [f_Falls_seekLand_12] at hf
    refine j_iload_n hE dX0_seekLand_12 rfl 3 rfl ?_
    refine j_bipush (v := 12) hE dX0_seekLand_13 (by decide) ?_
    refine j_icmp_ge (tgt := 80) hE hf dX0_seekLand_15 (by decide) (fun c1 hf => ?_) (fun c1 hf => ?_)
    · obtain rfl := Option.some.inj hf
      exact j_vret hE hq rfl rfl dX0_seekLand_80
    · refine j_aload_n hE dX0_seekLand_18 rfl 1 rfl ?_
      refine j_iload_n hE dX0_seekLand_19 rfl 3 rfl ?_
      obtain ⟨q2, hc3, hf⟩ := bind_of hf
      refine j_callV (ws' := ([n_Falls g a fa_z, n_Odds g (fun i => a (i + 1)) fod_z fod_y, n_Road g b ro_z, n_Kinds g (fun i => b (i + 8)) ki_z, n_Rule g (fun i => b (i + 14)) ru_z ru_y, n_Notes g (fun i => b (i + 17)) no_z] : List va_W)) (As := [.int v3]) (rest := []) (st2 := [.int q2]) hE (fun l => c_Road_has l g b ro_z ki_z ru_z ru_y no_z v3 q2 hc3) cd_X8_has cv_X8_has ml_Falls_55 rfl rfl rfl (wg_Road_0 _ _ _) ⟨⟨Nat.le_of_ble_eq_true rfl, Nat.le_of_ble_eq_true rfl⟩, ⟨Nat.zero_le _, Nat.zero_le _⟩, rfl, rfl⟩ [2, 3, 4, 5] rfl rfl rfl (Nat.le_of_ble_eq_true rfl) rfl dX0_seekLand_20 ?_
      refine j_if_eq (tgt := 80) hE hf dX0_seekLand_23 (by decide) (fun c4 hf => ?_) (fun c4 hf => ?_)
      · obtain rfl := Option.some.inj hf
        exact j_vret hE hq rfl rfl dX0_seekLand_80
      · refine j_aload_n hE dX0_seekLand_26 rfl 1 rfl ?_
        refine j_get (v := .ref (b 4)) hE lg_Falls_61 2 rfl 0 (wg_Road_0 g b ro_z) rfl dX0_seekLand_27 ?_
        refine j_iload_n hE dX0_seekLand_30 rfl 3 rfl ?_
        refine j_iald hE hf 2 rfl 4 (wg_Road_4 g b ro_z) dX0_seekLand_31 (fun hf => ?_)
        refine j_if_ne (tgt := 74) hE hf dX0_seekLand_32 (by decide) (fun c6 hf => ?_) (fun c6 hf => ?_)
        · refine j_iinc (v := (v3 + 1)) (lv' := [(3, .int (v3 + 1)), (0, .ref (a 0)), (1, .ref (b 0)), (2, .int x2)]) hE dX0_seekLand_74 3 rfl rfl (by decide) rfl ?_
          refine j_goto (tgt := 12) hE dX0_seekLand_77 (by decide) ?_
          exact j_sub [1, 2, 3, 0] rfl (ih fa_z (v3 + 1) hf)
        · refine j_aload_n hE dX0_seekLand_35 rfl 0 rfl ?_
          refine j_aload_n hE dX0_seekLand_36 rfl 1 rfl ?_
          refine j_get (v := .ref (b 17)) hE lg_Falls_77 2 rfl 0 (wg_Road_0 g b ro_z) rfl dX0_seekLand_37 ?_
          refine j_iload_n hE dX0_seekLand_40 rfl 3 rfl ?_
          refine j_iload_n hE dX0_seekLand_41 rfl 2 rfl ?_
          obtain ⟨q7, hc8, hf⟩ := bind_of hf
          refine j_callV (ws' := ([n_Falls g a q7.1, n_Odds g (fun i => a (i + 1)) fod_z fod_y, n_Road g b ro_z, n_Kinds g (fun i => b (i + 8)) ki_z, n_Rule g (fun i => b (i + 14)) ru_z ru_y, n_Notes g (fun i => b (i + 17)) no_z] : List va_W)) (As := [.ref (b 17), .int v3, .int x2]) (rest := []) (st2 := [.int q7.2]) hE (fun l => c_Falls_seekSums l g a (fun i => b (i + 17)) fa_z fod_z fod_y no_z v3 x2 q7 hc8) cd_X0_seekSums cv_X0_seekSums ml_Falls_81 rfl rfl rfl (wg_Falls_0 _ _ _) ⟨⟨Nat.le_of_ble_eq_true rfl, Nat.le_of_ble_eq_true rfl⟩, ⟨Nat.zero_le _, Nat.zero_le _⟩, rfl, rfl⟩ [0, 1, 5] rfl rfl rfl (Nat.le_of_ble_eq_true rfl) rfl dX0_seekLand_42 ?_
          refine j_if_eq (tgt := 74) hE hf dX0_seekLand_45 (by decide) (fun c9 hf => ?_) (fun c9 hf => ?_)
          · refine j_iinc (v := (v3 + 1)) (lv' := [(3, .int (v3 + 1)), (0, .ref (a 0)), (1, .ref (b 0)), (2, .int x2)]) hE dX0_seekLand_74 3 rfl rfl (by decide) rfl ?_
            refine j_goto (tgt := 12) hE dX0_seekLand_77 (by decide) ?_
            exact j_sub [1, 2, 3, 0] rfl (ih q7.1 (v3 + 1) hf)
          · refine j_aload_n hE dX0_seekLand_48 rfl 0 rfl ?_
            refine j_dup hE dX0_seekLand_49 rfl ?_
            refine j_get (v := .int (q7.1 1 0)) hE lg_Falls_18 0 rfl 0 (wg_Falls_0 g a q7.1) rfl dX0_seekLand_50 ?_
            refine j_aload_n hE dX0_seekLand_53 rfl 0 rfl ?_
            refine j_get (v := .int (q7.1 3 0)) hE lg_Falls_25 0 rfl 0 (wg_Falls_0 g a q7.1) rfl dX0_seekLand_54 ?_
            refine j_iadd hE dX0_seekLand_57 ?_
            refine j_put (v := .int ((q7.1 1 0) + (q7.1 3 0))) (ws' := ([n_Falls g a (up2 q7.1 1 0 ((q7.1 1 0) + (q7.1 3 0))), n_Odds g (fun i => a (i + 1)) fod_z fod_y, n_Road g b ro_z, n_Kinds g (fun i => b (i + 8)) ki_z, n_Rule g (fun i => b (i + 14)) ru_z ru_y, n_Notes g (fun i => b (i + 17)) no_z] : List va_W)) hE lp_Falls_18 0 rfl 0 (wg_Falls_0 g a q7.1) rfl rfl (Nat.le_of_ble_eq_true rfl) (wp_Falls_1 g a q7.1 ((q7.1 1 0) + (q7.1 3 0))) rfl dX0_seekLand_58 ?_
            refine j_aload_n hE dX0_seekLand_61 rfl 0 rfl ?_
            refine j_dup hE dX0_seekLand_62 rfl ?_
            refine j_get (v := .int (q7.1 2 0)) hE lg_Falls_22 0 rfl 0 (wg_Falls_0 g a (up2 q7.1 1 0 ((q7.1 1 0) + (q7.1 3 0)))) rfl dX0_seekLand_63 ?_
            refine j_aload_n hE dX0_seekLand_66 rfl 0 rfl ?_
            refine j_get (v := .int (q7.1 4 0)) hE lg_Falls_28 0 rfl 0 (wg_Falls_0 g a (up2 q7.1 1 0 ((q7.1 1 0) + (q7.1 3 0)))) rfl dX0_seekLand_67 ?_
            refine j_iadd hE dX0_seekLand_70 ?_
            refine j_put (v := .int ((q7.1 2 0) + (q7.1 4 0))) (ws' := ([n_Falls g a (up2 (up2 q7.1 1 0 ((q7.1 1 0) + (q7.1 3 0))) 2 0 ((q7.1 2 0) + (q7.1 4 0))), n_Odds g (fun i => a (i + 1)) fod_z fod_y, n_Road g b ro_z, n_Kinds g (fun i => b (i + 8)) ki_z, n_Rule g (fun i => b (i + 14)) ru_z ru_y, n_Notes g (fun i => b (i + 17)) no_z] : List va_W)) hE lp_Falls_22 0 rfl 0 (wg_Falls_0 g a (up2 q7.1 1 0 ((q7.1 1 0) + (q7.1 3 0)))) rfl rfl (Nat.le_of_ble_eq_true rfl) (wp_Falls_2 g a (up2 q7.1 1 0 ((q7.1 1 0) + (q7.1 3 0))) ((q7.1 2 0) + (q7.1 4 0))) rfl dX0_seekLand_71 ?_
            refine j_iinc (v := (v3 + 1)) (lv' := [(3, .int (v3 + 1)), (0, .ref (a 0)), (1, .ref (b 0)), (2, .int x2)]) hE dX0_seekLand_74 3 rfl rfl (by decide) rfl ?_
            refine j_goto (tgt := 12) hE dX0_seekLand_77 (by decide) ?_
            exact j_sub [1, 2, 3, 0] rfl (ih (up2 (up2 q7.1 1 0 ((q7.1 1 0) + (q7.1 3 0))) 2 0 ((q7.1 2 0) + (q7.1 4 0))) (v3 + 1) hf)
set_option maxRecDepth 100000 in
theorem c_Falls_seekLand (l : Launch) (g : jG) (a : Nat → Nat) (b : Nat → Nat) (fa_z : jZ) (fod_z : jZ) (fod_y : jY) (ro_z : jZ) (ki_z : jZ) (ru_z : jZ) (ru_y : jY) (no_z : jZ) (x2 : Int32) (res : jZ) (hf : f_Falls_seekLand fa_z ro_z no_z x2 = some res) : MC l g yX0_seekLand cX0_seekLand 4 (none : Option Jvm.ClassFile.FieldType) rm_Falls_seekLand [.ref (a 0), .ref (b 0), .int x2] (([n_Falls g a fa_z, n_Odds g (fun i => a (i + 1)) fod_z fod_y, n_Road g b ro_z, n_Kinds g (fun i => b (i + 8)) ki_z, n_Rule g (fun i => b (i + 14)) ru_z ru_y, n_Notes g (fun i => b (i + 17)) no_z] : List va_W)) none (([n_Falls g a res, n_Odds g (fun i => a (i + 1)) fod_z fod_y, n_Road g b ro_z, n_Kinds g (fun i => b (i + 8)) ki_z, n_Rule g (fun i => b (i + 14)) ru_z ru_y, n_Notes g (fun i => b (i + 17)) no_z] : List va_W)) 0 0 := by
  refine MC_of (own := RX0) (lv := [(0, .ref (a 0)), (1, .ref (b 0)), (2, .int x2)]) (by decide) rfl (Nat.le_of_ble_eq_true rfl) rfl rfl (fun E hE hq => ?_)
  unfold f_Falls_seekLand at hf
  refine j_aload_n hE dX0_seekLand_0 rfl 0 rfl ?_
  refine j_iconst (v := 0) hE dX0_seekLand_1 (by decide) ?_
  refine j_put (v := .int 0) (ws' := ([n_Falls g a (up2 fa_z 1 0 0), n_Odds g (fun i => a (i + 1)) fod_z fod_y, n_Road g b ro_z, n_Kinds g (fun i => b (i + 8)) ki_z, n_Rule g (fun i => b (i + 14)) ru_z ru_y, n_Notes g (fun i => b (i + 17)) no_z] : List va_W)) hE lp_Falls_18 0 rfl 0 (wg_Falls_0 g a fa_z) rfl rfl (Nat.le_of_ble_eq_true rfl) (wp_Falls_1 g a fa_z 0) rfl dX0_seekLand_2 ?_
  refine j_aload_n hE dX0_seekLand_5 rfl 0 rfl ?_
  refine j_iconst (v := 0) hE dX0_seekLand_6 (by decide) ?_
  refine j_put (v := .int 0) (ws' := ([n_Falls g a (up2 (up2 fa_z 1 0 0) 2 0 0), n_Odds g (fun i => a (i + 1)) fod_z fod_y, n_Road g b ro_z, n_Kinds g (fun i => b (i + 8)) ki_z, n_Rule g (fun i => b (i + 14)) ru_z ru_y, n_Notes g (fun i => b (i + 17)) no_z] : List va_W)) hE lp_Falls_22 0 rfl 0 (wg_Falls_0 g a (up2 fa_z 1 0 0)) rfl rfl (Nat.le_of_ble_eq_true rfl) (wp_Falls_2 g a (up2 fa_z 1 0 0) 0) rfl dX0_seekLand_7 ?_
  refine j_iconst (v := 0) hE dX0_seekLand_10 (by decide) ?_
  refine j_istore_n (lv' := [(3, .int 0), (0, .ref (a 0)), (1, .ref (b 0)), (2, .int x2)]) hE dX0_seekLand_11 rfl (by decide) rfl ?_
  exact j_sub [1, 2, 3, 0] rfl (j_Falls_seekLand_12 E g a b fod_z fod_y ro_z ki_z ru_z ru_y no_z x2 res hE hq FU (up2 (up2 fa_z 1 0 0) 2 0 0) 0 hf)
def rm_Falls_left : Room := { frames := 0, cells := 0, slots := 0, locals := 0 }
def f_Falls_left (fa_z : jZ) (x1 : Int32) : Option (Int32) := (if (fa_z 1 0) = 0 then some x1
    else (nz (fa_z 1 0)).bind fun _ => some ((x1 * (fa_z 2 0)) / (fa_z 1 0)))
set_option maxRecDepth 100000 in
theorem c_Falls_left (l : Launch) (g : jG) (a : Nat → Nat) (fa_z : jZ) (fod_z : jZ) (fod_y : jY) (x1 : Int32) (res : Int32) (hf : f_Falls_left fa_z x1 = some res) : MC l g yX0_left cX0_left 2 (some .int) rm_Falls_left [.ref (a 0), .int x1] (([n_Falls g a fa_z, n_Odds g (fun i => a (i + 1)) fod_z fod_y] : List va_W)) (some (.int res)) (([n_Falls g a fa_z, n_Odds g (fun i => a (i + 1)) fod_z fod_y] : List va_W)) 0 0 := by
  refine MC_of (own := RX0) (lv := [(0, .ref (a 0)), (1, .int x1)]) (by decide) rfl (Nat.le_of_ble_eq_true rfl) rfl rfl (fun E hE hq => ?_)
  unfold f_Falls_left at hf
  refine j_aload_n hE dX0_left_0 rfl 0 rfl ?_
  refine j_get (v := .int (fa_z 1 0)) hE lg_Falls_18 0 rfl 0 (wg_Falls_0 g a fa_z) rfl dX0_left_1 ?_
  refine j_if_ne (tgt := 11) hE hf dX0_left_4 (by decide) (fun c1 hf => ?_) (fun c1 hf => ?_)
  · refine j_iload_n hE dX0_left_11 rfl 1 rfl ?_
    refine j_aload_n hE dX0_left_12 rfl 0 rfl ?_
    refine j_get (v := .int (fa_z 2 0)) hE lg_Falls_22 0 rfl 0 (wg_Falls_0 g a fa_z) rfl dX0_left_13 ?_
    refine j_imul hE dX0_left_16 ?_
    refine j_aload_n hE dX0_left_17 rfl 0 rfl ?_
    refine j_get (v := .int (fa_z 1 0)) hE lg_Falls_18 0 rfl 0 (wg_Falls_0 g a fa_z) rfl dX0_left_18 ?_
    refine j_idiv hE hf dX0_left_21 (fun hf => ?_)
    obtain rfl := Option.some.inj hf
    exact j_iret hE hq rfl rfl dX0_left_22
  · refine j_iload_n hE dX0_left_7 rfl 1 rfl ?_
    refine j_goto (tgt := 22) hE dX0_left_8 (by decide) ?_
    obtain rfl := Option.some.inj hf
    exact j_iret hE hq rfl rfl dX0_left_22
def rm_Falls_movedTo : Room := { frames := 3, cells := 0, slots := 0, locals := 72 }
def f_Falls_movedTo (fa_z : jZ) (ro_z : jZ) (no_z : jZ) (x2 : Int32) (x3 : Int32) : Option (jZ × Int32) := (f_Road_hasNoBoxBy ro_z x2 (x3 + 2)).bind fun q1 => (if q1 = 0 then some (fa_z, 0)
    else (f_Falls_seekSums fa_z no_z x2 x3).bind fun q4 => (if q4.2 = 0 then some (q4.1, 0)
    else (f_Falls_left q4.1 (1000 * (q4.1 3 0))).bind fun q7 => some (q4.1, (if 0 < ((1000 * (q4.1 4 0)) - q7) then ((1000 * (q4.1 4 0)) - q7) else 0))))
set_option maxRecDepth 100000 in
theorem c_Falls_movedTo (l : Launch) (g : jG) (a : Nat → Nat) (b : Nat → Nat) (fa_z : jZ) (fod_z : jZ) (fod_y : jY) (ro_z : jZ) (ki_z : jZ) (ru_z : jZ) (ru_y : jY) (no_z : jZ) (x2 : Int32) (x3 : Int32) (res : jZ × Int32) (hf : f_Falls_movedTo fa_z ro_z no_z x2 x3 = some res) : MC l g yX0_movedTo cX0_movedTo 4 (some .int) rm_Falls_movedTo [.ref (a 0), .ref (b 0), .int x2, .int x3] (([n_Falls g a fa_z, n_Odds g (fun i => a (i + 1)) fod_z fod_y, n_Road g b ro_z, n_Kinds g (fun i => b (i + 8)) ki_z, n_Rule g (fun i => b (i + 14)) ru_z ru_y, n_Notes g (fun i => b (i + 17)) no_z] : List va_W)) (some (.int res.2)) (([n_Falls g a res.1, n_Odds g (fun i => a (i + 1)) fod_z fod_y, n_Road g b ro_z, n_Kinds g (fun i => b (i + 8)) ki_z, n_Rule g (fun i => b (i + 14)) ru_z ru_y, n_Notes g (fun i => b (i + 17)) no_z] : List va_W)) 0 0 := by
  refine MC_of (own := RX0) (lv := [(0, .ref (a 0)), (1, .ref (b 0)), (2, .int x2), (3, .int x3)]) (by decide) rfl (Nat.le_of_ble_eq_true rfl) rfl rfl (fun E hE hq => ?_)
  unfold f_Falls_movedTo at hf
  refine j_aload_n hE dX0_movedTo_0 rfl 1 rfl ?_
  refine j_iload_n hE dX0_movedTo_1 rfl 2 rfl ?_
  refine j_iload_n hE dX0_movedTo_2 rfl 3 rfl ?_
  refine j_iconst (v := 2) hE dX0_movedTo_3 (by decide) ?_
  refine j_iadd hE dX0_movedTo_4 ?_
  obtain ⟨q1, hc2, hf⟩ := bind_of hf
  refine j_callV (ws' := ([n_Falls g a fa_z, n_Odds g (fun i => a (i + 1)) fod_z fod_y, n_Road g b ro_z, n_Kinds g (fun i => b (i + 8)) ki_z, n_Rule g (fun i => b (i + 14)) ru_z ru_y, n_Notes g (fun i => b (i + 17)) no_z] : List va_W)) (As := [.int x2, .int (x3 + 2)]) (rest := []) (st2 := [.int q1]) hE (fun l => c_Road_hasNoBoxBy l g b ro_z ki_z ru_z ru_y no_z x2 (x3 + 2) q1 hc2) cd_X8_hasNoBoxBy cv_X8_hasNoBoxBy ml_Falls_110 rfl rfl rfl (wg_Road_0 _ _ _) ⟨⟨Nat.le_of_ble_eq_true rfl, Nat.le_of_ble_eq_true rfl⟩, ⟨Nat.zero_le _, Nat.zero_le _⟩, rfl, rfl⟩ [2, 3, 4, 5] rfl rfl rfl (Nat.le_of_ble_eq_true rfl) rfl dX0_movedTo_5 ?_
  refine j_if_eq (tgt := 24) hE hf dX0_movedTo_8 (by decide) (fun c3 hf => ?_) (fun c3 hf => ?_)
  · refine j_iconst (v := 0) hE dX0_movedTo_24 (by decide) ?_
    obtain rfl := Option.some.inj hf
    exact j_iret hE hq rfl rfl dX0_movedTo_25
  · refine j_aload_n hE dX0_movedTo_11 rfl 0 rfl ?_
    refine j_aload_n hE dX0_movedTo_12 rfl 1 rfl ?_
    refine j_get (v := .ref (b 17)) hE lg_Falls_77 2 rfl 0 (wg_Road_0 g b ro_z) rfl dX0_movedTo_13 ?_
    refine j_iload_n hE dX0_movedTo_16 rfl 2 rfl ?_
    refine j_iload_n hE dX0_movedTo_17 rfl 3 rfl ?_
    obtain ⟨q4, hc5, hf⟩ := bind_of hf
    refine j_callV (ws' := ([n_Falls g a q4.1, n_Odds g (fun i => a (i + 1)) fod_z fod_y, n_Road g b ro_z, n_Kinds g (fun i => b (i + 8)) ki_z, n_Rule g (fun i => b (i + 14)) ru_z ru_y, n_Notes g (fun i => b (i + 17)) no_z] : List va_W)) (As := [.ref (b 17), .int x2, .int x3]) (rest := []) (st2 := [.int q4.2]) hE (fun l => c_Falls_seekSums l g a (fun i => b (i + 17)) fa_z fod_z fod_y no_z x2 x3 q4 hc5) cd_X0_seekSums cv_X0_seekSums ml_Falls_81 rfl rfl rfl (wg_Falls_0 _ _ _) ⟨⟨Nat.le_of_ble_eq_true rfl, Nat.le_of_ble_eq_true rfl⟩, ⟨Nat.zero_le _, Nat.zero_le _⟩, rfl, rfl⟩ [0, 1, 5] rfl rfl rfl (Nat.le_of_ble_eq_true rfl) rfl dX0_movedTo_18 ?_
    refine j_if_ne (tgt := 26) hE hf dX0_movedTo_21 (by decide) (fun c6 hf => ?_) (fun c6 hf => ?_)
    · refine j_iconst (v := 0) hE dX0_movedTo_26 (by decide) ?_
      refine j_sipush (v := 1000) hE dX0_movedTo_27 (by decide) ?_
      refine j_aload_n hE dX0_movedTo_30 rfl 0 rfl ?_
      refine j_get (v := .int (q4.1 4 0)) hE lg_Falls_28 0 rfl 0 (wg_Falls_0 g a q4.1) rfl dX0_movedTo_31 ?_
      refine j_imul hE dX0_movedTo_34 ?_
      refine j_aload_n hE dX0_movedTo_35 rfl 0 rfl ?_
      refine j_sipush (v := 1000) hE dX0_movedTo_36 (by decide) ?_
      refine j_aload_n hE dX0_movedTo_39 rfl 0 rfl ?_
      refine j_get (v := .int (q4.1 3 0)) hE lg_Falls_25 0 rfl 0 (wg_Falls_0 g a q4.1) rfl dX0_movedTo_40 ?_
      refine j_imul hE dX0_movedTo_43 ?_
      obtain ⟨q7, hc8, hf⟩ := bind_of hf
      refine j_callV (ws' := ([n_Falls g a q4.1, n_Odds g (fun i => a (i + 1)) fod_z fod_y, n_Road g b ro_z, n_Kinds g (fun i => b (i + 8)) ki_z, n_Rule g (fun i => b (i + 14)) ru_z ru_y, n_Notes g (fun i => b (i + 17)) no_z] : List va_W)) (As := [.int (1000 * (q4.1 3 0))]) (rest := [.int (1000 * (q4.1 4 0)), .int 0]) (st2 := [.int q7, .int (1000 * (q4.1 4 0)), .int 0]) hE (fun l => c_Falls_left l g a q4.1 fod_z fod_y (1000 * (q4.1 3 0)) q7 hc8) cd_X0_left cv_X0_left ml_Falls_93 rfl rfl rfl (wg_Falls_0 _ _ _) ⟨⟨Nat.le_of_ble_eq_true rfl, Nat.le_of_ble_eq_true rfl⟩, ⟨Nat.zero_le _, Nat.zero_le _⟩, rfl, rfl⟩ [0, 1] rfl rfl rfl (Nat.le_of_ble_eq_true rfl) rfl dX0_movedTo_44 ?_
      refine j_isub hE dX0_movedTo_47 ?_
      refine j_mmax hE fm_mmax ml_Falls_124 ⟨⟨Nat.le_of_ble_eq_true rfl, Nat.le_of_ble_eq_true rfl⟩, Nat.zero_le _, Nat.zero_le _⟩ dX0_movedTo_48 ?_
      obtain rfl := Option.some.inj hf
      exact j_iret hE hq rfl rfl dX0_movedTo_51
    · refine j_iconst (v := 0) hE dX0_movedTo_24 (by decide) ?_
      obtain rfl := Option.some.inj hf
      exact j_iret hE hq rfl rfl dX0_movedTo_25
def rm_Falls_part : Room := { frames := 4, cells := 0, slots := 0, locals := 109 }
def f_Falls_part_180 (ro_z : jZ) (ki_z : jZ) (no_z : jZ) (x2 : Int32)  (fa_z : jZ) (fod_y : jY) (s0 : Int32) : Option (jZ × jY × Int32) := some ((up2 (up2 fa_z 8 0 s0) 9 0 ((((1000 * ((fa_z 3 0) - (fa_z 4 0))) - (fa_z 6 0)) - (fa_z 7 0)) - s0)), fod_y, 1)
def f_Falls_part_18 (ro_z : jZ) (ki_z : jZ) (no_z : jZ) (x2 : Int32)  (fa_z : jZ) (fod_y : jY) (s0 : Int32) : Option (jZ × jY × Int32) := (f_WP_isWithin s0 3 6).bind fun q5 => (if q5 = 0 then some (fa_z, fod_y, 0)
    else (f_Falls_seekLand fa_z ro_z no_z s0).bind fun q8 => (f_Falls_movedTo q8 ro_z no_z (x2 + 1) s0).bind fun q10 => (f_Falls_seekSums (up2 q10.1 10 0 q10.2) no_z x2 s0).bind fun q12 => (if q12.2 = 0 then some (q12.1, fod_y, 0)
    else (f_Odds_seekRate fod_y ki_z no_z x2 (s0 - 3) (s0 - 1)).bind fun q15 => (f_Odds_times q15 3000 (1000 * (q12.1 3 0))).bind fun q17 => (f_Falls_left (up2 (up2 q12.1 5 0 q17) 6 0 ((1000 * (q12.1 3 0)) - q17)) q17).bind fun q19 => (ix x2 12).bind fun _ => (f_WP_isWithin (ro_z 12 (Int32.toNatClampNeg x2)) s0 (s0 + 2)).bind fun q22 => (if q22 = 0 then f_Falls_part_180 ro_z ki_z no_z x2 (up2 (up2 (up2 q12.1 5 0 q17) 6 0 ((1000 * (q12.1 3 0)) - q17)) 7 0 (q17 - q19)) q15 0
    else (ix x2 12).bind fun _ => f_Falls_part_180 ro_z ki_z no_z x2 (up2 (up2 (up2 q12.1 5 0 q17) 6 0 ((1000 * (q12.1 3 0)) - q17)) 7 0 (q17 - q19)) q15 (((q17 - (q17 - q19)) * (ro_z 13 (Int32.toNatClampNeg x2))) / 10))))
def f_Falls_part (fa_z : jZ) (fod_y : jY) (ro_z : jZ) (ki_z : jZ) (no_z : jZ) (x2 : Int32) : Option (jZ × jY × Int32) := (f_Road_has ro_z x2).bind fun q1 => (if q1 = 0 then f_Falls_part_18 ro_z ki_z no_z x2 fa_z fod_y 0
    else (ix x2 12).bind fun _ => f_Falls_part_18 ro_z ki_z no_z x2 fa_z fod_y (ro_z 11 (Int32.toNatClampNeg x2)))
set_option maxRecDepth 100000 in
theorem j_Falls_part_180 (E : jT) (g : jG) (a : Nat → Nat) (b : Nat → Nat) (fod_z : jZ) (ro_z : jZ) (ki_z : jZ) (ru_z : jZ) (ru_y : jY) (no_z : jZ) (x2 : Int32) (res : jZ × jY × Int32) (hE : jOk E g RX0 cX0_part 5 (some .boolean) rm_Falls_part) (hq : jEnd E g (some (.int res.2.2)) (([n_Falls g a res.1, n_Odds g (fun i => a (i + 1)) fod_z res.2.1, n_Road g b ro_z, n_Kinds g (fun i => b (i + 8)) ki_z, n_Rule g (fun i => b (i + 14)) ru_z ru_y, n_Notes g (fun i => b (i + 17)) no_z] : List va_W)) 0 0)  (fa_z : jZ) (fod_y : jY) (s0 : Int32) (hf : f_Falls_part_180 ro_z ki_z no_z x2 fa_z fod_y s0 = some res) : J E g 0 0 (([n_Falls g a fa_z, n_Odds g (fun i => a (i + 1)) fod_z fod_y, n_Road g b ro_z, n_Kinds g (fun i => b (i + 8)) ki_z, n_Rule g (fun i => b (i + 14)) ru_z ru_y, n_Notes g (fun i => b (i + 17)) no_z] : List va_W)) [(0, .ref (a 0))] 180 [.int s0, .ref (a 0)] := by
  unfold f_Falls_part_180 at hf
  refine j_put (v := .int s0) (ws' := ([n_Falls g a (up2 fa_z 8 0 s0), n_Odds g (fun i => a (i + 1)) fod_z fod_y, n_Road g b ro_z, n_Kinds g (fun i => b (i + 8)) ki_z, n_Rule g (fun i => b (i + 14)) ru_z ru_y, n_Notes g (fun i => b (i + 17)) no_z] : List va_W)) hE lp_Falls_40 0 rfl 0 (wg_Falls_0 g a fa_z) rfl rfl (Nat.le_of_ble_eq_true rfl) (wp_Falls_8 g a fa_z s0) rfl dX0_part_180 ?_
  refine j_aload_n hE dX0_part_183 rfl 0 rfl ?_
  refine j_sipush (v := 1000) hE dX0_part_184 (by decide) ?_
  refine j_aload_n hE dX0_part_187 rfl 0 rfl ?_
  refine j_get (v := .int (fa_z 3 0)) hE lg_Falls_25 0 rfl 0 (wg_Falls_0 g a (up2 fa_z 8 0 s0)) rfl dX0_part_188 ?_
  refine j_aload_n hE dX0_part_191 rfl 0 rfl ?_
  refine j_get (v := .int (fa_z 4 0)) hE lg_Falls_28 0 rfl 0 (wg_Falls_0 g a (up2 fa_z 8 0 s0)) rfl dX0_part_192 ?_
  refine j_isub hE dX0_part_195 ?_
  refine j_imul hE dX0_part_196 ?_
  refine j_aload_n hE dX0_part_197 rfl 0 rfl ?_
  refine j_get (v := .int (fa_z 6 0)) hE lg_Falls_34 0 rfl 0 (wg_Falls_0 g a (up2 fa_z 8 0 s0)) rfl dX0_part_198 ?_
  refine j_isub hE dX0_part_201 ?_
  refine j_aload_n hE dX0_part_202 rfl 0 rfl ?_
  refine j_get (v := .int (fa_z 7 0)) hE lg_Falls_37 0 rfl 0 (wg_Falls_0 g a (up2 fa_z 8 0 s0)) rfl dX0_part_203 ?_
  refine j_isub hE dX0_part_206 ?_
  refine j_aload_n hE dX0_part_207 rfl 0 rfl ?_
  refine j_get (v := .int s0) hE lg_Falls_40 0 rfl 0 (wg_Falls_0 g a (up2 fa_z 8 0 s0)) rfl dX0_part_208 ?_
  refine j_isub hE dX0_part_211 ?_
  refine j_put (v := .int ((((1000 * ((fa_z 3 0) - (fa_z 4 0))) - (fa_z 6 0)) - (fa_z 7 0)) - s0)) (ws' := ([n_Falls g a (up2 (up2 fa_z 8 0 s0) 9 0 ((((1000 * ((fa_z 3 0) - (fa_z 4 0))) - (fa_z 6 0)) - (fa_z 7 0)) - s0)), n_Odds g (fun i => a (i + 1)) fod_z fod_y, n_Road g b ro_z, n_Kinds g (fun i => b (i + 8)) ki_z, n_Rule g (fun i => b (i + 14)) ru_z ru_y, n_Notes g (fun i => b (i + 17)) no_z] : List va_W)) hE lp_Falls_43 0 rfl 0 (wg_Falls_0 g a (up2 fa_z 8 0 s0)) rfl rfl (Nat.le_of_ble_eq_true rfl) (wp_Falls_9 g a (up2 fa_z 8 0 s0) ((((1000 * ((fa_z 3 0) - (fa_z 4 0))) - (fa_z 6 0)) - (fa_z 7 0)) - s0)) rfl dX0_part_212 ?_
  refine j_iconst (v := 1) hE dX0_part_215 (by decide) ?_
  obtain rfl := Option.some.inj hf
  exact j_zret_c hE (Or.inr rfl) hq rfl rfl dX0_part_216
set_option maxRecDepth 100000 in
theorem j_Falls_part_18 (E : jT) (g : jG) (a : Nat → Nat) (b : Nat → Nat) (fod_z : jZ) (ro_z : jZ) (ki_z : jZ) (ru_z : jZ) (ru_y : jY) (no_z : jZ) (x2 : Int32) (res : jZ × jY × Int32) (hE : jOk E g RX0 cX0_part 5 (some .boolean) rm_Falls_part) (hq : jEnd E g (some (.int res.2.2)) (([n_Falls g a res.1, n_Odds g (fun i => a (i + 1)) fod_z res.2.1, n_Road g b ro_z, n_Kinds g (fun i => b (i + 8)) ki_z, n_Rule g (fun i => b (i + 14)) ru_z ru_y, n_Notes g (fun i => b (i + 17)) no_z] : List va_W)) 0 0)  (fa_z : jZ) (fod_y : jY) (s0 : Int32) (hf : f_Falls_part_18 ro_z ki_z no_z x2 fa_z fod_y s0 = some res) : J E g 0 0 (([n_Falls g a fa_z, n_Odds g (fun i => a (i + 1)) fod_z fod_y, n_Road g b ro_z, n_Kinds g (fun i => b (i + 8)) ki_z, n_Rule g (fun i => b (i + 14)) ru_z ru_y, n_Notes g (fun i => b (i + 17)) no_z] : List va_W)) [(0, .ref (a 0)), (1, .ref (b 0)), (2, .int x2)] 18 [.int s0] := by
  unfold f_Falls_part_18 at hf
  refine j_istore_n (lv' := [(3, .int s0), (0, .ref (a 0)), (1, .ref (b 0)), (2, .int x2)]) hE dX0_part_18 rfl (by decide) rfl ?_
  refine j_iload_n hE dX0_part_19 rfl 0 rfl ?_
  refine j_iconst (v := 3) hE dX0_part_20 (by decide) ?_
  refine j_bipush (v := 6) hE dX0_part_21 (by decide) ?_
  obtain ⟨q5, hc6, hf⟩ := bind_of hf
  refine j_callSN (ws' := ([n_Falls g a fa_z, n_Odds g (fun i => a (i + 1)) fod_z fod_y, n_Road g b ro_z, n_Kinds g (fun i => b (i + 8)) ki_z, n_Rule g (fun i => b (i + 14)) ru_z ru_y, n_Notes g (fun i => b (i + 17)) no_z] : List va_W)) (As := [.int s0, .int 3, .int 6]) (rest := []) (st2 := [.int q5]) hE (fun l => c_WP_isWithin l g s0 3 6 q5 hc6) cd_X11_isWithin st_X11_isWithin ml_Falls_65 rfl rfl ⟨⟨Nat.le_of_ble_eq_true rfl, Nat.le_of_ble_eq_true rfl⟩, ⟨Nat.zero_le _, Nat.zero_le _⟩, rfl, rfl⟩ [] rfl rfl rfl (Nat.le_of_ble_eq_true rfl) rfl dX0_part_23 ?_
  refine j_if_ne (tgt := 31) hE hf dX0_part_26 (by decide) (fun c7 hf => ?_) (fun c7 hf => ?_)
  · refine j_aload_n hE dX0_part_31 rfl 1 rfl ?_
    refine j_aload_n hE dX0_part_32 rfl 2 rfl ?_
    refine j_iload_n hE dX0_part_33 rfl 0 rfl ?_
    obtain ⟨q8, hc9, hf⟩ := bind_of hf
    refine j_callV (ws' := ([n_Falls g a q8, n_Odds g (fun i => a (i + 1)) fod_z fod_y, n_Road g b ro_z, n_Kinds g (fun i => b (i + 8)) ki_z, n_Rule g (fun i => b (i + 14)) ru_z ru_y, n_Notes g (fun i => b (i + 17)) no_z] : List va_W)) (As := [.ref (b 0), .int s0]) (rest := []) (st2 := []) hE (fun l => c_Falls_seekLand l g a b fa_z fod_z fod_y ro_z ki_z ru_z ru_y no_z s0 q8 hc9) cd_X0_seekLand cv_X0_seekLand ml_Falls_69 rfl rfl rfl (wg_Falls_0 _ _ _) ⟨⟨Nat.le_of_ble_eq_true rfl, Nat.le_of_ble_eq_true rfl⟩, ⟨Nat.zero_le _, Nat.zero_le _⟩, rfl, rfl⟩ [0, 1, 2, 3, 4, 5] rfl rfl rfl (Nat.le_of_ble_eq_true rfl) rfl dX0_part_34 ?_
    refine j_aload_n hE dX0_part_37 rfl 1 rfl ?_
    refine j_aload_n hE dX0_part_38 rfl 1 rfl ?_
    refine j_aload_n hE dX0_part_39 rfl 2 rfl ?_
    refine j_iload_n hE dX0_part_40 rfl 3 rfl ?_
    refine j_iconst (v := 1) hE dX0_part_41 (by decide) ?_
    refine j_iadd hE dX0_part_42 ?_
    refine j_iload_n hE dX0_part_43 rfl 0 rfl ?_
    obtain ⟨q10, hc11, hf⟩ := bind_of hf
    refine j_callV (ws' := ([n_Falls g a q10.1, n_Odds g (fun i => a (i + 1)) fod_z fod_y, n_Road g b ro_z, n_Kinds g (fun i => b (i + 8)) ki_z, n_Rule g (fun i => b (i + 14)) ru_z ru_y, n_Notes g (fun i => b (i + 17)) no_z] : List va_W)) (As := [.ref (b 0), .int (x2 + 1), .int s0]) (rest := [.ref (a 0)]) (st2 := [.int q10.2, .ref (a 0)]) hE (fun l => c_Falls_movedTo l g a b q8 fod_z fod_y ro_z ki_z ru_z ru_y no_z (x2 + 1) s0 q10 hc11) cd_X0_movedTo cv_X0_movedTo ml_Falls_73 rfl rfl rfl (wg_Falls_0 _ _ _) ⟨⟨Nat.le_of_ble_eq_true rfl, Nat.le_of_ble_eq_true rfl⟩, ⟨Nat.zero_le _, Nat.zero_le _⟩, rfl, rfl⟩ [0, 1, 2, 3, 4, 5] rfl rfl rfl (Nat.le_of_ble_eq_true rfl) rfl dX0_part_44 ?_
    refine j_put (v := .int q10.2) (ws' := ([n_Falls g a (up2 q10.1 10 0 q10.2), n_Odds g (fun i => a (i + 1)) fod_z fod_y, n_Road g b ro_z, n_Kinds g (fun i => b (i + 8)) ki_z, n_Rule g (fun i => b (i + 14)) ru_z ru_y, n_Notes g (fun i => b (i + 17)) no_z] : List va_W)) hE lp_Falls_46 0 rfl 0 (wg_Falls_0 g a q10.1) rfl rfl (Nat.le_of_ble_eq_true rfl) (wp_Falls_10 g a q10.1 q10.2) rfl dX0_part_47 ?_
    refine j_aload_n hE dX0_part_50 rfl 1 rfl ?_
    refine j_aload_n hE dX0_part_51 rfl 2 rfl ?_
    refine j_get (v := .ref (b 17)) hE lg_Falls_77 2 rfl 0 (wg_Road_0 g b ro_z) rfl dX0_part_52 ?_
    refine j_iload_n hE dX0_part_55 rfl 3 rfl ?_
    refine j_iload_n hE dX0_part_56 rfl 0 rfl ?_
    obtain ⟨q12, hc13, hf⟩ := bind_of hf
    refine j_callV (ws' := ([n_Falls g a q12.1, n_Odds g (fun i => a (i + 1)) fod_z fod_y, n_Road g b ro_z, n_Kinds g (fun i => b (i + 8)) ki_z, n_Rule g (fun i => b (i + 14)) ru_z ru_y, n_Notes g (fun i => b (i + 17)) no_z] : List va_W)) (As := [.ref (b 17), .int x2, .int s0]) (rest := []) (st2 := [.int q12.2]) hE (fun l => c_Falls_seekSums l g a (fun i => b (i + 17)) (up2 q10.1 10 0 q10.2) fod_z fod_y no_z x2 s0 q12 hc13) cd_X0_seekSums cv_X0_seekSums ml_Falls_81 rfl rfl rfl (wg_Falls_0 _ _ _) ⟨⟨Nat.le_of_ble_eq_true rfl, Nat.le_of_ble_eq_true rfl⟩, ⟨Nat.zero_le _, Nat.zero_le _⟩, rfl, rfl⟩ [0, 1, 5] rfl rfl rfl (Nat.le_of_ble_eq_true rfl) rfl dX0_part_57 ?_
    refine j_if_ne (tgt := 65) hE hf dX0_part_60 (by decide) (fun c14 hf => ?_) (fun c14 hf => ?_)
    · refine j_aload_n hE dX0_part_65 rfl 1 rfl ?_
      refine j_get (v := .ref (a 1)) hE lg_Falls_12 0 rfl 0 (wg_Falls_0 g a q12.1) rfl dX0_part_66 ?_
      refine j_aload_n hE dX0_part_69 rfl 2 rfl ?_
      refine j_iload_n hE dX0_part_70 rfl 3 rfl ?_
      refine j_iload_n hE dX0_part_71 rfl 0 rfl ?_
      refine j_iconst (v := 3) hE dX0_part_72 (by decide) ?_
      refine j_isub hE dX0_part_73 ?_
      refine j_iload_n hE dX0_part_74 rfl 0 rfl ?_
      refine j_iconst (v := 1) hE dX0_part_75 (by decide) ?_
      refine j_isub hE dX0_part_76 ?_
      obtain ⟨q15, hc16, hf⟩ := bind_of hf
      refine j_callV (ws' := ([n_Falls g a q12.1, n_Odds g (fun i => a (i + 1)) fod_z q15, n_Road g b ro_z, n_Kinds g (fun i => b (i + 8)) ki_z, n_Rule g (fun i => b (i + 14)) ru_z ru_y, n_Notes g (fun i => b (i + 17)) no_z] : List va_W)) (As := [.ref (b 0), .int x2, .int (s0 - 3), .int (s0 - 1)]) (rest := []) (st2 := []) hE (fun l => c_Odds_seekRate l g (fun i => a (i + 1)) b fod_z fod_y ro_z ki_z ru_z ru_y no_z x2 (s0 - 3) (s0 - 1) q15 hc16) cd_X5_seekRate cv_X5_seekRate ml_Falls_85 rfl rfl rfl (wg_Odds_0 _ _ _ _) ⟨⟨Nat.le_of_ble_eq_true rfl, Nat.le_of_ble_eq_true rfl⟩, ⟨Nat.zero_le _, Nat.zero_le _⟩, rfl, rfl⟩ [1, 2, 3, 4, 5] rfl rfl rfl (Nat.le_of_ble_eq_true rfl) rfl dX0_part_77 ?_
      refine j_aload_n hE dX0_part_80 rfl 1 rfl ?_
      refine j_aload_n hE dX0_part_81 rfl 1 rfl ?_
      refine j_get (v := .ref (a 1)) hE lg_Falls_12 0 rfl 0 (wg_Falls_0 g a q12.1) rfl dX0_part_82 ?_
      refine j_sipush (v := 3000) hE dX0_part_85 (by decide) ?_
      refine j_sipush (v := 1000) hE dX0_part_88 (by decide) ?_
      refine j_aload_n hE dX0_part_91 rfl 1 rfl ?_
      refine j_get (v := .int (q12.1 3 0)) hE lg_Falls_25 0 rfl 0 (wg_Falls_0 g a q12.1) rfl dX0_part_92 ?_
      refine j_imul hE dX0_part_95 ?_
      obtain ⟨q17, hc18, hf⟩ := bind_of hf
      refine j_callV (ws' := ([n_Falls g a q12.1, n_Odds g (fun i => a (i + 1)) fod_z q15, n_Road g b ro_z, n_Kinds g (fun i => b (i + 8)) ki_z, n_Rule g (fun i => b (i + 14)) ru_z ru_y, n_Notes g (fun i => b (i + 17)) no_z] : List va_W)) (As := [.int 3000, .int (1000 * (q12.1 3 0))]) (rest := [.ref (a 0)]) (st2 := [.int q17, .ref (a 0)]) hE (fun l => c_Odds_times l g (fun i => a (i + 1)) fod_z q15 3000 (1000 * (q12.1 3 0)) q17 hc18) cd_X5_times cv_X5_times ml_Falls_89 rfl rfl rfl (wg_Odds_0 _ _ _ _) ⟨⟨Nat.le_of_ble_eq_true rfl, Nat.le_of_ble_eq_true rfl⟩, ⟨Nat.zero_le _, Nat.zero_le _⟩, rfl, rfl⟩ [1] rfl rfl rfl (Nat.le_of_ble_eq_true rfl) rfl dX0_part_96 ?_
      refine j_put (v := .int q17) (ws' := ([n_Falls g a (up2 q12.1 5 0 q17), n_Odds g (fun i => a (i + 1)) fod_z q15, n_Road g b ro_z, n_Kinds g (fun i => b (i + 8)) ki_z, n_Rule g (fun i => b (i + 14)) ru_z ru_y, n_Notes g (fun i => b (i + 17)) no_z] : List va_W)) hE lp_Falls_31 0 rfl 0 (wg_Falls_0 g a q12.1) rfl rfl (Nat.le_of_ble_eq_true rfl) (wp_Falls_5 g a q12.1 q17) rfl dX0_part_99 ?_
      refine j_aload_n hE dX0_part_102 rfl 1 rfl ?_
      refine j_sipush (v := 1000) hE dX0_part_103 (by decide) ?_
      refine j_aload_n hE dX0_part_106 rfl 1 rfl ?_
      refine j_get (v := .int (q12.1 3 0)) hE lg_Falls_25 0 rfl 0 (wg_Falls_0 g a (up2 q12.1 5 0 q17)) rfl dX0_part_107 ?_
      refine j_imul hE dX0_part_110 ?_
      refine j_aload_n hE dX0_part_111 rfl 1 rfl ?_
      refine j_get (v := .int q17) hE lg_Falls_31 0 rfl 0 (wg_Falls_0 g a (up2 q12.1 5 0 q17)) rfl dX0_part_112 ?_
      refine j_isub hE dX0_part_115 ?_
      refine j_put (v := .int ((1000 * (q12.1 3 0)) - q17)) (ws' := ([n_Falls g a (up2 (up2 q12.1 5 0 q17) 6 0 ((1000 * (q12.1 3 0)) - q17)), n_Odds g (fun i => a (i + 1)) fod_z q15, n_Road g b ro_z, n_Kinds g (fun i => b (i + 8)) ki_z, n_Rule g (fun i => b (i + 14)) ru_z ru_y, n_Notes g (fun i => b (i + 17)) no_z] : List va_W)) hE lp_Falls_34 0 rfl 0 (wg_Falls_0 g a (up2 q12.1 5 0 q17)) rfl rfl (Nat.le_of_ble_eq_true rfl) (wp_Falls_6 g a (up2 q12.1 5 0 q17) ((1000 * (q12.1 3 0)) - q17)) rfl dX0_part_116 ?_
      refine j_aload_n hE dX0_part_119 rfl 1 rfl ?_
      refine j_aload_n hE dX0_part_120 rfl 1 rfl ?_
      refine j_get (v := .int q17) hE lg_Falls_31 0 rfl 0 (wg_Falls_0 g a (up2 (up2 q12.1 5 0 q17) 6 0 ((1000 * (q12.1 3 0)) - q17))) rfl dX0_part_121 ?_
      refine j_aload_n hE dX0_part_124 rfl 1 rfl ?_
      refine j_aload_n hE dX0_part_125 rfl 1 rfl ?_
      refine j_get (v := .int q17) hE lg_Falls_31 0 rfl 0 (wg_Falls_0 g a (up2 (up2 q12.1 5 0 q17) 6 0 ((1000 * (q12.1 3 0)) - q17))) rfl dX0_part_126 ?_
      obtain ⟨q19, hc20, hf⟩ := bind_of hf
      refine j_callV (ws' := ([n_Falls g a (up2 (up2 q12.1 5 0 q17) 6 0 ((1000 * (q12.1 3 0)) - q17)), n_Odds g (fun i => a (i + 1)) fod_z q15, n_Road g b ro_z, n_Kinds g (fun i => b (i + 8)) ki_z, n_Rule g (fun i => b (i + 14)) ru_z ru_y, n_Notes g (fun i => b (i + 17)) no_z] : List va_W)) (As := [.int q17]) (rest := [.int q17, .ref (a 0)]) (st2 := [.int q19, .int q17, .ref (a 0)]) hE (fun l => c_Falls_left l g a (up2 (up2 q12.1 5 0 q17) 6 0 ((1000 * (q12.1 3 0)) - q17)) fod_z q15 q17 q19 hc20) cd_X0_left cv_X0_left ml_Falls_93 rfl rfl rfl (wg_Falls_0 _ _ _) ⟨⟨Nat.le_of_ble_eq_true rfl, Nat.le_of_ble_eq_true rfl⟩, ⟨Nat.zero_le _, Nat.zero_le _⟩, rfl, rfl⟩ [0, 1] rfl rfl rfl (Nat.le_of_ble_eq_true rfl) rfl dX0_part_129 ?_
      refine j_isub hE dX0_part_132 ?_
      refine j_put (v := .int (q17 - q19)) (ws' := ([n_Falls g a (up2 (up2 (up2 q12.1 5 0 q17) 6 0 ((1000 * (q12.1 3 0)) - q17)) 7 0 (q17 - q19)), n_Odds g (fun i => a (i + 1)) fod_z q15, n_Road g b ro_z, n_Kinds g (fun i => b (i + 8)) ki_z, n_Rule g (fun i => b (i + 14)) ru_z ru_y, n_Notes g (fun i => b (i + 17)) no_z] : List va_W)) hE lp_Falls_37 0 rfl 0 (wg_Falls_0 g a (up2 (up2 q12.1 5 0 q17) 6 0 ((1000 * (q12.1 3 0)) - q17))) rfl rfl (Nat.le_of_ble_eq_true rfl) (wp_Falls_7 g a (up2 (up2 q12.1 5 0 q17) 6 0 ((1000 * (q12.1 3 0)) - q17)) (q17 - q19)) rfl dX0_part_133 ?_
      refine j_aload_n hE dX0_part_136 rfl 2 rfl ?_
      refine j_get (v := .ref (b 5)) hE lg_Falls_97 2 rfl 0 (wg_Road_0 g b ro_z) rfl dX0_part_137 ?_
      refine j_iload_n hE dX0_part_140 rfl 3 rfl ?_
      refine j_iald hE hf 2 rfl 5 (wg_Road_5 g b ro_z) dX0_part_141 (fun hf => ?_)
      refine j_iload_n hE dX0_part_142 rfl 0 rfl ?_
      refine j_iload_n hE dX0_part_143 rfl 0 rfl ?_
      refine j_iconst (v := 2) hE dX0_part_144 (by decide) ?_
      refine j_iadd hE dX0_part_145 ?_
      obtain ⟨q22, hc23, hf⟩ := bind_of hf
      refine j_callSN (ws' := ([n_Falls g a (up2 (up2 (up2 q12.1 5 0 q17) 6 0 ((1000 * (q12.1 3 0)) - q17)) 7 0 (q17 - q19)), n_Odds g (fun i => a (i + 1)) fod_z q15, n_Road g b ro_z, n_Kinds g (fun i => b (i + 8)) ki_z, n_Rule g (fun i => b (i + 14)) ru_z ru_y, n_Notes g (fun i => b (i + 17)) no_z] : List va_W)) (As := [.int (ro_z 12 (Int32.toNatClampNeg x2)), .int s0, .int (s0 + 2)]) (rest := []) (st2 := [.int q22]) hE (fun l => c_WP_isWithin l g (ro_z 12 (Int32.toNatClampNeg x2)) s0 (s0 + 2) q22 hc23) cd_X11_isWithin st_X11_isWithin ml_Falls_65 rfl rfl ⟨⟨Nat.le_of_ble_eq_true rfl, Nat.le_of_ble_eq_true rfl⟩, ⟨Nat.zero_le _, Nat.zero_le _⟩, rfl, rfl⟩ [] rfl rfl rfl (Nat.le_of_ble_eq_true rfl) rfl dX0_part_146 ?_
      refine j_istore (lv' := [(4, .int q22), (3, .int s0), (0, .ref (a 0)), (1, .ref (b 0)), (2, .int x2)]) hE dX0_part_149 (by decide) rfl ?_
      refine j_aload_n hE dX0_part_151 rfl 2 rfl ?_
      refine j_iload hE dX0_part_152 0 rfl ?_
      refine j_if_eq (tgt := 179) hE hf dX0_part_154 (by decide) (fun c24 hf => ?_) (fun c24 hf => ?_)
      · refine j_iconst (v := 0) hE dX0_part_179 (by decide) ?_
        exact j_sub [2] rfl (j_Falls_part_180 E g a b fod_z ro_z ki_z ru_z ru_y no_z x2 res hE hq (up2 (up2 (up2 q12.1 5 0 q17) 6 0 ((1000 * (q12.1 3 0)) - q17)) 7 0 (q17 - q19)) q15 0 hf)
      · refine j_aload_n hE dX0_part_157 rfl 2 rfl ?_
        refine j_get (v := .int q17) hE lg_Falls_31 0 rfl 0 (wg_Falls_0 g a (up2 (up2 (up2 q12.1 5 0 q17) 6 0 ((1000 * (q12.1 3 0)) - q17)) 7 0 (q17 - q19))) rfl dX0_part_158 ?_
        refine j_aload_n hE dX0_part_161 rfl 2 rfl ?_
        refine j_get (v := .int (q17 - q19)) hE lg_Falls_37 0 rfl 0 (wg_Falls_0 g a (up2 (up2 (up2 q12.1 5 0 q17) 6 0 ((1000 * (q12.1 3 0)) - q17)) 7 0 (q17 - q19))) rfl dX0_part_162 ?_
        refine j_isub hE dX0_part_165 ?_
        refine j_aload_n hE dX0_part_166 rfl 3 rfl ?_
        refine j_get (v := .ref (b 6)) hE lg_Falls_100 2 rfl 0 (wg_Road_0 g b ro_z) rfl dX0_part_167 ?_
        refine j_iload_n hE dX0_part_170 rfl 4 rfl ?_
        refine j_iald hE hf 2 rfl 6 (wg_Road_6 g b ro_z) dX0_part_171 (fun hf => ?_)
        refine j_imul hE dX0_part_172 ?_
        refine j_bipush (v := 10) hE dX0_part_173 (by decide) ?_
        refine j_idiv_c hE (by decide) dX0_part_175 ?_
        refine j_goto (tgt := 180) hE dX0_part_176 (by decide) ?_
        exact j_sub [2] rfl (j_Falls_part_180 E g a b fod_z ro_z ki_z ru_z ru_y no_z x2 res hE hq (up2 (up2 (up2 q12.1 5 0 q17) 6 0 ((1000 * (q12.1 3 0)) - q17)) 7 0 (q17 - q19)) q15 (((q17 - (q17 - q19)) * (ro_z 13 (Int32.toNatClampNeg x2))) / 10) hf)
    · refine j_iconst (v := 0) hE dX0_part_63 (by decide) ?_
      obtain rfl := Option.some.inj hf
      exact j_zret_c hE (Or.inl rfl) hq rfl rfl dX0_part_64
  · refine j_iconst (v := 0) hE dX0_part_29 (by decide) ?_
    obtain rfl := Option.some.inj hf
    exact j_zret_c hE (Or.inl rfl) hq rfl rfl dX0_part_30
set_option maxRecDepth 100000 in
theorem c_Falls_part (l : Launch) (g : jG) (a : Nat → Nat) (b : Nat → Nat) (fa_z : jZ) (fod_z : jZ) (fod_y : jY) (ro_z : jZ) (ki_z : jZ) (ru_z : jZ) (ru_y : jY) (no_z : jZ) (x2 : Int32) (res : jZ × jY × Int32) (hf : f_Falls_part fa_z fod_y ro_z ki_z no_z x2 = some res) : MC l g yX0_part cX0_part 5 (some .boolean) rm_Falls_part [.ref (a 0), .ref (b 0), .int x2] (([n_Falls g a fa_z, n_Odds g (fun i => a (i + 1)) fod_z fod_y, n_Road g b ro_z, n_Kinds g (fun i => b (i + 8)) ki_z, n_Rule g (fun i => b (i + 14)) ru_z ru_y, n_Notes g (fun i => b (i + 17)) no_z] : List va_W)) (some (.int res.2.2)) (([n_Falls g a res.1, n_Odds g (fun i => a (i + 1)) fod_z res.2.1, n_Road g b ro_z, n_Kinds g (fun i => b (i + 8)) ki_z, n_Rule g (fun i => b (i + 14)) ru_z ru_y, n_Notes g (fun i => b (i + 17)) no_z] : List va_W)) 0 0 := by
  refine MC_of (own := RX0) (lv := [(0, .ref (a 0)), (1, .ref (b 0)), (2, .int x2)]) (by decide) rfl (Nat.le_of_ble_eq_true rfl) rfl rfl (fun E hE hq => ?_)
  unfold f_Falls_part at hf
  refine j_aload_n hE dX0_part_0 rfl 1 rfl ?_
  refine j_iload_n hE dX0_part_1 rfl 2 rfl ?_
  obtain ⟨q1, hc2, hf⟩ := bind_of hf
  refine j_callV (ws' := ([n_Falls g a fa_z, n_Odds g (fun i => a (i + 1)) fod_z fod_y, n_Road g b ro_z, n_Kinds g (fun i => b (i + 8)) ki_z, n_Rule g (fun i => b (i + 14)) ru_z ru_y, n_Notes g (fun i => b (i + 17)) no_z] : List va_W)) (As := [.int x2]) (rest := []) (st2 := [.int q1]) hE (fun l => c_Road_has l g b ro_z ki_z ru_z ru_y no_z x2 q1 hc2) cd_X8_has cv_X8_has ml_Falls_55 rfl rfl rfl (wg_Road_0 _ _ _) ⟨⟨Nat.le_of_ble_eq_true rfl, Nat.le_of_ble_eq_true rfl⟩, ⟨Nat.zero_le _, Nat.zero_le _⟩, rfl, rfl⟩ [2, 3, 4, 5] rfl rfl rfl (Nat.le_of_ble_eq_true rfl) rfl dX0_part_2 ?_
  refine j_if_eq (tgt := 17) hE hf dX0_part_5 (by decide) (fun c3 hf => ?_) (fun c3 hf => ?_)
  · refine j_iconst (v := 0) hE dX0_part_17 (by decide) ?_
    exact j_Falls_part_18 E g a b fod_z ro_z ki_z ru_z ru_y no_z x2 res hE hq fa_z fod_y 0 hf
  · refine j_aload_n hE dX0_part_8 rfl 1 rfl ?_
    refine j_get (v := .ref (b 4)) hE lg_Falls_61 2 rfl 0 (wg_Road_0 g b ro_z) rfl dX0_part_9 ?_
    refine j_iload_n hE dX0_part_12 rfl 2 rfl ?_
    refine j_iald hE hf 2 rfl 4 (wg_Road_4 g b ro_z) dX0_part_13 (fun hf => ?_)
    refine j_goto (tgt := 18) hE dX0_part_14 (by decide) ?_
    exact j_Falls_part_18 E g a b fod_z ro_z ki_z ru_z ru_y no_z x2 res hE hq fa_z fod_y (ro_z 11 (Int32.toNatClampNeg x2)) hf
def rm_Falls_seekDealt : Room := { frames := 3, cells := 0, slots := 0, locals := 72 }
def f_Falls_seekDealt_165 (ro_z : jZ) (no_z : jZ) (x2 : Int32) (x3 : Int32)  (fa_z : jZ) (fod_y : jY) (v4 : Int32) (v5 : Int32) : Option (jZ × jY) := (f_Odds_reduce fod_y (Int32.toInt64 ((v4 * (fa_z 12 0)) - (v5 * (fa_z 11 0)))) (Int32.toInt64 ((fa_z 11 0) * (fa_z 12 0)))).bind fun q9 => some (fa_z, q9)
def f_Falls_seekDealt_61 (ro_z : jZ) (no_z : jZ) (x2 : Int32) (x3 : Int32) (k19 : jZ → jY → Int32 → Int32 → Int32 → Option (jZ × jY)) (fa_z : jZ) (fod_y : jY) (v4 : Int32) (v5 : Int32) (v6 : Int32) (s0 : Int32) : Option (jZ × jY) := (if s0 = 0 then k19 fa_z fod_y v4 v5 (v6 + 1)
    else (f_Falls_seekSums fa_z no_z v6 x3).bind fun q12 => (if q12.2 = 0 then k19 q12.1 fod_y v4 v5 (v6 + 1)
    else (ix v6 12).bind fun _ => (if (ro_z 11 (Int32.toNatClampNeg v6)) = x3 then k19 (up2 q12.1 11 0 ((q12.1 11 0) + 1)) fod_y (v4 + ((q12.1 3 0) - (q12.1 4 0))) v5 (v6 + 1)
    else (f_Road_hasNoBoxBy ro_z v6 (x3 + 2)).bind fun q17 => (if q17 = 0 then k19 q12.1 fod_y v4 v5 (v6 + 1)
    else k19 (up2 q12.1 12 0 ((q12.1 12 0) + 1)) fod_y v4 (v5 + ((q12.1 3 0) - (q12.1 4 0))) (v6 + 1)))))
def f_Falls_seekDealt_19 (ro_z : jZ) (no_z : jZ) (x2 : Int32) (x3 : Int32)  : Nat → jZ → jY → Int32 → Int32 → Int32 → Option (jZ × jY)
  | 0, _, _, _, _, _ => none
  | n + 1, fa_z, fod_y, v4, v5, v6 => (if 12 ≤ v6 then f_Falls_seekDealt_165 ro_z no_z x2 x3 fa_z fod_y v4 v5
    else (f_Road_has ro_z v6).bind fun q2 => (if q2 = 0 then f_Falls_seekDealt_165 ro_z no_z x2 x3 fa_z fod_y v4 v5
    else (ix v6 12).bind fun _ => (if (ro_z 10 (Int32.toNatClampNeg v6)) = 0 then f_Falls_seekDealt_61 ro_z no_z x2 x3 (fun fa_z fod_y v4 v5 v6 => f_Falls_seekDealt_19 ro_z no_z x2 x3 n fa_z fod_y v4 v5 v6) fa_z fod_y v4 v5 v6 0
    else (ix v6 12).bind fun _ => (if (ro_z 9 (Int32.toNatClampNeg v6)) = x2 then f_Falls_seekDealt_61 ro_z no_z x2 x3 (fun fa_z fod_y v4 v5 v6 => f_Falls_seekDealt_19 ro_z no_z x2 x3 n fa_z fod_y v4 v5 v6) fa_z fod_y v4 v5 v6 1
    else f_Falls_seekDealt_61 ro_z no_z x2 x3 (fun fa_z fod_y v4 v5 v6 => f_Falls_seekDealt_19 ro_z no_z x2 x3 n fa_z fod_y v4 v5 v6) fa_z fod_y v4 v5 v6 0))))
def f_Falls_seekDealt (fa_z : jZ) (fod_y : jY) (ro_z : jZ) (no_z : jZ) (x2 : Int32) (x3 : Int32) : Option (jZ × jY) := f_Falls_seekDealt_19 ro_z no_z x2 x3 FU (up2 (up2 fa_z 11 0 0) 12 0 0) fod_y 0 0 0
set_option maxRecDepth 100000 in
theorem j_Falls_seekDealt_165 (E : jT) (g : jG) (a : Nat → Nat) (b : Nat → Nat) (fod_z : jZ) (ro_z : jZ) (ki_z : jZ) (ru_z : jZ) (ru_y : jY) (no_z : jZ) (x2 : Int32) (x3 : Int32) (res : jZ × jY) (hE : jOk E g RX0 cX0_seekDealt 8 (none : Option Jvm.ClassFile.FieldType) rm_Falls_seekDealt) (hq : jEnd E g none (([n_Falls g a res.1, n_Odds g (fun i => a (i + 1)) fod_z res.2, n_Road g b ro_z, n_Kinds g (fun i => b (i + 8)) ki_z, n_Rule g (fun i => b (i + 14)) ru_z ru_y, n_Notes g (fun i => b (i + 17)) no_z] : List va_W)) 0 0)  (fa_z : jZ) (fod_y : jY) (v4 : Int32) (v5 : Int32) (hf : f_Falls_seekDealt_165 ro_z no_z x2 x3 fa_z fod_y v4 v5 = some res) : J E g 0 0 (([n_Falls g a fa_z, n_Odds g (fun i => a (i + 1)) fod_z fod_y, n_Road g b ro_z, n_Kinds g (fun i => b (i + 8)) ki_z, n_Rule g (fun i => b (i + 14)) ru_z ru_y, n_Notes g (fun i => b (i + 17)) no_z] : List va_W)) [(0, .ref (a 0)), (4, .int v4), (5, .int v5)] 165 [] := by
  unfold f_Falls_seekDealt_165 at hf
  refine j_aload_n hE dX0_seekDealt_165 rfl 0 rfl ?_
  refine j_get (v := .ref (a 1)) hE lg_Falls_12 0 rfl 0 (wg_Falls_0 g a fa_z) rfl dX0_seekDealt_166 ?_
  refine j_iload hE dX0_seekDealt_169 1 rfl ?_
  refine j_aload_n hE dX0_seekDealt_171 rfl 0 rfl ?_
  refine j_get (v := .int (fa_z 12 0)) hE lg_Falls_52 0 rfl 0 (wg_Falls_0 g a fa_z) rfl dX0_seekDealt_172 ?_
  refine j_imul hE dX0_seekDealt_175 ?_
  refine j_iload hE dX0_seekDealt_176 2 rfl ?_
  refine j_aload_n hE dX0_seekDealt_178 rfl 0 rfl ?_
  refine j_get (v := .int (fa_z 11 0)) hE lg_Falls_49 0 rfl 0 (wg_Falls_0 g a fa_z) rfl dX0_seekDealt_179 ?_
  refine j_imul hE dX0_seekDealt_182 ?_
  refine j_isub hE dX0_seekDealt_183 ?_
  refine j_i2l hE dX0_seekDealt_184 ?_
  refine j_aload_n hE dX0_seekDealt_185 rfl 0 rfl ?_
  refine j_get (v := .int (fa_z 11 0)) hE lg_Falls_49 0 rfl 0 (wg_Falls_0 g a fa_z) rfl dX0_seekDealt_186 ?_
  refine j_aload_n hE dX0_seekDealt_189 rfl 0 rfl ?_
  refine j_get (v := .int (fa_z 12 0)) hE lg_Falls_52 0 rfl 0 (wg_Falls_0 g a fa_z) rfl dX0_seekDealt_190 ?_
  refine j_imul hE dX0_seekDealt_193 ?_
  refine j_i2l hE dX0_seekDealt_194 ?_
  obtain ⟨q9, hc10, hf⟩ := bind_of hf
  refine j_callV (ws' := ([n_Falls g a fa_z, n_Odds g (fun i => a (i + 1)) fod_z q9, n_Road g b ro_z, n_Kinds g (fun i => b (i + 8)) ki_z, n_Rule g (fun i => b (i + 14)) ru_z ru_y, n_Notes g (fun i => b (i + 17)) no_z] : List va_W)) (As := [.long (Int32.toInt64 ((v4 * (fa_z 12 0)) - (v5 * (fa_z 11 0)))), .long (Int32.toInt64 ((fa_z 11 0) * (fa_z 12 0)))]) (rest := []) (st2 := []) hE (fun l => c_Odds_reduce l g (fun i => a (i + 1)) fod_z fod_y (Int32.toInt64 ((v4 * (fa_z 12 0)) - (v5 * (fa_z 11 0)))) (Int32.toInt64 ((fa_z 11 0) * (fa_z 12 0))) q9 hc10) cd_X5_reduce cv_X5_reduce ml_Falls_114 rfl rfl rfl (wg_Odds_0 _ _ _ _) ⟨⟨Nat.le_of_ble_eq_true rfl, Nat.le_of_ble_eq_true rfl⟩, ⟨Nat.zero_le _, Nat.zero_le _⟩, rfl, rfl⟩ [1] rfl rfl rfl (Nat.le_of_ble_eq_true rfl) rfl dX0_seekDealt_195 ?_
  obtain rfl := Option.some.inj hf
  exact j_vret hE hq rfl rfl dX0_seekDealt_198
set_option maxRecDepth 100000 in
theorem j_Falls_seekDealt_61 (E : jT) (g : jG) (a : Nat → Nat) (b : Nat → Nat) (fod_z : jZ) (ro_z : jZ) (ki_z : jZ) (ru_z : jZ) (ru_y : jY) (no_z : jZ) (x2 : Int32) (x3 : Int32) (res : jZ × jY) (hE : jOk E g RX0 cX0_seekDealt 8 (none : Option Jvm.ClassFile.FieldType) rm_Falls_seekDealt) (hq : jEnd E g none (([n_Falls g a res.1, n_Odds g (fun i => a (i + 1)) fod_z res.2, n_Road g b ro_z, n_Kinds g (fun i => b (i + 8)) ki_z, n_Rule g (fun i => b (i + 14)) ru_z ru_y, n_Notes g (fun i => b (i + 17)) no_z] : List va_W)) 0 0) (k19 : jZ → jY → Int32 → Int32 → Int32 → Option (jZ × jY)) (hk19 : ∀ (fa_z : jZ) (fod_y : jY) (v4 : Int32) (v5 : Int32) (v6 : Int32), k19 fa_z fod_y v4 v5 v6 = some res → J E g 0 0 (([n_Falls g a fa_z, n_Odds g (fun i => a (i + 1)) fod_z fod_y, n_Road g b ro_z, n_Kinds g (fun i => b (i + 8)) ki_z, n_Rule g (fun i => b (i + 14)) ru_z ru_y, n_Notes g (fun i => b (i + 17)) no_z] : List va_W)) [(0, .ref (a 0)), (1, .ref (b 0)), (2, .int x2), (3, .int x3), (4, .int v4), (5, .int v5), (6, .int v6)] 19 []) (fa_z : jZ) (fod_y : jY) (v4 : Int32) (v5 : Int32) (v6 : Int32) (s0 : Int32) (hf : f_Falls_seekDealt_61 ro_z no_z x2 x3 k19 fa_z fod_y v4 v5 v6 s0 = some res) : J E g 0 0 (([n_Falls g a fa_z, n_Odds g (fun i => a (i + 1)) fod_z fod_y, n_Road g b ro_z, n_Kinds g (fun i => b (i + 8)) ki_z, n_Rule g (fun i => b (i + 14)) ru_z ru_y, n_Notes g (fun i => b (i + 17)) no_z] : List va_W)) [(0, .ref (a 0)), (1, .ref (b 0)), (2, .int x2), (3, .int x3), (4, .int v4), (5, .int v5), (6, .int v6)] 61 [.int s0] := by
  unfold f_Falls_seekDealt_61 at hf
  refine j_istore (lv' := [(7, .int s0), (0, .ref (a 0)), (1, .ref (b 0)), (2, .int x2), (3, .int x3), (4, .int v4), (5, .int v5), (6, .int v6)]) hE dX0_seekDealt_61 (by decide) rfl ?_
  refine j_iload hE dX0_seekDealt_63 0 rfl ?_
  refine j_if_eq (tgt := 159) hE hf dX0_seekDealt_65 (by decide) (fun c11 hf => ?_) (fun c11 hf => ?_)
  · refine j_iinc (v := (v6 + 1)) (lv' := [(6, .int (v6 + 1)), (7, .int s0), (0, .ref (a 0)), (1, .ref (b 0)), (2, .int x2), (3, .int x3), (4, .int v4), (5, .int v5)]) hE dX0_seekDealt_159 7 rfl rfl (by decide) rfl ?_
    refine j_goto (tgt := 19) hE dX0_seekDealt_162 (by decide) ?_
    exact j_sub [2, 3, 4, 5, 6, 7, 0] rfl (hk19 fa_z fod_y v4 v5 (v6 + 1) hf)
  · refine j_aload_n hE dX0_seekDealt_68 rfl 1 rfl ?_
    refine j_aload_n hE dX0_seekDealt_69 rfl 2 rfl ?_
    refine j_get (v := .ref (b 17)) hE lg_Falls_77 2 rfl 0 (wg_Road_0 g b ro_z) rfl dX0_seekDealt_70 ?_
    refine j_iload hE dX0_seekDealt_73 7 rfl ?_
    refine j_iload_n hE dX0_seekDealt_75 rfl 4 rfl ?_
    obtain ⟨q12, hc13, hf⟩ := bind_of hf
    refine j_callV (ws' := ([n_Falls g a q12.1, n_Odds g (fun i => a (i + 1)) fod_z fod_y, n_Road g b ro_z, n_Kinds g (fun i => b (i + 8)) ki_z, n_Rule g (fun i => b (i + 14)) ru_z ru_y, n_Notes g (fun i => b (i + 17)) no_z] : List va_W)) (As := [.ref (b 17), .int v6, .int x3]) (rest := []) (st2 := [.int q12.2]) hE (fun l => c_Falls_seekSums l g a (fun i => b (i + 17)) fa_z fod_z fod_y no_z v6 x3 q12 hc13) cd_X0_seekSums cv_X0_seekSums ml_Falls_81 rfl rfl rfl (wg_Falls_0 _ _ _) ⟨⟨Nat.le_of_ble_eq_true rfl, Nat.le_of_ble_eq_true rfl⟩, ⟨Nat.zero_le _, Nat.zero_le _⟩, rfl, rfl⟩ [0, 1, 5] rfl rfl rfl (Nat.le_of_ble_eq_true rfl) rfl dX0_seekDealt_76 ?_
    refine j_if_ne (tgt := 85) hE hf dX0_seekDealt_79 (by decide) (fun c14 hf => ?_) (fun c14 hf => ?_)
    · refine j_aload_n hE dX0_seekDealt_85 rfl 2 rfl ?_
      refine j_get (v := .ref (b 4)) hE lg_Falls_61 2 rfl 0 (wg_Road_0 g b ro_z) rfl dX0_seekDealt_86 ?_
      refine j_iload hE dX0_seekDealt_89 7 rfl ?_
      refine j_iald hE hf 2 rfl 4 (wg_Road_4 g b ro_z) dX0_seekDealt_91 (fun hf => ?_)
      refine j_iload_n hE dX0_seekDealt_92 rfl 4 rfl ?_
      refine j_icmp_ne (tgt := 123) hE hf dX0_seekDealt_93 (by decide) (fun c16 hf => ?_) (fun c16 hf => ?_)
      · refine j_aload_n hE dX0_seekDealt_123 rfl 2 rfl ?_
        refine j_iload hE dX0_seekDealt_124 7 rfl ?_
        refine j_iload_n hE dX0_seekDealt_126 rfl 4 rfl ?_
        refine j_iconst (v := 2) hE dX0_seekDealt_127 (by decide) ?_
        refine j_iadd hE dX0_seekDealt_128 ?_
        obtain ⟨q17, hc18, hf⟩ := bind_of hf
        refine j_callV (ws' := ([n_Falls g a q12.1, n_Odds g (fun i => a (i + 1)) fod_z fod_y, n_Road g b ro_z, n_Kinds g (fun i => b (i + 8)) ki_z, n_Rule g (fun i => b (i + 14)) ru_z ru_y, n_Notes g (fun i => b (i + 17)) no_z] : List va_W)) (As := [.int v6, .int (x3 + 2)]) (rest := []) (st2 := [.int q17]) hE (fun l => c_Road_hasNoBoxBy l g b ro_z ki_z ru_z ru_y no_z v6 (x3 + 2) q17 hc18) cd_X8_hasNoBoxBy cv_X8_hasNoBoxBy ml_Falls_110 rfl rfl rfl (wg_Road_0 _ _ _) ⟨⟨Nat.le_of_ble_eq_true rfl, Nat.le_of_ble_eq_true rfl⟩, ⟨Nat.zero_le _, Nat.zero_le _⟩, rfl, rfl⟩ [2, 3, 4, 5] rfl rfl rfl (Nat.le_of_ble_eq_true rfl) rfl dX0_seekDealt_129 ?_
        refine j_if_eq (tgt := 159) hE hf dX0_seekDealt_132 (by decide) (fun c19 hf => ?_) (fun c19 hf => ?_)
        · refine j_iinc (v := (v6 + 1)) (lv' := [(6, .int (v6 + 1)), (7, .int s0), (0, .ref (a 0)), (1, .ref (b 0)), (2, .int x2), (3, .int x3), (4, .int v4), (5, .int v5)]) hE dX0_seekDealt_159 7 rfl rfl (by decide) rfl ?_
          refine j_goto (tgt := 19) hE dX0_seekDealt_162 (by decide) ?_
          exact j_sub [2, 3, 4, 5, 6, 7, 0] rfl (hk19 q12.1 fod_y v4 v5 (v6 + 1) hf)
        · refine j_aload_n hE dX0_seekDealt_135 rfl 1 rfl ?_
          refine j_dup hE dX0_seekDealt_136 rfl ?_
          refine j_get (v := .int (q12.1 12 0)) hE lg_Falls_52 0 rfl 0 (wg_Falls_0 g a q12.1) rfl dX0_seekDealt_137 ?_
          refine j_iconst (v := 1) hE dX0_seekDealt_140 (by decide) ?_
          refine j_iadd hE dX0_seekDealt_141 ?_
          refine j_put (v := .int ((q12.1 12 0) + 1)) (ws' := ([n_Falls g a (up2 q12.1 12 0 ((q12.1 12 0) + 1)), n_Odds g (fun i => a (i + 1)) fod_z fod_y, n_Road g b ro_z, n_Kinds g (fun i => b (i + 8)) ki_z, n_Rule g (fun i => b (i + 14)) ru_z ru_y, n_Notes g (fun i => b (i + 17)) no_z] : List va_W)) hE lp_Falls_52 0 rfl 0 (wg_Falls_0 g a q12.1) rfl rfl (Nat.le_of_ble_eq_true rfl) (wp_Falls_12 g a q12.1 ((q12.1 12 0) + 1)) rfl dX0_seekDealt_142 ?_
          refine j_iload hE dX0_seekDealt_145 6 rfl ?_
          refine j_aload_n hE dX0_seekDealt_147 rfl 1 rfl ?_
          refine j_get (v := .int (q12.1 3 0)) hE lg_Falls_25 0 rfl 0 (wg_Falls_0 g a (up2 q12.1 12 0 ((q12.1 12 0) + 1))) rfl dX0_seekDealt_148 ?_
          refine j_aload_n hE dX0_seekDealt_151 rfl 1 rfl ?_
          refine j_get (v := .int (q12.1 4 0)) hE lg_Falls_28 0 rfl 0 (wg_Falls_0 g a (up2 q12.1 12 0 ((q12.1 12 0) + 1))) rfl dX0_seekDealt_152 ?_
          refine j_isub hE dX0_seekDealt_155 ?_
          refine j_iadd hE dX0_seekDealt_156 ?_
          refine j_istore (lv' := [(5, .int (v5 + ((q12.1 3 0) - (q12.1 4 0)))), (7, .int s0), (0, .ref (a 0)), (1, .ref (b 0)), (2, .int x2), (3, .int x3), (4, .int v4), (6, .int v6)]) hE dX0_seekDealt_157 (by decide) rfl ?_
          refine j_iinc (v := (v6 + 1)) (lv' := [(6, .int (v6 + 1)), (5, .int (v5 + ((q12.1 3 0) - (q12.1 4 0)))), (7, .int s0), (0, .ref (a 0)), (1, .ref (b 0)), (2, .int x2), (3, .int x3), (4, .int v4)]) hE dX0_seekDealt_159 7 rfl rfl (by decide) rfl ?_
          refine j_goto (tgt := 19) hE dX0_seekDealt_162 (by decide) ?_
          exact j_sub [3, 4, 5, 6, 7, 1, 0] rfl (hk19 (up2 q12.1 12 0 ((q12.1 12 0) + 1)) fod_y v4 (v5 + ((q12.1 3 0) - (q12.1 4 0))) (v6 + 1) hf)
      · refine j_aload_n hE dX0_seekDealt_96 rfl 1 rfl ?_
        refine j_dup hE dX0_seekDealt_97 rfl ?_
        refine j_get (v := .int (q12.1 11 0)) hE lg_Falls_49 0 rfl 0 (wg_Falls_0 g a q12.1) rfl dX0_seekDealt_98 ?_
        refine j_iconst (v := 1) hE dX0_seekDealt_101 (by decide) ?_
        refine j_iadd hE dX0_seekDealt_102 ?_
        refine j_put (v := .int ((q12.1 11 0) + 1)) (ws' := ([n_Falls g a (up2 q12.1 11 0 ((q12.1 11 0) + 1)), n_Odds g (fun i => a (i + 1)) fod_z fod_y, n_Road g b ro_z, n_Kinds g (fun i => b (i + 8)) ki_z, n_Rule g (fun i => b (i + 14)) ru_z ru_y, n_Notes g (fun i => b (i + 17)) no_z] : List va_W)) hE lp_Falls_49 0 rfl 0 (wg_Falls_0 g a q12.1) rfl rfl (Nat.le_of_ble_eq_true rfl) (wp_Falls_11 g a q12.1 ((q12.1 11 0) + 1)) rfl dX0_seekDealt_103 ?_
        refine j_iload hE dX0_seekDealt_106 5 rfl ?_
        refine j_aload_n hE dX0_seekDealt_108 rfl 1 rfl ?_
        refine j_get (v := .int (q12.1 3 0)) hE lg_Falls_25 0 rfl 0 (wg_Falls_0 g a (up2 q12.1 11 0 ((q12.1 11 0) + 1))) rfl dX0_seekDealt_109 ?_
        refine j_aload_n hE dX0_seekDealt_112 rfl 1 rfl ?_
        refine j_get (v := .int (q12.1 4 0)) hE lg_Falls_28 0 rfl 0 (wg_Falls_0 g a (up2 q12.1 11 0 ((q12.1 11 0) + 1))) rfl dX0_seekDealt_113 ?_
        refine j_isub hE dX0_seekDealt_116 ?_
        refine j_iadd hE dX0_seekDealt_117 ?_
        refine j_istore (lv' := [(4, .int (v4 + ((q12.1 3 0) - (q12.1 4 0)))), (7, .int s0), (0, .ref (a 0)), (1, .ref (b 0)), (2, .int x2), (3, .int x3), (5, .int v5), (6, .int v6)]) hE dX0_seekDealt_118 (by decide) rfl ?_
        refine j_goto (tgt := 159) hE dX0_seekDealt_120 (by decide) ?_
        refine j_iinc (v := (v6 + 1)) (lv' := [(6, .int (v6 + 1)), (4, .int (v4 + ((q12.1 3 0) - (q12.1 4 0)))), (7, .int s0), (0, .ref (a 0)), (1, .ref (b 0)), (2, .int x2), (3, .int x3), (5, .int v5)]) hE dX0_seekDealt_159 7 rfl rfl (by decide) rfl ?_
        refine j_goto (tgt := 19) hE dX0_seekDealt_162 (by decide) ?_
        exact j_sub [3, 4, 5, 6, 1, 7, 0] rfl (hk19 (up2 q12.1 11 0 ((q12.1 11 0) + 1)) fod_y (v4 + ((q12.1 3 0) - (q12.1 4 0))) v5 (v6 + 1) hf)
    · refine j_goto (tgt := 159) hE dX0_seekDealt_82 (by decide) ?_
      refine j_iinc (v := (v6 + 1)) (lv' := [(6, .int (v6 + 1)), (7, .int s0), (0, .ref (a 0)), (1, .ref (b 0)), (2, .int x2), (3, .int x3), (4, .int v4), (5, .int v5)]) hE dX0_seekDealt_159 7 rfl rfl (by decide) rfl ?_
      refine j_goto (tgt := 19) hE dX0_seekDealt_162 (by decide) ?_
      exact j_sub [2, 3, 4, 5, 6, 7, 0] rfl (hk19 q12.1 fod_y v4 v5 (v6 + 1) hf)
set_option maxRecDepth 100000 in
theorem j_Falls_seekDealt_19 (E : jT) (g : jG) (a : Nat → Nat) (b : Nat → Nat) (fod_z : jZ) (ro_z : jZ) (ki_z : jZ) (ru_z : jZ) (ru_y : jY) (no_z : jZ) (x2 : Int32) (x3 : Int32) (res : jZ × jY) (hE : jOk E g RX0 cX0_seekDealt 8 (none : Option Jvm.ClassFile.FieldType) rm_Falls_seekDealt) (hq : jEnd E g none (([n_Falls g a res.1, n_Odds g (fun i => a (i + 1)) fod_z res.2, n_Road g b ro_z, n_Kinds g (fun i => b (i + 8)) ki_z, n_Rule g (fun i => b (i + 14)) ru_z ru_y, n_Notes g (fun i => b (i + 17)) no_z] : List va_W)) 0 0)  : ∀ (n : Nat) (fa_z : jZ) (fod_y : jY) (v4 : Int32) (v5 : Int32) (v6 : Int32), f_Falls_seekDealt_19 ro_z no_z x2 x3 n fa_z fod_y v4 v5 v6 = some res → J E g 0 0 (([n_Falls g a fa_z, n_Odds g (fun i => a (i + 1)) fod_z fod_y, n_Road g b ro_z, n_Kinds g (fun i => b (i + 8)) ki_z, n_Rule g (fun i => b (i + 14)) ru_z ru_y, n_Notes g (fun i => b (i + 17)) no_z] : List va_W)) [(0, .ref (a 0)), (1, .ref (b 0)), (2, .int x2), (3, .int x3), (4, .int v4), (5, .int v5), (6, .int v6)] 19 [] := by
  intro n
  induction n with
  | zero =>
    intro fa_z fod_y v4 v5 v6 hf
    rw [f_Falls_seekDealt_19] at hf
    cases hf
  | succ n ih =>
    intro fa_z fod_y v4 v5 v6 hf
    rw [f_Falls_seekDealt_19] at hf
    refine j_iload hE dX0_seekDealt_19 6 rfl ?_
    refine j_bipush (v := 12) hE dX0_seekDealt_21 (by decide) ?_
    refine j_icmp_ge (tgt := 165) hE hf dX0_seekDealt_23 (by decide) (fun c1 hf => ?_) (fun c1 hf => ?_)
    · exact j_sub [0, 4, 5] rfl (j_Falls_seekDealt_165 E g a b fod_z ro_z ki_z ru_z ru_y no_z x2 x3 res hE hq fa_z fod_y v4 v5 hf)
    · refine j_aload_n hE dX0_seekDealt_26 rfl 1 rfl ?_
      refine j_iload hE dX0_seekDealt_27 6 rfl ?_
      obtain ⟨q2, hc3, hf⟩ := bind_of hf
      refine j_callV (ws' := ([n_Falls g a fa_z, n_Odds g (fun i => a (i + 1)) fod_z fod_y, n_Road g b ro_z, n_Kinds g (fun i => b (i + 8)) ki_z, n_Rule g (fun i => b (i + 14)) ru_z ru_y, n_Notes g (fun i => b (i + 17)) no_z] : List va_W)) (As := [.int v6]) (rest := []) (st2 := [.int q2]) hE (fun l => c_Road_has l g b ro_z ki_z ru_z ru_y no_z v6 q2 hc3) cd_X8_has cv_X8_has ml_Falls_55 rfl rfl rfl (wg_Road_0 _ _ _) ⟨⟨Nat.le_of_ble_eq_true rfl, Nat.le_of_ble_eq_true rfl⟩, ⟨Nat.zero_le _, Nat.zero_le _⟩, rfl, rfl⟩ [2, 3, 4, 5] rfl rfl rfl (Nat.le_of_ble_eq_true rfl) rfl dX0_seekDealt_29 ?_
      refine j_if_eq (tgt := 165) hE hf dX0_seekDealt_32 (by decide) (fun c4 hf => ?_) (fun c4 hf => ?_)
      · exact j_sub [0, 4, 5] rfl (j_Falls_seekDealt_165 E g a b fod_z ro_z ki_z ru_z ru_y no_z x2 x3 res hE hq fa_z fod_y v4 v5 hf)
      · refine j_aload_n hE dX0_seekDealt_35 rfl 1 rfl ?_
        refine j_get (v := .ref (b 3)) hE lg_Falls_103 2 rfl 0 (wg_Road_0 g b ro_z) rfl dX0_seekDealt_36 ?_
        refine j_iload hE dX0_seekDealt_39 6 rfl ?_
        refine j_zald hE hf 2 rfl 3 (wg_Road_3 g b ro_z) dX0_seekDealt_41 (fun hf => ?_)
        refine j_if_eq (tgt := 60) hE hf dX0_seekDealt_42 (by decide) (fun c6 hf => ?_) (fun c6 hf => ?_)
        · refine j_iconst (v := 0) hE dX0_seekDealt_60 (by decide) ?_
          exact j_Falls_seekDealt_61 E g a b fod_z ro_z ki_z ru_z ru_y no_z x2 x3 res hE hq (fun fa_z fod_y v4 v5 v6 => f_Falls_seekDealt_19 ro_z no_z x2 x3 n fa_z fod_y v4 v5 v6) (fun fa_z fod_y v4 v5 v6 hf => ih fa_z fod_y v4 v5 v6 hf) fa_z fod_y v4 v5 v6 0 hf
        · refine j_aload_n hE dX0_seekDealt_45 rfl 1 rfl ?_
          refine j_get (v := .ref (b 2)) hE lg_Falls_107 2 rfl 0 (wg_Road_0 g b ro_z) rfl dX0_seekDealt_46 ?_
          refine j_iload hE dX0_seekDealt_49 6 rfl ?_
          refine j_iald hE hf 2 rfl 2 (wg_Road_2 g b ro_z) dX0_seekDealt_51 (fun hf => ?_)
          refine j_iload_n hE dX0_seekDealt_52 rfl 2 rfl ?_
          refine j_icmp_ne (tgt := 60) hE hf dX0_seekDealt_53 (by decide) (fun c8 hf => ?_) (fun c8 hf => ?_)
          · refine j_iconst (v := 0) hE dX0_seekDealt_60 (by decide) ?_
            exact j_Falls_seekDealt_61 E g a b fod_z ro_z ki_z ru_z ru_y no_z x2 x3 res hE hq (fun fa_z fod_y v4 v5 v6 => f_Falls_seekDealt_19 ro_z no_z x2 x3 n fa_z fod_y v4 v5 v6) (fun fa_z fod_y v4 v5 v6 hf => ih fa_z fod_y v4 v5 v6 hf) fa_z fod_y v4 v5 v6 0 hf
          · refine j_iconst (v := 1) hE dX0_seekDealt_56 (by decide) ?_
            refine j_goto (tgt := 61) hE dX0_seekDealt_57 (by decide) ?_
            exact j_Falls_seekDealt_61 E g a b fod_z ro_z ki_z ru_z ru_y no_z x2 x3 res hE hq (fun fa_z fod_y v4 v5 v6 => f_Falls_seekDealt_19 ro_z no_z x2 x3 n fa_z fod_y v4 v5 v6) (fun fa_z fod_y v4 v5 v6 hf => ih fa_z fod_y v4 v5 v6 hf) fa_z fod_y v4 v5 v6 1 hf
set_option maxRecDepth 100000 in
theorem c_Falls_seekDealt (l : Launch) (g : jG) (a : Nat → Nat) (b : Nat → Nat) (fa_z : jZ) (fod_z : jZ) (fod_y : jY) (ro_z : jZ) (ki_z : jZ) (ru_z : jZ) (ru_y : jY) (no_z : jZ) (x2 : Int32) (x3 : Int32) (res : jZ × jY) (hf : f_Falls_seekDealt fa_z fod_y ro_z no_z x2 x3 = some res) : MC l g yX0_seekDealt cX0_seekDealt 8 (none : Option Jvm.ClassFile.FieldType) rm_Falls_seekDealt [.ref (a 0), .ref (b 0), .int x2, .int x3] (([n_Falls g a fa_z, n_Odds g (fun i => a (i + 1)) fod_z fod_y, n_Road g b ro_z, n_Kinds g (fun i => b (i + 8)) ki_z, n_Rule g (fun i => b (i + 14)) ru_z ru_y, n_Notes g (fun i => b (i + 17)) no_z] : List va_W)) none (([n_Falls g a res.1, n_Odds g (fun i => a (i + 1)) fod_z res.2, n_Road g b ro_z, n_Kinds g (fun i => b (i + 8)) ki_z, n_Rule g (fun i => b (i + 14)) ru_z ru_y, n_Notes g (fun i => b (i + 17)) no_z] : List va_W)) 0 0 := by
  refine MC_of (own := RX0) (lv := [(0, .ref (a 0)), (1, .ref (b 0)), (2, .int x2), (3, .int x3)]) (by decide) rfl (Nat.le_of_ble_eq_true rfl) rfl rfl (fun E hE hq => ?_)
  unfold f_Falls_seekDealt at hf
  refine j_aload_n hE dX0_seekDealt_0 rfl 0 rfl ?_
  refine j_iconst (v := 0) hE dX0_seekDealt_1 (by decide) ?_
  refine j_put (v := .int 0) (ws' := ([n_Falls g a (up2 fa_z 11 0 0), n_Odds g (fun i => a (i + 1)) fod_z fod_y, n_Road g b ro_z, n_Kinds g (fun i => b (i + 8)) ki_z, n_Rule g (fun i => b (i + 14)) ru_z ru_y, n_Notes g (fun i => b (i + 17)) no_z] : List va_W)) hE lp_Falls_49 0 rfl 0 (wg_Falls_0 g a fa_z) rfl rfl (Nat.le_of_ble_eq_true rfl) (wp_Falls_11 g a fa_z 0) rfl dX0_seekDealt_2 ?_
  refine j_aload_n hE dX0_seekDealt_5 rfl 0 rfl ?_
  refine j_iconst (v := 0) hE dX0_seekDealt_6 (by decide) ?_
  refine j_put (v := .int 0) (ws' := ([n_Falls g a (up2 (up2 fa_z 11 0 0) 12 0 0), n_Odds g (fun i => a (i + 1)) fod_z fod_y, n_Road g b ro_z, n_Kinds g (fun i => b (i + 8)) ki_z, n_Rule g (fun i => b (i + 14)) ru_z ru_y, n_Notes g (fun i => b (i + 17)) no_z] : List va_W)) hE lp_Falls_52 0 rfl 0 (wg_Falls_0 g a (up2 fa_z 11 0 0)) rfl rfl (Nat.le_of_ble_eq_true rfl) (wp_Falls_12 g a (up2 fa_z 11 0 0) 0) rfl dX0_seekDealt_7 ?_
  refine j_iconst (v := 0) hE dX0_seekDealt_10 (by decide) ?_
  refine j_istore (lv' := [(4, .int 0), (0, .ref (a 0)), (1, .ref (b 0)), (2, .int x2), (3, .int x3)]) hE dX0_seekDealt_11 (by decide) rfl ?_
  refine j_iconst (v := 0) hE dX0_seekDealt_13 (by decide) ?_
  refine j_istore (lv' := [(5, .int 0), (4, .int 0), (0, .ref (a 0)), (1, .ref (b 0)), (2, .int x2), (3, .int x3)]) hE dX0_seekDealt_14 (by decide) rfl ?_
  refine j_iconst (v := 0) hE dX0_seekDealt_16 (by decide) ?_
  refine j_istore (lv' := [(6, .int 0), (5, .int 0), (4, .int 0), (0, .ref (a 0)), (1, .ref (b 0)), (2, .int x2), (3, .int x3)]) hE dX0_seekDealt_17 (by decide) rfl ?_
  exact j_sub [3, 4, 5, 6, 2, 1, 0] rfl (j_Falls_seekDealt_19 E g a b fod_z ro_z ki_z ru_z ru_y no_z x2 x3 res hE hq FU (up2 (up2 fa_z 11 0 0) 12 0 0) fod_y 0 0 0 hf)
def rm_Falls_seekChosen : Room := { frames := 3, cells := 0, slots := 0, locals := 72 }
def f_Falls_seekChosen_50 (ro_z : jZ) (no_z : jZ) (x2 : Int32) (k8 : jZ → jY → Int32 → Int32 → Int32 → Option (jZ × jY)) (fa_z : jZ) (fod_y : jY) (v3 : Int32) (v4 : Int32) (v5 : Int32) (s0 : Int32) : Option (jZ × jY) := (if s0 = 0 then k8 fa_z fod_y v3 v4 (v5 + 1)
    else (f_Falls_seekSums fa_z no_z v5 x2).bind fun q14 => (if q14.2 = 0 then k8 q14.1 fod_y v3 v4 (v5 + 1)
    else k8 q14.1 fod_y (v3 + 1) (v4 + ((q14.1 3 0) - (q14.1 4 0))) (v5 + 1)))
def f_Falls_seekChosen_8 (ro_z : jZ) (no_z : jZ) (x2 : Int32)  : Nat → jZ → jY → Int32 → Int32 → Int32 → Option (jZ × jY)
  | 0, _, _, _, _, _ => none
  | n + 1, fa_z, fod_y, v3, v4, v5 => (if 12 ≤ v5 then (f_Odds_reduce fod_y (Int32.toInt64 v4) (Int32.toInt64 v3)).bind fun q2 => some (fa_z, q2)
    else (f_Road_has ro_z v5).bind fun q4 => (if q4 = 0 then (f_Odds_reduce fod_y (Int32.toInt64 v4) (Int32.toInt64 v3)).bind fun q7 => some (fa_z, q7)
    else (ix v5 12).bind fun _ => (if (ro_z 10 (Int32.toNatClampNeg v5)) = 0 then (ix v5 12).bind fun _ => (if (ro_z 11 (Int32.toNatClampNeg v5)) = x2 then f_Falls_seekChosen_50 ro_z no_z x2 (fun fa_z fod_y v3 v4 v5 => f_Falls_seekChosen_8 ro_z no_z x2 n fa_z fod_y v3 v4 v5) fa_z fod_y v3 v4 v5 1
    else f_Falls_seekChosen_50 ro_z no_z x2 (fun fa_z fod_y v3 v4 v5 => f_Falls_seekChosen_8 ro_z no_z x2 n fa_z fod_y v3 v4 v5) fa_z fod_y v3 v4 v5 0)
    else f_Falls_seekChosen_50 ro_z no_z x2 (fun fa_z fod_y v3 v4 v5 => f_Falls_seekChosen_8 ro_z no_z x2 n fa_z fod_y v3 v4 v5) fa_z fod_y v3 v4 v5 0)))
def f_Falls_seekChosen (fa_z : jZ) (fod_y : jY) (ro_z : jZ) (no_z : jZ) (x2 : Int32) : Option (jZ × jY) := f_Falls_seekChosen_8 ro_z no_z x2 FU fa_z fod_y 0 0 0
set_option maxRecDepth 100000 in
theorem j_Falls_seekChosen_50 (E : jT) (g : jG) (a : Nat → Nat) (b : Nat → Nat) (fod_z : jZ) (ro_z : jZ) (ki_z : jZ) (ru_z : jZ) (ru_y : jY) (no_z : jZ) (x2 : Int32) (res : jZ × jY) (hE : jOk E g RX0 cX0_seekChosen 7 (none : Option Jvm.ClassFile.FieldType) rm_Falls_seekChosen) (hq : jEnd E g none (([n_Falls g a res.1, n_Odds g (fun i => a (i + 1)) fod_z res.2, n_Road g b ro_z, n_Kinds g (fun i => b (i + 8)) ki_z, n_Rule g (fun i => b (i + 14)) ru_z ru_y, n_Notes g (fun i => b (i + 17)) no_z] : List va_W)) 0 0) (k8 : jZ → jY → Int32 → Int32 → Int32 → Option (jZ × jY)) (hk8 : ∀ (fa_z : jZ) (fod_y : jY) (v3 : Int32) (v4 : Int32) (v5 : Int32), k8 fa_z fod_y v3 v4 v5 = some res → J E g 0 0 (([n_Falls g a fa_z, n_Odds g (fun i => a (i + 1)) fod_z fod_y, n_Road g b ro_z, n_Kinds g (fun i => b (i + 8)) ki_z, n_Rule g (fun i => b (i + 14)) ru_z ru_y, n_Notes g (fun i => b (i + 17)) no_z] : List va_W)) [(0, .ref (a 0)), (1, .ref (b 0)), (2, .int x2), (3, .int v3), (4, .int v4), (5, .int v5)] 8 []) (fa_z : jZ) (fod_y : jY) (v3 : Int32) (v4 : Int32) (v5 : Int32) (s0 : Int32) (hf : f_Falls_seekChosen_50 ro_z no_z x2 k8 fa_z fod_y v3 v4 v5 s0 = some res) : J E g 0 0 (([n_Falls g a fa_z, n_Odds g (fun i => a (i + 1)) fod_z fod_y, n_Road g b ro_z, n_Kinds g (fun i => b (i + 8)) ki_z, n_Rule g (fun i => b (i + 14)) ru_z ru_y, n_Notes g (fun i => b (i + 17)) no_z] : List va_W)) [(0, .ref (a 0)), (1, .ref (b 0)), (2, .int x2), (3, .int v3), (4, .int v4), (5, .int v5)] 50 [.int s0] := by
  unfold f_Falls_seekChosen_50 at hf
  refine j_istore (lv' := [(6, .int s0), (0, .ref (a 0)), (1, .ref (b 0)), (2, .int x2), (3, .int v3), (4, .int v4), (5, .int v5)]) hE dX0_seekChosen_50 (by decide) rfl ?_
  refine j_iload hE dX0_seekChosen_52 0 rfl ?_
  refine j_if_eq (tgt := 88) hE hf dX0_seekChosen_54 (by decide) (fun c13 hf => ?_) (fun c13 hf => ?_)
  · refine j_iinc (v := (v5 + 1)) (lv' := [(5, .int (v5 + 1)), (6, .int s0), (0, .ref (a 0)), (1, .ref (b 0)), (2, .int x2), (3, .int v3), (4, .int v4)]) hE dX0_seekChosen_88 6 rfl rfl (by decide) rfl ?_
    refine j_goto (tgt := 8) hE dX0_seekChosen_91 (by decide) ?_
    exact j_sub [2, 3, 4, 5, 6, 0] rfl (hk8 fa_z fod_y v3 v4 (v5 + 1) hf)
  · refine j_aload_n hE dX0_seekChosen_57 rfl 1 rfl ?_
    refine j_aload_n hE dX0_seekChosen_58 rfl 2 rfl ?_
    refine j_get (v := .ref (b 17)) hE lg_Falls_77 2 rfl 0 (wg_Road_0 g b ro_z) rfl dX0_seekChosen_59 ?_
    refine j_iload hE dX0_seekChosen_62 6 rfl ?_
    refine j_iload_n hE dX0_seekChosen_64 rfl 3 rfl ?_
    obtain ⟨q14, hc15, hf⟩ := bind_of hf
    refine j_callV (ws' := ([n_Falls g a q14.1, n_Odds g (fun i => a (i + 1)) fod_z fod_y, n_Road g b ro_z, n_Kinds g (fun i => b (i + 8)) ki_z, n_Rule g (fun i => b (i + 14)) ru_z ru_y, n_Notes g (fun i => b (i + 17)) no_z] : List va_W)) (As := [.ref (b 17), .int v5, .int x2]) (rest := []) (st2 := [.int q14.2]) hE (fun l => c_Falls_seekSums l g a (fun i => b (i + 17)) fa_z fod_z fod_y no_z v5 x2 q14 hc15) cd_X0_seekSums cv_X0_seekSums ml_Falls_81 rfl rfl rfl (wg_Falls_0 _ _ _) ⟨⟨Nat.le_of_ble_eq_true rfl, Nat.le_of_ble_eq_true rfl⟩, ⟨Nat.zero_le _, Nat.zero_le _⟩, rfl, rfl⟩ [0, 1, 5] rfl rfl rfl (Nat.le_of_ble_eq_true rfl) rfl dX0_seekChosen_65 ?_
    refine j_if_eq (tgt := 88) hE hf dX0_seekChosen_68 (by decide) (fun c16 hf => ?_) (fun c16 hf => ?_)
    · refine j_iinc (v := (v5 + 1)) (lv' := [(5, .int (v5 + 1)), (6, .int s0), (0, .ref (a 0)), (1, .ref (b 0)), (2, .int x2), (3, .int v3), (4, .int v4)]) hE dX0_seekChosen_88 6 rfl rfl (by decide) rfl ?_
      refine j_goto (tgt := 8) hE dX0_seekChosen_91 (by decide) ?_
      exact j_sub [2, 3, 4, 5, 6, 0] rfl (hk8 q14.1 fod_y v3 v4 (v5 + 1) hf)
    · refine j_iinc (v := (v3 + 1)) (lv' := [(3, .int (v3 + 1)), (6, .int s0), (0, .ref (a 0)), (1, .ref (b 0)), (2, .int x2), (4, .int v4), (5, .int v5)]) hE dX0_seekChosen_71 4 rfl rfl (by decide) rfl ?_
      refine j_iload hE dX0_seekChosen_74 5 rfl ?_
      refine j_aload_n hE dX0_seekChosen_76 rfl 2 rfl ?_
      refine j_get (v := .int (q14.1 3 0)) hE lg_Falls_25 0 rfl 0 (wg_Falls_0 g a q14.1) rfl dX0_seekChosen_77 ?_
      refine j_aload_n hE dX0_seekChosen_80 rfl 2 rfl ?_
      refine j_get (v := .int (q14.1 4 0)) hE lg_Falls_28 0 rfl 0 (wg_Falls_0 g a q14.1) rfl dX0_seekChosen_81 ?_
      refine j_isub hE dX0_seekChosen_84 ?_
      refine j_iadd hE dX0_seekChosen_85 ?_
      refine j_istore (lv' := [(4, .int (v4 + ((q14.1 3 0) - (q14.1 4 0)))), (3, .int (v3 + 1)), (6, .int s0), (0, .ref (a 0)), (1, .ref (b 0)), (2, .int x2), (5, .int v5)]) hE dX0_seekChosen_86 (by decide) rfl ?_
      refine j_iinc (v := (v5 + 1)) (lv' := [(5, .int (v5 + 1)), (4, .int (v4 + ((q14.1 3 0) - (q14.1 4 0)))), (3, .int (v3 + 1)), (6, .int s0), (0, .ref (a 0)), (1, .ref (b 0)), (2, .int x2)]) hE dX0_seekChosen_88 6 rfl rfl (by decide) rfl ?_
      refine j_goto (tgt := 8) hE dX0_seekChosen_91 (by decide) ?_
      exact j_sub [4, 5, 6, 2, 1, 0] rfl (hk8 q14.1 fod_y (v3 + 1) (v4 + ((q14.1 3 0) - (q14.1 4 0))) (v5 + 1) hf)
set_option maxRecDepth 100000 in
theorem j_Falls_seekChosen_8 (E : jT) (g : jG) (a : Nat → Nat) (b : Nat → Nat) (fod_z : jZ) (ro_z : jZ) (ki_z : jZ) (ru_z : jZ) (ru_y : jY) (no_z : jZ) (x2 : Int32) (res : jZ × jY) (hE : jOk E g RX0 cX0_seekChosen 7 (none : Option Jvm.ClassFile.FieldType) rm_Falls_seekChosen) (hq : jEnd E g none (([n_Falls g a res.1, n_Odds g (fun i => a (i + 1)) fod_z res.2, n_Road g b ro_z, n_Kinds g (fun i => b (i + 8)) ki_z, n_Rule g (fun i => b (i + 14)) ru_z ru_y, n_Notes g (fun i => b (i + 17)) no_z] : List va_W)) 0 0)  : ∀ (n : Nat) (fa_z : jZ) (fod_y : jY) (v3 : Int32) (v4 : Int32) (v5 : Int32), f_Falls_seekChosen_8 ro_z no_z x2 n fa_z fod_y v3 v4 v5 = some res → J E g 0 0 (([n_Falls g a fa_z, n_Odds g (fun i => a (i + 1)) fod_z fod_y, n_Road g b ro_z, n_Kinds g (fun i => b (i + 8)) ki_z, n_Rule g (fun i => b (i + 14)) ru_z ru_y, n_Notes g (fun i => b (i + 17)) no_z] : List va_W)) [(0, .ref (a 0)), (1, .ref (b 0)), (2, .int x2), (3, .int v3), (4, .int v4), (5, .int v5)] 8 [] := by
  intro n
  induction n with
  | zero =>
    intro fa_z fod_y v3 v4 v5 hf
    rw [f_Falls_seekChosen_8] at hf
    cases hf
  | succ n ih =>
    intro fa_z fod_y v3 v4 v5 hf
    rw [f_Falls_seekChosen_8] at hf
    refine j_iload hE dX0_seekChosen_8 5 rfl ?_
    refine j_bipush (v := 12) hE dX0_seekChosen_10 (by decide) ?_
    refine j_icmp_ge (tgt := 94) hE hf dX0_seekChosen_12 (by decide) (fun c1 hf => ?_) (fun c1 hf => ?_)
    · refine j_aload_n hE dX0_seekChosen_94 rfl 0 rfl ?_
      refine j_get (v := .ref (a 1)) hE lg_Falls_12 0 rfl 0 (wg_Falls_0 g a fa_z) rfl dX0_seekChosen_95 ?_
      refine j_iload hE dX0_seekChosen_98 4 rfl ?_
      refine j_i2l hE dX0_seekChosen_100 ?_
      refine j_iload_n hE dX0_seekChosen_101 rfl 3 rfl ?_
      refine j_i2l hE dX0_seekChosen_102 ?_
      obtain ⟨q2, hc3, hf⟩ := bind_of hf
      refine j_callV (ws' := ([n_Falls g a fa_z, n_Odds g (fun i => a (i + 1)) fod_z q2, n_Road g b ro_z, n_Kinds g (fun i => b (i + 8)) ki_z, n_Rule g (fun i => b (i + 14)) ru_z ru_y, n_Notes g (fun i => b (i + 17)) no_z] : List va_W)) (As := [.long (Int32.toInt64 v4), .long (Int32.toInt64 v3)]) (rest := []) (st2 := []) hE (fun l => c_Odds_reduce l g (fun i => a (i + 1)) fod_z fod_y (Int32.toInt64 v4) (Int32.toInt64 v3) q2 hc3) cd_X5_reduce cv_X5_reduce ml_Falls_114 rfl rfl rfl (wg_Odds_0 _ _ _ _) ⟨⟨Nat.le_of_ble_eq_true rfl, Nat.le_of_ble_eq_true rfl⟩, ⟨Nat.zero_le _, Nat.zero_le _⟩, rfl, rfl⟩ [1] rfl rfl rfl (Nat.le_of_ble_eq_true rfl) rfl dX0_seekChosen_103 ?_
      obtain rfl := Option.some.inj hf
      exact j_vret hE hq rfl rfl dX0_seekChosen_106
    · refine j_aload_n hE dX0_seekChosen_15 rfl 1 rfl ?_
      refine j_iload hE dX0_seekChosen_16 5 rfl ?_
      obtain ⟨q4, hc5, hf⟩ := bind_of hf
      refine j_callV (ws' := ([n_Falls g a fa_z, n_Odds g (fun i => a (i + 1)) fod_z fod_y, n_Road g b ro_z, n_Kinds g (fun i => b (i + 8)) ki_z, n_Rule g (fun i => b (i + 14)) ru_z ru_y, n_Notes g (fun i => b (i + 17)) no_z] : List va_W)) (As := [.int v5]) (rest := []) (st2 := [.int q4]) hE (fun l => c_Road_has l g b ro_z ki_z ru_z ru_y no_z v5 q4 hc5) cd_X8_has cv_X8_has ml_Falls_55 rfl rfl rfl (wg_Road_0 _ _ _) ⟨⟨Nat.le_of_ble_eq_true rfl, Nat.le_of_ble_eq_true rfl⟩, ⟨Nat.zero_le _, Nat.zero_le _⟩, rfl, rfl⟩ [2, 3, 4, 5] rfl rfl rfl (Nat.le_of_ble_eq_true rfl) rfl dX0_seekChosen_18 ?_
      refine j_if_eq (tgt := 94) hE hf dX0_seekChosen_21 (by decide) (fun c6 hf => ?_) (fun c6 hf => ?_)
      · refine j_aload_n hE dX0_seekChosen_94 rfl 0 rfl ?_
        refine j_get (v := .ref (a 1)) hE lg_Falls_12 0 rfl 0 (wg_Falls_0 g a fa_z) rfl dX0_seekChosen_95 ?_
        refine j_iload hE dX0_seekChosen_98 4 rfl ?_
        refine j_i2l hE dX0_seekChosen_100 ?_
        refine j_iload_n hE dX0_seekChosen_101 rfl 3 rfl ?_
        refine j_i2l hE dX0_seekChosen_102 ?_
        obtain ⟨q7, hc8, hf⟩ := bind_of hf
        refine j_callV (ws' := ([n_Falls g a fa_z, n_Odds g (fun i => a (i + 1)) fod_z q7, n_Road g b ro_z, n_Kinds g (fun i => b (i + 8)) ki_z, n_Rule g (fun i => b (i + 14)) ru_z ru_y, n_Notes g (fun i => b (i + 17)) no_z] : List va_W)) (As := [.long (Int32.toInt64 v4), .long (Int32.toInt64 v3)]) (rest := []) (st2 := []) hE (fun l => c_Odds_reduce l g (fun i => a (i + 1)) fod_z fod_y (Int32.toInt64 v4) (Int32.toInt64 v3) q7 hc8) cd_X5_reduce cv_X5_reduce ml_Falls_114 rfl rfl rfl (wg_Odds_0 _ _ _ _) ⟨⟨Nat.le_of_ble_eq_true rfl, Nat.le_of_ble_eq_true rfl⟩, ⟨Nat.zero_le _, Nat.zero_le _⟩, rfl, rfl⟩ [1] rfl rfl rfl (Nat.le_of_ble_eq_true rfl) rfl dX0_seekChosen_103 ?_
        obtain rfl := Option.some.inj hf
        exact j_vret hE hq rfl rfl dX0_seekChosen_106
      · refine j_aload_n hE dX0_seekChosen_24 rfl 1 rfl ?_
        refine j_get (v := .ref (b 3)) hE lg_Falls_103 2 rfl 0 (wg_Road_0 g b ro_z) rfl dX0_seekChosen_25 ?_
        refine j_iload hE dX0_seekChosen_28 5 rfl ?_
        refine j_zald hE hf 2 rfl 3 (wg_Road_3 g b ro_z) dX0_seekChosen_30 (fun hf => ?_)
        refine j_if_ne (tgt := 49) hE hf dX0_seekChosen_31 (by decide) (fun c10 hf => ?_) (fun c10 hf => ?_)
        · refine j_iconst (v := 0) hE dX0_seekChosen_49 (by decide) ?_
          exact j_Falls_seekChosen_50 E g a b fod_z ro_z ki_z ru_z ru_y no_z x2 res hE hq (fun fa_z fod_y v3 v4 v5 => f_Falls_seekChosen_8 ro_z no_z x2 n fa_z fod_y v3 v4 v5) (fun fa_z fod_y v3 v4 v5 hf => ih fa_z fod_y v3 v4 v5 hf) fa_z fod_y v3 v4 v5 0 hf
        · refine j_aload_n hE dX0_seekChosen_34 rfl 1 rfl ?_
          refine j_get (v := .ref (b 4)) hE lg_Falls_61 2 rfl 0 (wg_Road_0 g b ro_z) rfl dX0_seekChosen_35 ?_
          refine j_iload hE dX0_seekChosen_38 5 rfl ?_
          refine j_iald hE hf 2 rfl 4 (wg_Road_4 g b ro_z) dX0_seekChosen_40 (fun hf => ?_)
          refine j_iload_n hE dX0_seekChosen_41 rfl 2 rfl ?_
          refine j_icmp_ne (tgt := 49) hE hf dX0_seekChosen_42 (by decide) (fun c12 hf => ?_) (fun c12 hf => ?_)
          · refine j_iconst (v := 0) hE dX0_seekChosen_49 (by decide) ?_
            exact j_Falls_seekChosen_50 E g a b fod_z ro_z ki_z ru_z ru_y no_z x2 res hE hq (fun fa_z fod_y v3 v4 v5 => f_Falls_seekChosen_8 ro_z no_z x2 n fa_z fod_y v3 v4 v5) (fun fa_z fod_y v3 v4 v5 hf => ih fa_z fod_y v3 v4 v5 hf) fa_z fod_y v3 v4 v5 0 hf
          · refine j_iconst (v := 1) hE dX0_seekChosen_45 (by decide) ?_
            refine j_goto (tgt := 50) hE dX0_seekChosen_46 (by decide) ?_
            exact j_Falls_seekChosen_50 E g a b fod_z ro_z ki_z ru_z ru_y no_z x2 res hE hq (fun fa_z fod_y v3 v4 v5 => f_Falls_seekChosen_8 ro_z no_z x2 n fa_z fod_y v3 v4 v5) (fun fa_z fod_y v3 v4 v5 hf => ih fa_z fod_y v3 v4 v5 hf) fa_z fod_y v3 v4 v5 1 hf
set_option maxRecDepth 100000 in
theorem c_Falls_seekChosen (l : Launch) (g : jG) (a : Nat → Nat) (b : Nat → Nat) (fa_z : jZ) (fod_z : jZ) (fod_y : jY) (ro_z : jZ) (ki_z : jZ) (ru_z : jZ) (ru_y : jY) (no_z : jZ) (x2 : Int32) (res : jZ × jY) (hf : f_Falls_seekChosen fa_z fod_y ro_z no_z x2 = some res) : MC l g yX0_seekChosen cX0_seekChosen 7 (none : Option Jvm.ClassFile.FieldType) rm_Falls_seekChosen [.ref (a 0), .ref (b 0), .int x2] (([n_Falls g a fa_z, n_Odds g (fun i => a (i + 1)) fod_z fod_y, n_Road g b ro_z, n_Kinds g (fun i => b (i + 8)) ki_z, n_Rule g (fun i => b (i + 14)) ru_z ru_y, n_Notes g (fun i => b (i + 17)) no_z] : List va_W)) none (([n_Falls g a res.1, n_Odds g (fun i => a (i + 1)) fod_z res.2, n_Road g b ro_z, n_Kinds g (fun i => b (i + 8)) ki_z, n_Rule g (fun i => b (i + 14)) ru_z ru_y, n_Notes g (fun i => b (i + 17)) no_z] : List va_W)) 0 0 := by
  refine MC_of (own := RX0) (lv := [(0, .ref (a 0)), (1, .ref (b 0)), (2, .int x2)]) (by decide) rfl (Nat.le_of_ble_eq_true rfl) rfl rfl (fun E hE hq => ?_)
  unfold f_Falls_seekChosen at hf
  refine j_iconst (v := 0) hE dX0_seekChosen_0 (by decide) ?_
  refine j_istore_n (lv' := [(3, .int 0), (0, .ref (a 0)), (1, .ref (b 0)), (2, .int x2)]) hE dX0_seekChosen_1 rfl (by decide) rfl ?_
  refine j_iconst (v := 0) hE dX0_seekChosen_2 (by decide) ?_
  refine j_istore (lv' := [(4, .int 0), (3, .int 0), (0, .ref (a 0)), (1, .ref (b 0)), (2, .int x2)]) hE dX0_seekChosen_3 (by decide) rfl ?_
  refine j_iconst (v := 0) hE dX0_seekChosen_5 (by decide) ?_
  refine j_istore (lv' := [(5, .int 0), (4, .int 0), (3, .int 0), (0, .ref (a 0)), (1, .ref (b 0)), (2, .int x2)]) hE dX0_seekChosen_6 (by decide) rfl ?_
  exact j_sub [3, 4, 5, 2, 1, 0] rfl (j_Falls_seekChosen_8 E g a b fod_z ro_z ki_z ru_z ru_y no_z x2 res hE hq FU fa_z fod_y 0 0 0 hf)
def rm_Poles_seekRates : Room := { frames := 4, cells := 0, slots := 0, locals := 109 }
def f_Poles_seekRates_87 (ro_z : jZ) (ki_z : jZ) (no_z : jZ)  (k35 : jZ → jY → Int32 → Int32 → Int32 → Option (jZ × jY)) (po_z : jZ) (pod_y : jY) (v2 : Int32) (v3 : Int32) (v4 : Int32) : Option (jZ × jY) := (ix v4 12).bind fun _ => (ix v4 12).bind fun _ => (if (po_z 1 0) ≤ (v4 + 1) then (ix v4 12).bind fun _ => (ix v4 12).bind fun _ => (ix v4 12).bind fun _ => k35 (up2 (up2 (up2 po_z 3 (Int32.toNatClampNeg v4) (((po_z 2 (Int32.toNatClampNeg v4)) * (ro_z 5 0)) / 10)) 4 (Int32.toNatClampNeg v4) 0) 5 (Int32.toNatClampNeg v4) (ro_z 14 (Int32.toNatClampNeg v4))) pod_y v2 v3 (v4 + 1)
    else (ix v4 12).bind fun _ => (ix v4 12).bind fun _ => (ix v4 12).bind fun _ => (ix v4 12).bind fun _ => k35 (up2 (up2 (up2 po_z 3 (Int32.toNatClampNeg v4) (((po_z 2 (Int32.toNatClampNeg v4)) * (ro_z 5 0)) / 10)) 4 (Int32.toNatClampNeg v4) ((((up2 po_z 3 (Int32.toNatClampNeg v4) (((po_z 2 (Int32.toNatClampNeg v4)) * (ro_z 5 0)) / 10)) 3 (Int32.toNatClampNeg v4)) * (ro_z 6 0)) / 10)) 5 (Int32.toNatClampNeg v4) (ro_z 14 (Int32.toNatClampNeg v4))) pod_y v2 v3 (v4 + 1))
def f_Poles_seekRates_35 (ro_z : jZ) (ki_z : jZ) (no_z : jZ)   : Nat → jZ → jY → Int32 → Int32 → Int32 → Option (jZ × jY)
  | 0, _, _, _, _, _ => none
  | n + 1, po_z, pod_y, v2, v3, v4 => (if (po_z 1 0) ≤ v4 then some (po_z, pod_y)
    else (ix v4 12).bind fun _ => (if v2 = (-1) then f_Poles_seekRates_87 ro_z ki_z no_z (fun po_z pod_y v2 v3 v4 => f_Poles_seekRates_35 ro_z ki_z no_z n po_z pod_y v2 v3 v4) (up2 po_z 2 (Int32.toNatClampNeg v4) 0) pod_y v2 v3 v4
    else (f_Odds_seekRate pod_y ki_z no_z v4 v3 v2).bind fun q5 => (f_Odds_times q5 1000 0).bind fun q7 => (ix v4 12).bind fun _ => f_Poles_seekRates_87 ro_z ki_z no_z (fun po_z pod_y v2 v3 v4 => f_Poles_seekRates_35 ro_z ki_z no_z n po_z pod_y v2 v3 v4) (up2 (up2 po_z 2 (Int32.toNatClampNeg v4) 0) 2 (Int32.toNatClampNeg v4) q7) q5 v2 v3 v4))
def f_Poles_seekRates (po_z : jZ) (pod_y : jY) (ro_z : jZ) (ki_z : jZ) (no_z : jZ)  : Option (jZ × jY) := (f_Notes_latestYear no_z).bind fun q1 => f_Poles_seekRates_35 ro_z ki_z no_z FU (up2 po_z 1 0 (if 12 < (ro_z 7 0) then 12 else (ro_z 7 0))) pod_y q1 (if 0 < ((q1 - 6) + 1) then ((q1 - 6) + 1) else 0) 0
set_option maxRecDepth 100000 in
theorem j_Poles_seekRates_87 (E : jT) (g : jG) (a : Nat → Nat) (b : Nat → Nat) (pod_z : jZ) (ro_z : jZ) (ki_z : jZ) (ru_z : jZ) (ru_y : jY) (no_z : jZ)  (res : jZ × jY) (hE : jOk E g RX6 cX6_seekRates 5 (none : Option Jvm.ClassFile.FieldType) rm_Poles_seekRates) (hq : jEnd E g none (([n_Poles g a res.1, n_Odds g (fun i => a (i + 5)) pod_z res.2, n_Road g b ro_z, n_Kinds g (fun i => b (i + 8)) ki_z, n_Rule g (fun i => b (i + 14)) ru_z ru_y, n_Notes g (fun i => b (i + 17)) no_z] : List va_W)) 0 0) (k35 : jZ → jY → Int32 → Int32 → Int32 → Option (jZ × jY)) (hk35 : ∀ (po_z : jZ) (pod_y : jY) (v2 : Int32) (v3 : Int32) (v4 : Int32), k35 po_z pod_y v2 v3 v4 = some res → J E g 0 0 (([n_Poles g a po_z, n_Odds g (fun i => a (i + 5)) pod_z pod_y, n_Road g b ro_z, n_Kinds g (fun i => b (i + 8)) ki_z, n_Rule g (fun i => b (i + 14)) ru_z ru_y, n_Notes g (fun i => b (i + 17)) no_z] : List va_W)) [(0, .ref (a 0)), (1, .ref (b 0)), (2, .int v2), (3, .int v3), (4, .int v4)] 35 []) (po_z : jZ) (pod_y : jY) (v2 : Int32) (v3 : Int32) (v4 : Int32) (hf : f_Poles_seekRates_87 ro_z ki_z no_z k35 po_z pod_y v2 v3 v4 = some res) : J E g 0 0 (([n_Poles g a po_z, n_Odds g (fun i => a (i + 5)) pod_z pod_y, n_Road g b ro_z, n_Kinds g (fun i => b (i + 8)) ki_z, n_Rule g (fun i => b (i + 14)) ru_z ru_y, n_Notes g (fun i => b (i + 17)) no_z] : List va_W)) [(0, .ref (a 0)), (1, .ref (b 0)), (2, .int v2), (3, .int v3), (4, .int v4)] 87 [] := by
  unfold f_Poles_seekRates_87 at hf
  refine j_aload_n hE dX6_seekRates_87 rfl 0 rfl ?_
  refine j_get (v := .ref (a 2)) hE lg_Poles_26 0 rfl 0 (wg_Poles_0 g a po_z) rfl dX6_seekRates_88 ?_
  refine j_iload hE dX6_seekRates_91 4 rfl ?_
  refine j_aload_n hE dX6_seekRates_93 rfl 0 rfl ?_
  refine j_get (v := .ref (a 1)) hE lg_Poles_22 0 rfl 0 (wg_Poles_0 g a po_z) rfl dX6_seekRates_94 ?_
  refine j_iload hE dX6_seekRates_97 4 rfl ?_
  refine j_iald hE hf 0 rfl 1 (wg_Poles_1 g a po_z) dX6_seekRates_99 (fun hf => ?_)
  refine j_aload_n hE dX6_seekRates_100 rfl 1 rfl ?_
  refine j_get (v := .int (ro_z 5 0)) hE lg_Poles_64 2 rfl 0 (wg_Road_0 g b ro_z) rfl dX6_seekRates_101 ?_
  refine j_imul hE dX6_seekRates_104 ?_
  refine j_bipush (v := 10) hE dX6_seekRates_105 (by decide) ?_
  refine j_idiv_c hE (by decide) dX6_seekRates_107 ?_
  refine j_iast (ws' := ([n_Poles g a (up2 po_z 3 (Int32.toNatClampNeg v4) (((po_z 2 (Int32.toNatClampNeg v4)) * (ro_z 5 0)) / 10)), n_Odds g (fun i => a (i + 5)) pod_z pod_y, n_Road g b ro_z, n_Kinds g (fun i => b (i + 8)) ki_z, n_Rule g (fun i => b (i + 14)) ru_z ru_y, n_Notes g (fun i => b (i + 17)) no_z] : List va_W)) hE hf 0 rfl 2 (wg_Poles_2 g a po_z) (wa_Poles_2 g a po_z (Int32.toNatClampNeg v4) (((po_z 2 (Int32.toNatClampNeg v4)) * (ro_z 5 0)) / 10)) rfl dX6_seekRates_108 (fun hf => ?_)
  refine j_aload_n hE dX6_seekRates_109 rfl 0 rfl ?_
  refine j_get (v := .ref (a 3)) hE lg_Poles_29 0 rfl 0 (wg_Poles_0 g a (up2 po_z 3 (Int32.toNatClampNeg v4) (((po_z 2 (Int32.toNatClampNeg v4)) * (ro_z 5 0)) / 10))) rfl dX6_seekRates_110 ?_
  refine j_iload hE dX6_seekRates_113 4 rfl ?_
  refine j_iload hE dX6_seekRates_115 4 rfl ?_
  refine j_iconst (v := 1) hE dX6_seekRates_117 (by decide) ?_
  refine j_iadd hE dX6_seekRates_118 ?_
  refine j_aload_n hE dX6_seekRates_119 rfl 0 rfl ?_
  refine j_get (v := .int (po_z 1 0)) hE lg_Poles_18 0 rfl 0 (wg_Poles_0 g a (up2 po_z 3 (Int32.toNatClampNeg v4) (((po_z 2 (Int32.toNatClampNeg v4)) * (ro_z 5 0)) / 10))) rfl dX6_seekRates_120 ?_
  refine j_icmp_ge (tgt := 144) hE hf dX6_seekRates_123 (by decide) (fun c10 hf => ?_) (fun c10 hf => ?_)
  · refine j_iconst (v := 0) hE dX6_seekRates_144 (by decide) ?_
    refine j_iast (ws' := ([n_Poles g a (up2 (up2 po_z 3 (Int32.toNatClampNeg v4) (((po_z 2 (Int32.toNatClampNeg v4)) * (ro_z 5 0)) / 10)) 4 (Int32.toNatClampNeg v4) 0), n_Odds g (fun i => a (i + 5)) pod_z pod_y, n_Road g b ro_z, n_Kinds g (fun i => b (i + 8)) ki_z, n_Rule g (fun i => b (i + 14)) ru_z ru_y, n_Notes g (fun i => b (i + 17)) no_z] : List va_W)) hE hf 0 rfl 3 (wg_Poles_3 g a (up2 po_z 3 (Int32.toNatClampNeg v4) (((po_z 2 (Int32.toNatClampNeg v4)) * (ro_z 5 0)) / 10))) (wa_Poles_3 g a (up2 po_z 3 (Int32.toNatClampNeg v4) (((po_z 2 (Int32.toNatClampNeg v4)) * (ro_z 5 0)) / 10)) (Int32.toNatClampNeg v4) 0) rfl dX6_seekRates_145 (fun hf => ?_)
    refine j_aload_n hE dX6_seekRates_146 rfl 0 rfl ?_
    refine j_get (v := .ref (a 4)) hE lg_Poles_32 0 rfl 0 (wg_Poles_0 g a (up2 (up2 po_z 3 (Int32.toNatClampNeg v4) (((po_z 2 (Int32.toNatClampNeg v4)) * (ro_z 5 0)) / 10)) 4 (Int32.toNatClampNeg v4) 0)) rfl dX6_seekRates_147 ?_
    refine j_iload hE dX6_seekRates_150 4 rfl ?_
    refine j_aload_n hE dX6_seekRates_152 rfl 1 rfl ?_
    refine j_get (v := .ref (b 7)) hE lg_Poles_68 2 rfl 0 (wg_Road_0 g b ro_z) rfl dX6_seekRates_153 ?_
    refine j_iload hE dX6_seekRates_156 4 rfl ?_
    refine j_iald hE hf 2 rfl 7 (wg_Road_7 g b ro_z) dX6_seekRates_158 (fun hf => ?_)
    refine j_iast (ws' := ([n_Poles g a (up2 (up2 (up2 po_z 3 (Int32.toNatClampNeg v4) (((po_z 2 (Int32.toNatClampNeg v4)) * (ro_z 5 0)) / 10)) 4 (Int32.toNatClampNeg v4) 0) 5 (Int32.toNatClampNeg v4) (ro_z 14 (Int32.toNatClampNeg v4))), n_Odds g (fun i => a (i + 5)) pod_z pod_y, n_Road g b ro_z, n_Kinds g (fun i => b (i + 8)) ki_z, n_Rule g (fun i => b (i + 14)) ru_z ru_y, n_Notes g (fun i => b (i + 17)) no_z] : List va_W)) hE hf 0 rfl 4 (wg_Poles_4 g a (up2 (up2 po_z 3 (Int32.toNatClampNeg v4) (((po_z 2 (Int32.toNatClampNeg v4)) * (ro_z 5 0)) / 10)) 4 (Int32.toNatClampNeg v4) 0)) (wa_Poles_4 g a (up2 (up2 po_z 3 (Int32.toNatClampNeg v4) (((po_z 2 (Int32.toNatClampNeg v4)) * (ro_z 5 0)) / 10)) 4 (Int32.toNatClampNeg v4) 0) (Int32.toNatClampNeg v4) (ro_z 14 (Int32.toNatClampNeg v4))) rfl dX6_seekRates_159 (fun hf => ?_)
    refine j_iinc (v := (v4 + 1)) (lv' := [(4, .int (v4 + 1)), (0, .ref (a 0)), (1, .ref (b 0)), (2, .int v2), (3, .int v3)]) hE dX6_seekRates_160 4 rfl rfl (by decide) rfl ?_
    refine j_goto (tgt := 35) hE dX6_seekRates_163 (by decide) ?_
    exact j_sub [1, 2, 3, 4, 0] rfl (hk35 (up2 (up2 (up2 po_z 3 (Int32.toNatClampNeg v4) (((po_z 2 (Int32.toNatClampNeg v4)) * (ro_z 5 0)) / 10)) 4 (Int32.toNatClampNeg v4) 0) 5 (Int32.toNatClampNeg v4) (ro_z 14 (Int32.toNatClampNeg v4))) pod_y v2 v3 (v4 + 1) hf)
  · refine j_aload_n hE dX6_seekRates_126 rfl 0 rfl ?_
    refine j_get (v := .ref (a 2)) hE lg_Poles_26 0 rfl 0 (wg_Poles_0 g a (up2 po_z 3 (Int32.toNatClampNeg v4) (((po_z 2 (Int32.toNatClampNeg v4)) * (ro_z 5 0)) / 10))) rfl dX6_seekRates_127 ?_
    refine j_iload hE dX6_seekRates_130 4 rfl ?_
    refine j_iald hE hf 0 rfl 2 (wg_Poles_2 g a (up2 po_z 3 (Int32.toNatClampNeg v4) (((po_z 2 (Int32.toNatClampNeg v4)) * (ro_z 5 0)) / 10))) dX6_seekRates_132 (fun hf => ?_)
    refine j_aload_n hE dX6_seekRates_133 rfl 1 rfl ?_
    refine j_get (v := .int (ro_z 6 0)) hE lg_Poles_66 2 rfl 0 (wg_Road_0 g b ro_z) rfl dX6_seekRates_134 ?_
    refine j_imul hE dX6_seekRates_137 ?_
    refine j_bipush (v := 10) hE dX6_seekRates_138 (by decide) ?_
    refine j_idiv_c hE (by decide) dX6_seekRates_140 ?_
    refine j_goto (tgt := 145) hE dX6_seekRates_141 (by decide) ?_
    refine j_iast (ws' := ([n_Poles g a (up2 (up2 po_z 3 (Int32.toNatClampNeg v4) (((po_z 2 (Int32.toNatClampNeg v4)) * (ro_z 5 0)) / 10)) 4 (Int32.toNatClampNeg v4) ((((up2 po_z 3 (Int32.toNatClampNeg v4) (((po_z 2 (Int32.toNatClampNeg v4)) * (ro_z 5 0)) / 10)) 3 (Int32.toNatClampNeg v4)) * (ro_z 6 0)) / 10)), n_Odds g (fun i => a (i + 5)) pod_z pod_y, n_Road g b ro_z, n_Kinds g (fun i => b (i + 8)) ki_z, n_Rule g (fun i => b (i + 14)) ru_z ru_y, n_Notes g (fun i => b (i + 17)) no_z] : List va_W)) hE hf 0 rfl 3 (wg_Poles_3 g a (up2 po_z 3 (Int32.toNatClampNeg v4) (((po_z 2 (Int32.toNatClampNeg v4)) * (ro_z 5 0)) / 10))) (wa_Poles_3 g a (up2 po_z 3 (Int32.toNatClampNeg v4) (((po_z 2 (Int32.toNatClampNeg v4)) * (ro_z 5 0)) / 10)) (Int32.toNatClampNeg v4) ((((up2 po_z 3 (Int32.toNatClampNeg v4) (((po_z 2 (Int32.toNatClampNeg v4)) * (ro_z 5 0)) / 10)) 3 (Int32.toNatClampNeg v4)) * (ro_z 6 0)) / 10)) rfl dX6_seekRates_145 (fun hf => ?_)
    refine j_aload_n hE dX6_seekRates_146 rfl 0 rfl ?_
    refine j_get (v := .ref (a 4)) hE lg_Poles_32 0 rfl 0 (wg_Poles_0 g a (up2 (up2 po_z 3 (Int32.toNatClampNeg v4) (((po_z 2 (Int32.toNatClampNeg v4)) * (ro_z 5 0)) / 10)) 4 (Int32.toNatClampNeg v4) ((((up2 po_z 3 (Int32.toNatClampNeg v4) (((po_z 2 (Int32.toNatClampNeg v4)) * (ro_z 5 0)) / 10)) 3 (Int32.toNatClampNeg v4)) * (ro_z 6 0)) / 10))) rfl dX6_seekRates_147 ?_
    refine j_iload hE dX6_seekRates_150 4 rfl ?_
    refine j_aload_n hE dX6_seekRates_152 rfl 1 rfl ?_
    refine j_get (v := .ref (b 7)) hE lg_Poles_68 2 rfl 0 (wg_Road_0 g b ro_z) rfl dX6_seekRates_153 ?_
    refine j_iload hE dX6_seekRates_156 4 rfl ?_
    refine j_iald hE hf 2 rfl 7 (wg_Road_7 g b ro_z) dX6_seekRates_158 (fun hf => ?_)
    refine j_iast (ws' := ([n_Poles g a (up2 (up2 (up2 po_z 3 (Int32.toNatClampNeg v4) (((po_z 2 (Int32.toNatClampNeg v4)) * (ro_z 5 0)) / 10)) 4 (Int32.toNatClampNeg v4) ((((up2 po_z 3 (Int32.toNatClampNeg v4) (((po_z 2 (Int32.toNatClampNeg v4)) * (ro_z 5 0)) / 10)) 3 (Int32.toNatClampNeg v4)) * (ro_z 6 0)) / 10)) 5 (Int32.toNatClampNeg v4) (ro_z 14 (Int32.toNatClampNeg v4))), n_Odds g (fun i => a (i + 5)) pod_z pod_y, n_Road g b ro_z, n_Kinds g (fun i => b (i + 8)) ki_z, n_Rule g (fun i => b (i + 14)) ru_z ru_y, n_Notes g (fun i => b (i + 17)) no_z] : List va_W)) hE hf 0 rfl 4 (wg_Poles_4 g a (up2 (up2 po_z 3 (Int32.toNatClampNeg v4) (((po_z 2 (Int32.toNatClampNeg v4)) * (ro_z 5 0)) / 10)) 4 (Int32.toNatClampNeg v4) ((((up2 po_z 3 (Int32.toNatClampNeg v4) (((po_z 2 (Int32.toNatClampNeg v4)) * (ro_z 5 0)) / 10)) 3 (Int32.toNatClampNeg v4)) * (ro_z 6 0)) / 10))) (wa_Poles_4 g a (up2 (up2 po_z 3 (Int32.toNatClampNeg v4) (((po_z 2 (Int32.toNatClampNeg v4)) * (ro_z 5 0)) / 10)) 4 (Int32.toNatClampNeg v4) ((((up2 po_z 3 (Int32.toNatClampNeg v4) (((po_z 2 (Int32.toNatClampNeg v4)) * (ro_z 5 0)) / 10)) 3 (Int32.toNatClampNeg v4)) * (ro_z 6 0)) / 10)) (Int32.toNatClampNeg v4) (ro_z 14 (Int32.toNatClampNeg v4))) rfl dX6_seekRates_159 (fun hf => ?_)
    refine j_iinc (v := (v4 + 1)) (lv' := [(4, .int (v4 + 1)), (0, .ref (a 0)), (1, .ref (b 0)), (2, .int v2), (3, .int v3)]) hE dX6_seekRates_160 4 rfl rfl (by decide) rfl ?_
    refine j_goto (tgt := 35) hE dX6_seekRates_163 (by decide) ?_
    exact j_sub [1, 2, 3, 4, 0] rfl (hk35 (up2 (up2 (up2 po_z 3 (Int32.toNatClampNeg v4) (((po_z 2 (Int32.toNatClampNeg v4)) * (ro_z 5 0)) / 10)) 4 (Int32.toNatClampNeg v4) ((((up2 po_z 3 (Int32.toNatClampNeg v4) (((po_z 2 (Int32.toNatClampNeg v4)) * (ro_z 5 0)) / 10)) 3 (Int32.toNatClampNeg v4)) * (ro_z 6 0)) / 10)) 5 (Int32.toNatClampNeg v4) (ro_z 14 (Int32.toNatClampNeg v4))) pod_y v2 v3 (v4 + 1) hf)
set_option maxRecDepth 100000 in
theorem j_Poles_seekRates_35 (E : jT) (g : jG) (a : Nat → Nat) (b : Nat → Nat) (pod_z : jZ) (ro_z : jZ) (ki_z : jZ) (ru_z : jZ) (ru_y : jY) (no_z : jZ)  (res : jZ × jY) (hE : jOk E g RX6 cX6_seekRates 5 (none : Option Jvm.ClassFile.FieldType) rm_Poles_seekRates) (hq : jEnd E g none (([n_Poles g a res.1, n_Odds g (fun i => a (i + 5)) pod_z res.2, n_Road g b ro_z, n_Kinds g (fun i => b (i + 8)) ki_z, n_Rule g (fun i => b (i + 14)) ru_z ru_y, n_Notes g (fun i => b (i + 17)) no_z] : List va_W)) 0 0)  : ∀ (n : Nat) (po_z : jZ) (pod_y : jY) (v2 : Int32) (v3 : Int32) (v4 : Int32), f_Poles_seekRates_35 ro_z ki_z no_z n po_z pod_y v2 v3 v4 = some res → J E g 0 0 (([n_Poles g a po_z, n_Odds g (fun i => a (i + 5)) pod_z pod_y, n_Road g b ro_z, n_Kinds g (fun i => b (i + 8)) ki_z, n_Rule g (fun i => b (i + 14)) ru_z ru_y, n_Notes g (fun i => b (i + 17)) no_z] : List va_W)) [(0, .ref (a 0)), (1, .ref (b 0)), (2, .int v2), (3, .int v3), (4, .int v4)] 35 [] := by
  intro n
  induction n with
  | zero =>
    intro po_z pod_y v2 v3 v4 hf
    rw [f_Poles_seekRates_35] at hf
    cases hf
  | succ n ih =>
    intro po_z pod_y v2 v3 v4 hf
    rw [f_Poles_seekRates_35] at hf
    refine j_iload hE dX6_seekRates_35 4 rfl ?_
    refine j_aload_n hE dX6_seekRates_37 rfl 0 rfl ?_
    refine j_get (v := .int (po_z 1 0)) hE lg_Poles_18 0 rfl 0 (wg_Poles_0 g a po_z) rfl dX6_seekRates_38 ?_
    refine j_icmp_ge (tgt := 166) hE hf dX6_seekRates_41 (by decide) (fun c3 hf => ?_) (fun c3 hf => ?_)
    · obtain rfl := Option.some.inj hf
      exact j_vret hE hq rfl rfl dX6_seekRates_166
    · refine j_aload_n hE dX6_seekRates_44 rfl 0 rfl ?_
      refine j_get (v := .ref (a 1)) hE lg_Poles_22 0 rfl 0 (wg_Poles_0 g a po_z) rfl dX6_seekRates_45 ?_
      refine j_iload hE dX6_seekRates_48 4 rfl ?_
      refine j_iconst (v := 0) hE dX6_seekRates_50 (by decide) ?_
      refine j_iast (ws' := ([n_Poles g a (up2 po_z 2 (Int32.toNatClampNeg v4) 0), n_Odds g (fun i => a (i + 5)) pod_z pod_y, n_Road g b ro_z, n_Kinds g (fun i => b (i + 8)) ki_z, n_Rule g (fun i => b (i + 14)) ru_z ru_y, n_Notes g (fun i => b (i + 17)) no_z] : List va_W)) hE hf 0 rfl 1 (wg_Poles_1 g a po_z) (wa_Poles_1 g a po_z (Int32.toNatClampNeg v4) 0) rfl dX6_seekRates_51 (fun hf => ?_)
      refine j_iload_n hE dX6_seekRates_52 rfl 2 rfl ?_
      refine j_iconst (v := (-1)) hE dX6_seekRates_53 (by decide) ?_
      refine j_icmp_eq (tgt := 87) hE hf dX6_seekRates_54 (by decide) (fun c4 hf => ?_) (fun c4 hf => ?_)
      · exact j_Poles_seekRates_87 E g a b pod_z ro_z ki_z ru_z ru_y no_z res hE hq (fun po_z pod_y v2 v3 v4 => f_Poles_seekRates_35 ro_z ki_z no_z n po_z pod_y v2 v3 v4) (fun po_z pod_y v2 v3 v4 hf => ih po_z pod_y v2 v3 v4 hf) (up2 po_z 2 (Int32.toNatClampNeg v4) 0) pod_y v2 v3 v4 hf
      · refine j_aload_n hE dX6_seekRates_57 rfl 0 rfl ?_
        refine j_get (v := .ref (a 5)) hE lg_Poles_12 0 rfl 0 (wg_Poles_0 g a (up2 po_z 2 (Int32.toNatClampNeg v4) 0)) rfl dX6_seekRates_58 ?_
        refine j_aload_n hE dX6_seekRates_61 rfl 1 rfl ?_
        refine j_iload hE dX6_seekRates_62 4 rfl ?_
        refine j_iload_n hE dX6_seekRates_64 rfl 3 rfl ?_
        refine j_iload_n hE dX6_seekRates_65 rfl 2 rfl ?_
        obtain ⟨q5, hc6, hf⟩ := bind_of hf
        refine j_callV (ws' := ([n_Poles g a (up2 po_z 2 (Int32.toNatClampNeg v4) 0), n_Odds g (fun i => a (i + 5)) pod_z q5, n_Road g b ro_z, n_Kinds g (fun i => b (i + 8)) ki_z, n_Rule g (fun i => b (i + 14)) ru_z ru_y, n_Notes g (fun i => b (i + 17)) no_z] : List va_W)) (As := [.ref (b 0), .int v4, .int v3, .int v2]) (rest := []) (st2 := []) hE (fun l => c_Odds_seekRate l g (fun i => a (i + 5)) b pod_z pod_y ro_z ki_z ru_z ru_y no_z v4 v3 v2 q5 hc6) cd_X5_seekRate cv_X5_seekRate ml_Poles_57 rfl rfl rfl (wg_Odds_0 _ _ _ _) ⟨⟨Nat.le_of_ble_eq_true rfl, Nat.le_of_ble_eq_true rfl⟩, ⟨Nat.zero_le _, Nat.zero_le _⟩, rfl, rfl⟩ [1, 2, 3, 4, 5] rfl rfl rfl (Nat.le_of_ble_eq_true rfl) rfl dX6_seekRates_66 ?_
        refine j_aload_n hE dX6_seekRates_69 rfl 0 rfl ?_
        refine j_get (v := .ref (a 1)) hE lg_Poles_22 0 rfl 0 (wg_Poles_0 g a (up2 po_z 2 (Int32.toNatClampNeg v4) 0)) rfl dX6_seekRates_70 ?_
        refine j_iload hE dX6_seekRates_73 4 rfl ?_
        refine j_aload_n hE dX6_seekRates_75 rfl 0 rfl ?_
        refine j_get (v := .ref (a 5)) hE lg_Poles_12 0 rfl 0 (wg_Poles_0 g a (up2 po_z 2 (Int32.toNatClampNeg v4) 0)) rfl dX6_seekRates_76 ?_
        refine j_sipush (v := 1000) hE dX6_seekRates_79 (by decide) ?_
        refine j_iconst (v := 0) hE dX6_seekRates_82 (by decide) ?_
        obtain ⟨q7, hc8, hf⟩ := bind_of hf
        refine j_callV (ws' := ([n_Poles g a (up2 po_z 2 (Int32.toNatClampNeg v4) 0), n_Odds g (fun i => a (i + 5)) pod_z q5, n_Road g b ro_z, n_Kinds g (fun i => b (i + 8)) ki_z, n_Rule g (fun i => b (i + 14)) ru_z ru_y, n_Notes g (fun i => b (i + 17)) no_z] : List va_W)) (As := [.int 1000, .int 0]) (rest := [.int v4, .ref (a 1)]) (st2 := [.int q7, .int v4, .ref (a 1)]) hE (fun l => c_Odds_times l g (fun i => a (i + 5)) pod_z q5 1000 0 q7 hc8) cd_X5_times cv_X5_times ml_Poles_61 rfl rfl rfl (wg_Odds_0 _ _ _ _) ⟨⟨Nat.le_of_ble_eq_true rfl, Nat.le_of_ble_eq_true rfl⟩, ⟨Nat.zero_le _, Nat.zero_le _⟩, rfl, rfl⟩ [1] rfl rfl rfl (Nat.le_of_ble_eq_true rfl) rfl dX6_seekRates_83 ?_
        refine j_iast (ws' := ([n_Poles g a (up2 (up2 po_z 2 (Int32.toNatClampNeg v4) 0) 2 (Int32.toNatClampNeg v4) q7), n_Odds g (fun i => a (i + 5)) pod_z q5, n_Road g b ro_z, n_Kinds g (fun i => b (i + 8)) ki_z, n_Rule g (fun i => b (i + 14)) ru_z ru_y, n_Notes g (fun i => b (i + 17)) no_z] : List va_W)) hE hf 0 rfl 1 (wg_Poles_1 g a (up2 po_z 2 (Int32.toNatClampNeg v4) 0)) (wa_Poles_1 g a (up2 po_z 2 (Int32.toNatClampNeg v4) 0) (Int32.toNatClampNeg v4) q7) rfl dX6_seekRates_86 (fun hf => ?_)
        exact j_Poles_seekRates_87 E g a b pod_z ro_z ki_z ru_z ru_y no_z res hE hq (fun po_z pod_y v2 v3 v4 => f_Poles_seekRates_35 ro_z ki_z no_z n po_z pod_y v2 v3 v4) (fun po_z pod_y v2 v3 v4 hf => ih po_z pod_y v2 v3 v4 hf) (up2 (up2 po_z 2 (Int32.toNatClampNeg v4) 0) 2 (Int32.toNatClampNeg v4) q7) q5 v2 v3 v4 hf
set_option maxRecDepth 100000 in
theorem c_Poles_seekRates (l : Launch) (g : jG) (a : Nat → Nat) (b : Nat → Nat) (po_z : jZ) (pod_z : jZ) (pod_y : jY) (ro_z : jZ) (ki_z : jZ) (ru_z : jZ) (ru_y : jY) (no_z : jZ)  (res : jZ × jY) (hf : f_Poles_seekRates po_z pod_y ro_z ki_z no_z = some res) : MC l g yX6_seekRates cX6_seekRates 5 (none : Option Jvm.ClassFile.FieldType) rm_Poles_seekRates [.ref (a 0), .ref (b 0)] (([n_Poles g a po_z, n_Odds g (fun i => a (i + 5)) pod_z pod_y, n_Road g b ro_z, n_Kinds g (fun i => b (i + 8)) ki_z, n_Rule g (fun i => b (i + 14)) ru_z ru_y, n_Notes g (fun i => b (i + 17)) no_z] : List va_W)) none (([n_Poles g a res.1, n_Odds g (fun i => a (i + 5)) pod_z res.2, n_Road g b ro_z, n_Kinds g (fun i => b (i + 8)) ki_z, n_Rule g (fun i => b (i + 14)) ru_z ru_y, n_Notes g (fun i => b (i + 17)) no_z] : List va_W)) 0 0 := by
  refine MC_of (own := RX6) (lv := [(0, .ref (a 0)), (1, .ref (b 0))]) (by decide) rfl (Nat.le_of_ble_eq_true rfl) rfl rfl (fun E hE hq => ?_)
  unfold f_Poles_seekRates at hf
  refine j_aload_n hE dX6_seekRates_0 rfl 1 rfl ?_
  refine j_get (v := .ref (b 17)) hE lg_Poles_35 2 rfl 0 (wg_Road_0 g b ro_z) rfl dX6_seekRates_1 ?_
  obtain ⟨q1, hc2, hf⟩ := bind_of hf
  refine j_callV (ws' := ([n_Poles g a po_z, n_Odds g (fun i => a (i + 5)) pod_z pod_y, n_Road g b ro_z, n_Kinds g (fun i => b (i + 8)) ki_z, n_Rule g (fun i => b (i + 14)) ru_z ru_y, n_Notes g (fun i => b (i + 17)) no_z] : List va_W)) (As := []) (rest := []) (st2 := [.int q1]) hE (fun l => c_Notes_latestYear l g (fun i => b (i + 17)) no_z q1 hc2) cd_X4_latestYear cv_X4_latestYear ml_Poles_41 rfl rfl rfl (wg_Notes_0 _ _ _) ⟨⟨Nat.le_of_ble_eq_true rfl, Nat.le_of_ble_eq_true rfl⟩, ⟨Nat.zero_le _, Nat.zero_le _⟩, rfl, rfl⟩ [5] rfl rfl rfl (Nat.le_of_ble_eq_true rfl) rfl dX6_seekRates_4 ?_
  refine j_istore_n (lv' := [(2, .int q1), (0, .ref (a 0)), (1, .ref (b 0))]) hE dX6_seekRates_7 rfl (by decide) rfl ?_
  refine j_iconst (v := 0) hE dX6_seekRates_8 (by decide) ?_
  refine j_iload_n hE dX6_seekRates_9 rfl 0 rfl ?_
  refine j_bipush (v := 6) hE dX6_seekRates_10 (by decide) ?_
  refine j_isub hE dX6_seekRates_12 ?_
  refine j_iconst (v := 1) hE dX6_seekRates_13 (by decide) ?_
  refine j_iadd hE dX6_seekRates_14 ?_
  refine j_mmax hE fm_mmax ml_Poles_47 ⟨⟨Nat.le_of_ble_eq_true rfl, Nat.le_of_ble_eq_true rfl⟩, Nat.zero_le _, Nat.zero_le _⟩ dX6_seekRates_15 ?_
  refine j_istore_n (lv' := [(3, .int (if 0 < ((q1 - 6) + 1) then ((q1 - 6) + 1) else 0)), (2, .int q1), (0, .ref (a 0)), (1, .ref (b 0))]) hE dX6_seekRates_18 rfl (by decide) rfl ?_
  refine j_aload_n hE dX6_seekRates_19 rfl 2 rfl ?_
  refine j_aload_n hE dX6_seekRates_20 rfl 3 rfl ?_
  refine j_get (v := .int (ro_z 7 0)) hE lg_Poles_53 2 rfl 0 (wg_Road_0 g b ro_z) rfl dX6_seekRates_21 ?_
  refine j_bipush (v := 12) hE dX6_seekRates_24 (by decide) ?_
  refine j_mmin hE fm_mmin ml_Poles_54 ⟨⟨Nat.le_of_ble_eq_true rfl, Nat.le_of_ble_eq_true rfl⟩, Nat.zero_le _, Nat.zero_le _⟩ dX6_seekRates_26 ?_
  refine j_put (v := .int (if 12 < (ro_z 7 0) then 12 else (ro_z 7 0))) (ws' := ([n_Poles g a (up2 po_z 1 0 (if 12 < (ro_z 7 0) then 12 else (ro_z 7 0))), n_Odds g (fun i => a (i + 5)) pod_z pod_y, n_Road g b ro_z, n_Kinds g (fun i => b (i + 8)) ki_z, n_Rule g (fun i => b (i + 14)) ru_z ru_y, n_Notes g (fun i => b (i + 17)) no_z] : List va_W)) hE lp_Poles_18 0 rfl 0 (wg_Poles_0 g a po_z) rfl rfl (Nat.le_of_ble_eq_true rfl) (wp_Poles_1 g a po_z (if 12 < (ro_z 7 0) then 12 else (ro_z 7 0))) rfl dX6_seekRates_29 ?_
  refine j_iconst (v := 0) hE dX6_seekRates_32 (by decide) ?_
  refine j_istore (lv' := [(4, .int 0), (3, .int (if 0 < ((q1 - 6) + 1) then ((q1 - 6) + 1) else 0)), (2, .int q1), (0, .ref (a 0)), (1, .ref (b 0))]) hE dX6_seekRates_33 (by decide) rfl ?_
  exact j_sub [3, 4, 2, 1, 0] rfl (j_Poles_seekRates_35 E g a b pod_z ro_z ki_z ru_z ru_y no_z res hE hq FU (up2 po_z 1 0 (if 12 < (ro_z 7 0) then 12 else (ro_z 7 0))) pod_y q1 (if 0 < ((q1 - 6) + 1) then ((q1 - 6) + 1) else 0) 0 hf)
def rm_Integer_bitCount : Room := { frames := 0, cells := 0, slots := 0, locals := 0 }
def f_Integer_bitCount  (x0 : Int32) : Option (Int32) := some ((((((((x0 - ((Int32.toUInt32 x0 >>> (Int32.toUInt32 1 &&& Int32.toUInt32 31)).toInt32 &&& 1431655765)) &&& 858993459) + ((Int32.toUInt32 (x0 - ((Int32.toUInt32 x0 >>> (Int32.toUInt32 1 &&& Int32.toUInt32 31)).toInt32 &&& 1431655765)) >>> (Int32.toUInt32 2 &&& Int32.toUInt32 31)).toInt32 &&& 858993459)) + (Int32.toUInt32 (((x0 - ((Int32.toUInt32 x0 >>> (Int32.toUInt32 1 &&& Int32.toUInt32 31)).toInt32 &&& 1431655765)) &&& 858993459) + ((Int32.toUInt32 (x0 - ((Int32.toUInt32 x0 >>> (Int32.toUInt32 1 &&& Int32.toUInt32 31)).toInt32 &&& 1431655765)) >>> (Int32.toUInt32 2 &&& Int32.toUInt32 31)).toInt32 &&& 858993459)) >>> (Int32.toUInt32 4 &&& Int32.toUInt32 31)).toInt32) &&& 252645135) + (Int32.toUInt32 (((((x0 - ((Int32.toUInt32 x0 >>> (Int32.toUInt32 1 &&& Int32.toUInt32 31)).toInt32 &&& 1431655765)) &&& 858993459) + ((Int32.toUInt32 (x0 - ((Int32.toUInt32 x0 >>> (Int32.toUInt32 1 &&& Int32.toUInt32 31)).toInt32 &&& 1431655765)) >>> (Int32.toUInt32 2 &&& Int32.toUInt32 31)).toInt32 &&& 858993459)) + (Int32.toUInt32 (((x0 - ((Int32.toUInt32 x0 >>> (Int32.toUInt32 1 &&& Int32.toUInt32 31)).toInt32 &&& 1431655765)) &&& 858993459) + ((Int32.toUInt32 (x0 - ((Int32.toUInt32 x0 >>> (Int32.toUInt32 1 &&& Int32.toUInt32 31)).toInt32 &&& 1431655765)) >>> (Int32.toUInt32 2 &&& Int32.toUInt32 31)).toInt32 &&& 858993459)) >>> (Int32.toUInt32 4 &&& Int32.toUInt32 31)).toInt32) &&& 252645135) >>> (Int32.toUInt32 8 &&& Int32.toUInt32 31)).toInt32) + (Int32.toUInt32 ((((((x0 - ((Int32.toUInt32 x0 >>> (Int32.toUInt32 1 &&& Int32.toUInt32 31)).toInt32 &&& 1431655765)) &&& 858993459) + ((Int32.toUInt32 (x0 - ((Int32.toUInt32 x0 >>> (Int32.toUInt32 1 &&& Int32.toUInt32 31)).toInt32 &&& 1431655765)) >>> (Int32.toUInt32 2 &&& Int32.toUInt32 31)).toInt32 &&& 858993459)) + (Int32.toUInt32 (((x0 - ((Int32.toUInt32 x0 >>> (Int32.toUInt32 1 &&& Int32.toUInt32 31)).toInt32 &&& 1431655765)) &&& 858993459) + ((Int32.toUInt32 (x0 - ((Int32.toUInt32 x0 >>> (Int32.toUInt32 1 &&& Int32.toUInt32 31)).toInt32 &&& 1431655765)) >>> (Int32.toUInt32 2 &&& Int32.toUInt32 31)).toInt32 &&& 858993459)) >>> (Int32.toUInt32 4 &&& Int32.toUInt32 31)).toInt32) &&& 252645135) + (Int32.toUInt32 (((((x0 - ((Int32.toUInt32 x0 >>> (Int32.toUInt32 1 &&& Int32.toUInt32 31)).toInt32 &&& 1431655765)) &&& 858993459) + ((Int32.toUInt32 (x0 - ((Int32.toUInt32 x0 >>> (Int32.toUInt32 1 &&& Int32.toUInt32 31)).toInt32 &&& 1431655765)) >>> (Int32.toUInt32 2 &&& Int32.toUInt32 31)).toInt32 &&& 858993459)) + (Int32.toUInt32 (((x0 - ((Int32.toUInt32 x0 >>> (Int32.toUInt32 1 &&& Int32.toUInt32 31)).toInt32 &&& 1431655765)) &&& 858993459) + ((Int32.toUInt32 (x0 - ((Int32.toUInt32 x0 >>> (Int32.toUInt32 1 &&& Int32.toUInt32 31)).toInt32 &&& 1431655765)) >>> (Int32.toUInt32 2 &&& Int32.toUInt32 31)).toInt32 &&& 858993459)) >>> (Int32.toUInt32 4 &&& Int32.toUInt32 31)).toInt32) &&& 252645135) >>> (Int32.toUInt32 8 &&& Int32.toUInt32 31)).toInt32) >>> (Int32.toUInt32 16 &&& Int32.toUInt32 31)).toInt32) &&& 63)
set_option maxRecDepth 100000 in
theorem c_Integer_bitCount (l : Launch) (g : jG)   (x0 : Int32) (res : Int32) (hf : f_Integer_bitCount x0 = some res) : MC l g yJ6_bitCount_0f7a4 cJ6_bitCount_0f7a4 1 (some .int) rm_Integer_bitCount [.int x0] (([] : List va_W)) (some (.int res)) (([] : List va_W)) 0 0 := by
  refine MC_of (own := RJ6) (lv := [(0, .int x0)]) (by decide) rfl (Nat.le_of_ble_eq_true rfl) rfl rfl (fun E hE hq => ?_)
  unfold f_Integer_bitCount at hf
  refine j_iload_n hE dJ6_bitCount_0f7a4_0 rfl 0 rfl ?_
  refine j_iload_n hE dJ6_bitCount_0f7a4_1 rfl 0 rfl ?_
  refine j_iconst (v := 1) hE dJ6_bitCount_0f7a4_2 (by decide) ?_
  refine j_iushr hE dJ6_bitCount_0f7a4_3 ?_
  refine j_ldcw hE co_Integer_265 dJ6_bitCount_0f7a4_4 ?_
  refine j_iand hE dJ6_bitCount_0f7a4_7 ?_
  refine j_isub hE dJ6_bitCount_0f7a4_8 ?_
  refine j_istore_n (lv' := [(0, .int (x0 - ((Int32.toUInt32 x0 >>> (Int32.toUInt32 1 &&& Int32.toUInt32 31)).toInt32 &&& 1431655765)))]) hE dJ6_bitCount_0f7a4_9 rfl (by decide) rfl ?_
  refine j_iload_n hE dJ6_bitCount_0f7a4_10 rfl 0 rfl ?_
  refine j_ldcw hE co_Integer_266 dJ6_bitCount_0f7a4_11 ?_
  refine j_iand hE dJ6_bitCount_0f7a4_14 ?_
  refine j_iload_n hE dJ6_bitCount_0f7a4_15 rfl 0 rfl ?_
  refine j_iconst (v := 2) hE dJ6_bitCount_0f7a4_16 (by decide) ?_
  refine j_iushr hE dJ6_bitCount_0f7a4_17 ?_
  refine j_ldcw hE co_Integer_266 dJ6_bitCount_0f7a4_18 ?_
  refine j_iand hE dJ6_bitCount_0f7a4_21 ?_
  refine j_iadd hE dJ6_bitCount_0f7a4_22 ?_
  refine j_istore_n (lv' := [(0, .int (((x0 - ((Int32.toUInt32 x0 >>> (Int32.toUInt32 1 &&& Int32.toUInt32 31)).toInt32 &&& 1431655765)) &&& 858993459) + ((Int32.toUInt32 (x0 - ((Int32.toUInt32 x0 >>> (Int32.toUInt32 1 &&& Int32.toUInt32 31)).toInt32 &&& 1431655765)) >>> (Int32.toUInt32 2 &&& Int32.toUInt32 31)).toInt32 &&& 858993459)))]) hE dJ6_bitCount_0f7a4_23 rfl (by decide) rfl ?_
  refine j_iload_n hE dJ6_bitCount_0f7a4_24 rfl 0 rfl ?_
  refine j_iload_n hE dJ6_bitCount_0f7a4_25 rfl 0 rfl ?_
  refine j_iconst (v := 4) hE dJ6_bitCount_0f7a4_26 (by decide) ?_
  refine j_iushr hE dJ6_bitCount_0f7a4_27 ?_
  refine j_iadd hE dJ6_bitCount_0f7a4_28 ?_
  refine j_ldcw hE co_Integer_267 dJ6_bitCount_0f7a4_29 ?_
  refine j_iand hE dJ6_bitCount_0f7a4_32 ?_
  refine j_istore_n (lv' := [(0, .int (((((x0 - ((Int32.toUInt32 x0 >>> (Int32.toUInt32 1 &&& Int32.toUInt32 31)).toInt32 &&& 1431655765)) &&& 858993459) + ((Int32.toUInt32 (x0 - ((Int32.toUInt32 x0 >>> (Int32.toUInt32 1 &&& Int32.toUInt32 31)).toInt32 &&& 1431655765)) >>> (Int32.toUInt32 2 &&& Int32.toUInt32 31)).toInt32 &&& 858993459)) + (Int32.toUInt32 (((x0 - ((Int32.toUInt32 x0 >>> (Int32.toUInt32 1 &&& Int32.toUInt32 31)).toInt32 &&& 1431655765)) &&& 858993459) + ((Int32.toUInt32 (x0 - ((Int32.toUInt32 x0 >>> (Int32.toUInt32 1 &&& Int32.toUInt32 31)).toInt32 &&& 1431655765)) >>> (Int32.toUInt32 2 &&& Int32.toUInt32 31)).toInt32 &&& 858993459)) >>> (Int32.toUInt32 4 &&& Int32.toUInt32 31)).toInt32) &&& 252645135))]) hE dJ6_bitCount_0f7a4_33 rfl (by decide) rfl ?_
  refine j_iload_n hE dJ6_bitCount_0f7a4_34 rfl 0 rfl ?_
  refine j_iload_n hE dJ6_bitCount_0f7a4_35 rfl 0 rfl ?_
  refine j_bipush (v := 8) hE dJ6_bitCount_0f7a4_36 (by decide) ?_
  refine j_iushr hE dJ6_bitCount_0f7a4_38 ?_
  refine j_iadd hE dJ6_bitCount_0f7a4_39 ?_
  refine j_istore_n (lv' := [(0, .int ((((((x0 - ((Int32.toUInt32 x0 >>> (Int32.toUInt32 1 &&& Int32.toUInt32 31)).toInt32 &&& 1431655765)) &&& 858993459) + ((Int32.toUInt32 (x0 - ((Int32.toUInt32 x0 >>> (Int32.toUInt32 1 &&& Int32.toUInt32 31)).toInt32 &&& 1431655765)) >>> (Int32.toUInt32 2 &&& Int32.toUInt32 31)).toInt32 &&& 858993459)) + (Int32.toUInt32 (((x0 - ((Int32.toUInt32 x0 >>> (Int32.toUInt32 1 &&& Int32.toUInt32 31)).toInt32 &&& 1431655765)) &&& 858993459) + ((Int32.toUInt32 (x0 - ((Int32.toUInt32 x0 >>> (Int32.toUInt32 1 &&& Int32.toUInt32 31)).toInt32 &&& 1431655765)) >>> (Int32.toUInt32 2 &&& Int32.toUInt32 31)).toInt32 &&& 858993459)) >>> (Int32.toUInt32 4 &&& Int32.toUInt32 31)).toInt32) &&& 252645135) + (Int32.toUInt32 (((((x0 - ((Int32.toUInt32 x0 >>> (Int32.toUInt32 1 &&& Int32.toUInt32 31)).toInt32 &&& 1431655765)) &&& 858993459) + ((Int32.toUInt32 (x0 - ((Int32.toUInt32 x0 >>> (Int32.toUInt32 1 &&& Int32.toUInt32 31)).toInt32 &&& 1431655765)) >>> (Int32.toUInt32 2 &&& Int32.toUInt32 31)).toInt32 &&& 858993459)) + (Int32.toUInt32 (((x0 - ((Int32.toUInt32 x0 >>> (Int32.toUInt32 1 &&& Int32.toUInt32 31)).toInt32 &&& 1431655765)) &&& 858993459) + ((Int32.toUInt32 (x0 - ((Int32.toUInt32 x0 >>> (Int32.toUInt32 1 &&& Int32.toUInt32 31)).toInt32 &&& 1431655765)) >>> (Int32.toUInt32 2 &&& Int32.toUInt32 31)).toInt32 &&& 858993459)) >>> (Int32.toUInt32 4 &&& Int32.toUInt32 31)).toInt32) &&& 252645135) >>> (Int32.toUInt32 8 &&& Int32.toUInt32 31)).toInt32))]) hE dJ6_bitCount_0f7a4_40 rfl (by decide) rfl ?_
  refine j_iload_n hE dJ6_bitCount_0f7a4_41 rfl 0 rfl ?_
  refine j_iload_n hE dJ6_bitCount_0f7a4_42 rfl 0 rfl ?_
  refine j_bipush (v := 16) hE dJ6_bitCount_0f7a4_43 (by decide) ?_
  refine j_iushr hE dJ6_bitCount_0f7a4_45 ?_
  refine j_iadd hE dJ6_bitCount_0f7a4_46 ?_
  refine j_istore_n (lv' := [(0, .int (((((((x0 - ((Int32.toUInt32 x0 >>> (Int32.toUInt32 1 &&& Int32.toUInt32 31)).toInt32 &&& 1431655765)) &&& 858993459) + ((Int32.toUInt32 (x0 - ((Int32.toUInt32 x0 >>> (Int32.toUInt32 1 &&& Int32.toUInt32 31)).toInt32 &&& 1431655765)) >>> (Int32.toUInt32 2 &&& Int32.toUInt32 31)).toInt32 &&& 858993459)) + (Int32.toUInt32 (((x0 - ((Int32.toUInt32 x0 >>> (Int32.toUInt32 1 &&& Int32.toUInt32 31)).toInt32 &&& 1431655765)) &&& 858993459) + ((Int32.toUInt32 (x0 - ((Int32.toUInt32 x0 >>> (Int32.toUInt32 1 &&& Int32.toUInt32 31)).toInt32 &&& 1431655765)) >>> (Int32.toUInt32 2 &&& Int32.toUInt32 31)).toInt32 &&& 858993459)) >>> (Int32.toUInt32 4 &&& Int32.toUInt32 31)).toInt32) &&& 252645135) + (Int32.toUInt32 (((((x0 - ((Int32.toUInt32 x0 >>> (Int32.toUInt32 1 &&& Int32.toUInt32 31)).toInt32 &&& 1431655765)) &&& 858993459) + ((Int32.toUInt32 (x0 - ((Int32.toUInt32 x0 >>> (Int32.toUInt32 1 &&& Int32.toUInt32 31)).toInt32 &&& 1431655765)) >>> (Int32.toUInt32 2 &&& Int32.toUInt32 31)).toInt32 &&& 858993459)) + (Int32.toUInt32 (((x0 - ((Int32.toUInt32 x0 >>> (Int32.toUInt32 1 &&& Int32.toUInt32 31)).toInt32 &&& 1431655765)) &&& 858993459) + ((Int32.toUInt32 (x0 - ((Int32.toUInt32 x0 >>> (Int32.toUInt32 1 &&& Int32.toUInt32 31)).toInt32 &&& 1431655765)) >>> (Int32.toUInt32 2 &&& Int32.toUInt32 31)).toInt32 &&& 858993459)) >>> (Int32.toUInt32 4 &&& Int32.toUInt32 31)).toInt32) &&& 252645135) >>> (Int32.toUInt32 8 &&& Int32.toUInt32 31)).toInt32) + (Int32.toUInt32 ((((((x0 - ((Int32.toUInt32 x0 >>> (Int32.toUInt32 1 &&& Int32.toUInt32 31)).toInt32 &&& 1431655765)) &&& 858993459) + ((Int32.toUInt32 (x0 - ((Int32.toUInt32 x0 >>> (Int32.toUInt32 1 &&& Int32.toUInt32 31)).toInt32 &&& 1431655765)) >>> (Int32.toUInt32 2 &&& Int32.toUInt32 31)).toInt32 &&& 858993459)) + (Int32.toUInt32 (((x0 - ((Int32.toUInt32 x0 >>> (Int32.toUInt32 1 &&& Int32.toUInt32 31)).toInt32 &&& 1431655765)) &&& 858993459) + ((Int32.toUInt32 (x0 - ((Int32.toUInt32 x0 >>> (Int32.toUInt32 1 &&& Int32.toUInt32 31)).toInt32 &&& 1431655765)) >>> (Int32.toUInt32 2 &&& Int32.toUInt32 31)).toInt32 &&& 858993459)) >>> (Int32.toUInt32 4 &&& Int32.toUInt32 31)).toInt32) &&& 252645135) + (Int32.toUInt32 (((((x0 - ((Int32.toUInt32 x0 >>> (Int32.toUInt32 1 &&& Int32.toUInt32 31)).toInt32 &&& 1431655765)) &&& 858993459) + ((Int32.toUInt32 (x0 - ((Int32.toUInt32 x0 >>> (Int32.toUInt32 1 &&& Int32.toUInt32 31)).toInt32 &&& 1431655765)) >>> (Int32.toUInt32 2 &&& Int32.toUInt32 31)).toInt32 &&& 858993459)) + (Int32.toUInt32 (((x0 - ((Int32.toUInt32 x0 >>> (Int32.toUInt32 1 &&& Int32.toUInt32 31)).toInt32 &&& 1431655765)) &&& 858993459) + ((Int32.toUInt32 (x0 - ((Int32.toUInt32 x0 >>> (Int32.toUInt32 1 &&& Int32.toUInt32 31)).toInt32 &&& 1431655765)) >>> (Int32.toUInt32 2 &&& Int32.toUInt32 31)).toInt32 &&& 858993459)) >>> (Int32.toUInt32 4 &&& Int32.toUInt32 31)).toInt32) &&& 252645135) >>> (Int32.toUInt32 8 &&& Int32.toUInt32 31)).toInt32) >>> (Int32.toUInt32 16 &&& Int32.toUInt32 31)).toInt32))]) hE dJ6_bitCount_0f7a4_47 rfl (by decide) rfl ?_
  refine j_iload_n hE dJ6_bitCount_0f7a4_48 rfl 0 rfl ?_
  refine j_bipush (v := 63) hE dJ6_bitCount_0f7a4_49 (by decide) ?_
  refine j_iand hE dJ6_bitCount_0f7a4_51 ?_
  obtain rfl := Option.some.inj hf
  exact j_iret hE hq rfl rfl dJ6_bitCount_0f7a4_52
def rm_Poles_brought : Room := { frames := 0, cells := 0, slots := 0, locals := 0 }
def f_Poles_brought_4 (po_z : jZ) (x1 : Int32)  : Nat → Int32 → Int32 → Option (Int32)
  | 0, _, _ => none
  | n + 1, v2, v3 => (if (po_z 1 0) ≤ v3 then some v2
    else (if 12 ≤ v3 then some v2
    else (if ((x1 >>> (v3 &&& 31)) &&& 1) = 0 then f_Poles_brought_4 po_z x1 n (v2 + 0) (v3 + 1)
    else (ix v3 12).bind fun _ => f_Poles_brought_4 po_z x1 n (v2 + (po_z 5 (Int32.toNatClampNeg v3))) (v3 + 1))))
def f_Poles_brought (po_z : jZ) (x1 : Int32) : Option (Int32) := f_Poles_brought_4 po_z x1 FU 0 0
set_option maxRecDepth 100000 in
theorem j_Poles_brought_4 (E : jT) (g : jG) (a : Nat → Nat) (po_z : jZ) (pod_z : jZ) (pod_y : jY) (x1 : Int32) (res : Int32) (hE : jOk E g RX6 cX6_brought 4 (some .int) rm_Poles_brought) (hq : jEnd E g (some (.int res)) (([n_Poles g a po_z, n_Odds g (fun i => a (i + 5)) pod_z pod_y] : List va_W)) 0 0)  : ∀ (n : Nat) (v2 : Int32) (v3 : Int32), f_Poles_brought_4 po_z x1 n v2 v3 = some res → J E g 0 0 (([n_Poles g a po_z, n_Odds g (fun i => a (i + 5)) pod_z pod_y] : List va_W)) [(0, .ref (a 0)), (1, .int x1), (2, .int v2), (3, .int v3)] 4 [] := by
  intro n
  induction n with
  | zero =>
    intro v2 v3 hf
    rw [f_Poles_brought_4] at hf
    cases hf
  | succ n ih =>
    intro v2 v3 hf
    rw [f_Poles_brought_4] at hf
    refine j_iload_n hE dX6_brought_4 rfl 3 rfl ?_
    refine j_aload_n hE dX6_brought_5 rfl 0 rfl ?_
    refine j_get (v := .int (po_z 1 0)) hE lg_Poles_18 0 rfl 0 (wg_Poles_0 g a po_z) rfl dX6_brought_6 ?_
    refine j_icmp_ge (tgt := 45) hE hf dX6_brought_9 (by decide) (fun c1 hf => ?_) (fun c1 hf => ?_)
    · refine j_iload_n hE dX6_brought_45 rfl 2 rfl ?_
      obtain rfl := Option.some.inj hf
      exact j_iret hE hq rfl rfl dX6_brought_46
    · refine j_iload_n hE dX6_brought_12 rfl 3 rfl ?_
      refine j_bipush (v := 12) hE dX6_brought_13 (by decide) ?_
      refine j_icmp_ge (tgt := 45) hE hf dX6_brought_15 (by decide) (fun c2 hf => ?_) (fun c2 hf => ?_)
      · refine j_iload_n hE dX6_brought_45 rfl 2 rfl ?_
        obtain rfl := Option.some.inj hf
        exact j_iret hE hq rfl rfl dX6_brought_46
      · refine j_iload_n hE dX6_brought_18 rfl 2 rfl ?_
        refine j_iload_n hE dX6_brought_19 rfl 1 rfl ?_
        refine j_iload_n hE dX6_brought_20 rfl 3 rfl ?_
        refine j_ishr hE dX6_brought_21 ?_
        refine j_iconst (v := 1) hE dX6_brought_22 (by decide) ?_
        refine j_iand hE dX6_brought_23 ?_
        refine j_if_eq (tgt := 36) hE hf dX6_brought_24 (by decide) (fun c3 hf => ?_) (fun c3 hf => ?_)
        · refine j_iconst (v := 0) hE dX6_brought_36 (by decide) ?_
          refine j_iadd hE dX6_brought_37 ?_
          refine j_istore_n (lv' := [(2, .int (v2 + 0)), (0, .ref (a 0)), (1, .int x1), (3, .int v3)]) hE dX6_brought_38 rfl (by decide) rfl ?_
          refine j_iinc (v := (v3 + 1)) (lv' := [(3, .int (v3 + 1)), (2, .int (v2 + 0)), (0, .ref (a 0)), (1, .int x1)]) hE dX6_brought_39 3 rfl rfl (by decide) rfl ?_
          refine j_goto (tgt := 4) hE dX6_brought_42 (by decide) ?_
          exact j_sub [2, 3, 1, 0] rfl (ih (v2 + 0) (v3 + 1) hf)
        · refine j_aload_n hE dX6_brought_27 rfl 0 rfl ?_
          refine j_get (v := .ref (a 4)) hE lg_Poles_32 0 rfl 0 (wg_Poles_0 g a po_z) rfl dX6_brought_28 ?_
          refine j_iload_n hE dX6_brought_31 rfl 3 rfl ?_
          refine j_iald hE hf 0 rfl 4 (wg_Poles_4 g a po_z) dX6_brought_32 (fun hf => ?_)
          refine j_goto (tgt := 37) hE dX6_brought_33 (by decide) ?_
          refine j_iadd hE dX6_brought_37 ?_
          refine j_istore_n (lv' := [(2, .int (v2 + (po_z 5 (Int32.toNatClampNeg v3)))), (0, .ref (a 0)), (1, .int x1), (3, .int v3)]) hE dX6_brought_38 rfl (by decide) rfl ?_
          refine j_iinc (v := (v3 + 1)) (lv' := [(3, .int (v3 + 1)), (2, .int (v2 + (po_z 5 (Int32.toNatClampNeg v3)))), (0, .ref (a 0)), (1, .int x1)]) hE dX6_brought_39 3 rfl rfl (by decide) rfl ?_
          refine j_goto (tgt := 4) hE dX6_brought_42 (by decide) ?_
          exact j_sub [2, 3, 1, 0] rfl (ih (v2 + (po_z 5 (Int32.toNatClampNeg v3))) (v3 + 1) hf)
set_option maxRecDepth 100000 in
theorem c_Poles_brought (l : Launch) (g : jG) (a : Nat → Nat) (po_z : jZ) (pod_z : jZ) (pod_y : jY) (x1 : Int32) (res : Int32) (hf : f_Poles_brought po_z x1 = some res) : MC l g yX6_brought cX6_brought 4 (some .int) rm_Poles_brought [.ref (a 0), .int x1] (([n_Poles g a po_z, n_Odds g (fun i => a (i + 5)) pod_z pod_y] : List va_W)) (some (.int res)) (([n_Poles g a po_z, n_Odds g (fun i => a (i + 5)) pod_z pod_y] : List va_W)) 0 0 := by
  refine MC_of (own := RX6) (lv := [(0, .ref (a 0)), (1, .int x1)]) (by decide) rfl (Nat.le_of_ble_eq_true rfl) rfl rfl (fun E hE hq => ?_)
  unfold f_Poles_brought at hf
  refine j_iconst (v := 0) hE dX6_brought_0 (by decide) ?_
  refine j_istore_n (lv' := [(2, .int 0), (0, .ref (a 0)), (1, .int x1)]) hE dX6_brought_1 rfl (by decide) rfl ?_
  refine j_iconst (v := 0) hE dX6_brought_2 (by decide) ?_
  refine j_istore_n (lv' := [(3, .int 0), (2, .int 0), (0, .ref (a 0)), (1, .int x1)]) hE dX6_brought_3 rfl (by decide) rfl ?_
  exact j_sub [2, 3, 1, 0] rfl (j_Poles_brought_4 E g a po_z pod_z pod_y x1 res hE hq FU 0 0 hf)
def rm_Poles_saved : Room := { frames := 0, cells := 0, slots := 0, locals := 0 }
def f_Poles_saved_4 (po_z : jZ) (x1 : Int32)  : Nat → Int32 → Int32 → Option (Int32)
  | 0, _, _ => none
  | n + 1, v2, v3 => (if (po_z 1 0) ≤ v3 then some v2
    else (if 12 ≤ v3 then some v2
    else (if ((x1 >>> (v3 &&& 31)) &&& 1) = 0 then f_Poles_saved_4 po_z x1 n v2 (v3 + 1)
    else (ix v3 12).bind fun _ => (if ((x1 >>> ((v3 + 1) &&& 31)) &&& 1) = 0 then (ix v3 12).bind fun _ => f_Poles_saved_4 po_z x1 n ((v2 + (po_z 3 (Int32.toNatClampNeg v3))) - (po_z 4 (Int32.toNatClampNeg v3))) (v3 + 1)
    else f_Poles_saved_4 po_z x1 n ((v2 + (po_z 3 (Int32.toNatClampNeg v3))) - 0) (v3 + 1)))))
def f_Poles_saved (po_z : jZ) (x1 : Int32) : Option (Int32) := f_Poles_saved_4 po_z x1 FU 0 0
set_option maxRecDepth 100000 in
theorem j_Poles_saved_4 (E : jT) (g : jG) (a : Nat → Nat) (po_z : jZ) (pod_z : jZ) (pod_y : jY) (x1 : Int32) (res : Int32) (hE : jOk E g RX6 cX6_saved 4 (some .int) rm_Poles_saved) (hq : jEnd E g (some (.int res)) (([n_Poles g a po_z, n_Odds g (fun i => a (i + 5)) pod_z pod_y] : List va_W)) 0 0)  : ∀ (n : Nat) (v2 : Int32) (v3 : Int32), f_Poles_saved_4 po_z x1 n v2 v3 = some res → J E g 0 0 (([n_Poles g a po_z, n_Odds g (fun i => a (i + 5)) pod_z pod_y] : List va_W)) [(0, .ref (a 0)), (1, .int x1), (2, .int v2), (3, .int v3)] 4 [] := by
  intro n
  induction n with
  | zero =>
    intro v2 v3 hf
    rw [f_Poles_saved_4] at hf
    cases hf
  | succ n ih =>
    intro v2 v3 hf
    rw [f_Poles_saved_4] at hf
    refine j_iload_n hE dX6_saved_4 rfl 3 rfl ?_
    refine j_aload_n hE dX6_saved_5 rfl 0 rfl ?_
    refine j_get (v := .int (po_z 1 0)) hE lg_Poles_18 0 rfl 0 (wg_Poles_0 g a po_z) rfl dX6_saved_6 ?_
    refine j_icmp_ge (tgt := 64) hE hf dX6_saved_9 (by decide) (fun c1 hf => ?_) (fun c1 hf => ?_)
    · refine j_iload_n hE dX6_saved_64 rfl 2 rfl ?_
      obtain rfl := Option.some.inj hf
      exact j_iret hE hq rfl rfl dX6_saved_65
    · refine j_iload_n hE dX6_saved_12 rfl 3 rfl ?_
      refine j_bipush (v := 12) hE dX6_saved_13 (by decide) ?_
      refine j_icmp_ge (tgt := 64) hE hf dX6_saved_15 (by decide) (fun c2 hf => ?_) (fun c2 hf => ?_)
      · refine j_iload_n hE dX6_saved_64 rfl 2 rfl ?_
        obtain rfl := Option.some.inj hf
        exact j_iret hE hq rfl rfl dX6_saved_65
      · refine j_iload_n hE dX6_saved_18 rfl 1 rfl ?_
        refine j_iload_n hE dX6_saved_19 rfl 3 rfl ?_
        refine j_ishr hE dX6_saved_20 ?_
        refine j_iconst (v := 1) hE dX6_saved_21 (by decide) ?_
        refine j_iand hE dX6_saved_22 ?_
        refine j_if_eq (tgt := 58) hE hf dX6_saved_23 (by decide) (fun c3 hf => ?_) (fun c3 hf => ?_)
        · refine j_iinc (v := (v3 + 1)) (lv' := [(3, .int (v3 + 1)), (0, .ref (a 0)), (1, .int x1), (2, .int v2)]) hE dX6_saved_58 3 rfl rfl (by decide) rfl ?_
          refine j_goto (tgt := 4) hE dX6_saved_61 (by decide) ?_
          exact j_sub [1, 2, 3, 0] rfl (ih v2 (v3 + 1) hf)
        · refine j_iload_n hE dX6_saved_26 rfl 2 rfl ?_
          refine j_aload_n hE dX6_saved_27 rfl 0 rfl ?_
          refine j_get (v := .ref (a 2)) hE lg_Poles_26 0 rfl 0 (wg_Poles_0 g a po_z) rfl dX6_saved_28 ?_
          refine j_iload_n hE dX6_saved_31 rfl 3 rfl ?_
          refine j_iald hE hf 0 rfl 2 (wg_Poles_2 g a po_z) dX6_saved_32 (fun hf => ?_)
          refine j_iadd hE dX6_saved_33 ?_
          refine j_istore_n (lv' := [(2, .int (v2 + (po_z 3 (Int32.toNatClampNeg v3)))), (0, .ref (a 0)), (1, .int x1), (3, .int v3)]) hE dX6_saved_34 rfl (by decide) rfl ?_
          refine j_iload_n hE dX6_saved_35 rfl 0 rfl ?_
          refine j_iload_n hE dX6_saved_36 rfl 2 rfl ?_
          refine j_iload_n hE dX6_saved_37 rfl 3 rfl ?_
          refine j_iconst (v := 1) hE dX6_saved_38 (by decide) ?_
          refine j_iadd hE dX6_saved_39 ?_
          refine j_ishr hE dX6_saved_40 ?_
          refine j_iconst (v := 1) hE dX6_saved_41 (by decide) ?_
          refine j_iand hE dX6_saved_42 ?_
          refine j_if_ne (tgt := 55) hE hf dX6_saved_43 (by decide) (fun c5 hf => ?_) (fun c5 hf => ?_)
          · refine j_iconst (v := 0) hE dX6_saved_55 (by decide) ?_
            refine j_isub hE dX6_saved_56 ?_
            refine j_istore_n (lv' := [(2, .int ((v2 + (po_z 3 (Int32.toNatClampNeg v3))) - 0)), (0, .ref (a 0)), (1, .int x1), (3, .int v3)]) hE dX6_saved_57 rfl (by decide) rfl ?_
            refine j_iinc (v := (v3 + 1)) (lv' := [(3, .int (v3 + 1)), (2, .int ((v2 + (po_z 3 (Int32.toNatClampNeg v3))) - 0)), (0, .ref (a 0)), (1, .int x1)]) hE dX6_saved_58 3 rfl rfl (by decide) rfl ?_
            refine j_goto (tgt := 4) hE dX6_saved_61 (by decide) ?_
            exact j_sub [2, 3, 1, 0] rfl (ih ((v2 + (po_z 3 (Int32.toNatClampNeg v3))) - 0) (v3 + 1) hf)
          · refine j_aload_n hE dX6_saved_46 rfl 1 rfl ?_
            refine j_get (v := .ref (a 3)) hE lg_Poles_29 0 rfl 0 (wg_Poles_0 g a po_z) rfl dX6_saved_47 ?_
            refine j_iload_n hE dX6_saved_50 rfl 3 rfl ?_
            refine j_iald hE hf 0 rfl 3 (wg_Poles_3 g a po_z) dX6_saved_51 (fun hf => ?_)
            refine j_goto (tgt := 56) hE dX6_saved_52 (by decide) ?_
            refine j_isub hE dX6_saved_56 ?_
            refine j_istore_n (lv' := [(2, .int ((v2 + (po_z 3 (Int32.toNatClampNeg v3))) - (po_z 4 (Int32.toNatClampNeg v3)))), (0, .ref (a 0)), (1, .int x1), (3, .int v3)]) hE dX6_saved_57 rfl (by decide) rfl ?_
            refine j_iinc (v := (v3 + 1)) (lv' := [(3, .int (v3 + 1)), (2, .int ((v2 + (po_z 3 (Int32.toNatClampNeg v3))) - (po_z 4 (Int32.toNatClampNeg v3)))), (0, .ref (a 0)), (1, .int x1)]) hE dX6_saved_58 3 rfl rfl (by decide) rfl ?_
            refine j_goto (tgt := 4) hE dX6_saved_61 (by decide) ?_
            exact j_sub [2, 3, 1, 0] rfl (ih ((v2 + (po_z 3 (Int32.toNatClampNeg v3))) - (po_z 4 (Int32.toNatClampNeg v3))) (v3 + 1) hf)
set_option maxRecDepth 100000 in
theorem c_Poles_saved (l : Launch) (g : jG) (a : Nat → Nat) (po_z : jZ) (pod_z : jZ) (pod_y : jY) (x1 : Int32) (res : Int32) (hf : f_Poles_saved po_z x1 = some res) : MC l g yX6_saved cX6_saved 4 (some .int) rm_Poles_saved [.ref (a 0), .int x1] (([n_Poles g a po_z, n_Odds g (fun i => a (i + 5)) pod_z pod_y] : List va_W)) (some (.int res)) (([n_Poles g a po_z, n_Odds g (fun i => a (i + 5)) pod_z pod_y] : List va_W)) 0 0 := by
  refine MC_of (own := RX6) (lv := [(0, .ref (a 0)), (1, .int x1)]) (by decide) rfl (Nat.le_of_ble_eq_true rfl) rfl rfl (fun E hE hq => ?_)
  unfold f_Poles_saved at hf
  refine j_iconst (v := 0) hE dX6_saved_0 (by decide) ?_
  refine j_istore_n (lv' := [(2, .int 0), (0, .ref (a 0)), (1, .int x1)]) hE dX6_saved_1 rfl (by decide) rfl ?_
  refine j_iconst (v := 0) hE dX6_saved_2 (by decide) ?_
  refine j_istore_n (lv' := [(3, .int 0), (2, .int 0), (0, .ref (a 0)), (1, .int x1)]) hE dX6_saved_3 rfl (by decide) rfl ?_
  exact j_sub [2, 3, 1, 0] rfl (j_Poles_saved_4 E g a po_z pod_z pod_y x1 res hE hq FU 0 0 hf)
