theorem lg_Kinds_31 : jFl RX2 31 2 6 := ⟨RX2, TX2, 7, rfl, by decide, inX2, tb_at 228 (by decide +kernel) (by decide +kernel)⟩
theorem lg_Kinds_28 : jFl RX2 28 2 5 := ⟨RX2, TX2, 7, rfl, by decide, inX2, tb_at 227 (by decide +kernel) (by decide +kernel)⟩
theorem lg_Kinds_25 : jFl RX2 25 2 4 := ⟨RX2, TX2, 7, rfl, by decide, inX2, tb_at 224 (by decide +kernel) (by decide +kernel)⟩
theorem lp_Kinds_9 : jFp RX2 9 2 0 .int := ⟨RX2, TX2, 7, tyX2, rfl, by decide, inX2, tb_at 208 (by decide +kernel) (by decide +kernel), tyX2_ok, nmX2, rfl, rfl⟩
theorem lp_Kinds_15 : jFp RX2 15 2 1 .int := ⟨RX2, TX2, 7, tyX2, rfl, by decide, inX2, tb_at 213 (by decide +kernel) (by decide +kernel), tyX2_ok, nmX2, rfl, rfl⟩
theorem lg_Notes_35 : jFl RX4 35 4 7 := ⟨RX4, TX4, 8, rfl, by decide, inX4, tb_at 296 (by decide +kernel) (by decide +kernel)⟩
def w_Kinds (g : jG) (a : Nat → Nat) (ki_z : jZ) : va_W := [(a 0, .inr (2, [.int (ki_z 0 0), .int (ki_z 1 0), .ref (a 1), .ref (a 2), .ref (a 3), .ref (a 4), .ref (a 5)])),
  (a 1, .inl (g.2.2.1, 5, .inl (ki_z 2))),
  (a 2, .inl (g.2.2.1, 5, .inl (ki_z 3))),
  (a 3, .inl (g.2.2.1, 5, .inl (ki_z 4))),
  (a 4, .inl (g.2.2.1, 50, .inl (ki_z 5))),
  (a 5, .inl (g.2.2.1, 50, .inl (ki_z 6)))]
def w_Notes (g : jG) (a : Nat → Nat) (no_z : jZ) : va_W := [(a 0, .inr (4, [.int (no_z 0 0), .int (no_z 1 0), .ref (a 1), .ref (a 2), .ref (a 3), .ref (a 4), .ref (a 5), .ref (a 6)])),
  (a 1, .inl (g.2.2.1, 150, .inl (no_z 2))),
  (a 2, .inl (g.2.2.1, 150, .inl (no_z 3))),
  (a 3, .inl (g.2.2.1, 150, .inl (no_z 4))),
  (a 4, .inl (g.2.2.1, 150, .inl (no_z 5))),
  (a 5, .inl (g.2.2.2.2, 150, .inl (no_z 6))),
  (a 6, .inl (g.2.2.1, 108, .inl (no_z 7)))]
theorem wg_Kinds_0 (g : jG) (a : Nat → Nat) (ki_z : jZ) : (w_Kinds g a ki_z)[0]? = some (a 0, .inr (2, [.int (ki_z 0 0), .int (ki_z 1 0), .ref (a 1), .ref (a 2), .ref (a 3), .ref (a 4), .ref (a 5)])) := rfl
theorem wg_Kinds_5 (g : jG) (a : Nat → Nat) (ki_z : jZ) : (w_Kinds g a ki_z)[5]? = some (a 5, .inl (g.2.2.1, 50, .inl (ki_z 6))) := rfl
theorem wg_Kinds_4 (g : jG) (a : Nat → Nat) (ki_z : jZ) : (w_Kinds g a ki_z)[4]? = some (a 4, .inl (g.2.2.1, 50, .inl (ki_z 5))) := rfl
theorem wa_Kinds_4 (g : jG) (a : Nat → Nat) (ki_z : jZ) (j : Nat) (v : Int32) : (w_Kinds g a ki_z).set 4 (a 4, .inl (g.2.2.1, 50, .inl (upd (ki_z 5) j v))) = w_Kinds g a (up2 ki_z 5 j v) := rfl
theorem wa_Kinds_5 (g : jG) (a : Nat → Nat) (ki_z : jZ) (j : Nat) (v : Int32) : (w_Kinds g a ki_z).set 5 (a 5, .inl (g.2.2.1, 50, .inl (upd (ki_z 6) j v))) = w_Kinds g a (up2 ki_z 6 j v) := rfl
theorem wg_Kinds_3 (g : jG) (a : Nat → Nat) (ki_z : jZ) : (w_Kinds g a ki_z)[3]? = some (a 3, .inl (g.2.2.1, 5, .inl (ki_z 4))) := rfl
theorem wa_Kinds_3 (g : jG) (a : Nat → Nat) (ki_z : jZ) (j : Nat) (v : Int32) : (w_Kinds g a ki_z).set 3 (a 3, .inl (g.2.2.1, 5, .inl (upd (ki_z 4) j v))) = w_Kinds g a (up2 ki_z 4 j v) := rfl
theorem wp_Kinds_0_0 (g : jG) (a : Nat → Nat) (ki_z : jZ) (v : Int32) : (w_Kinds g a ki_z).set 0 (a 0, .inr (2, ([.int (ki_z 0 0), .int (ki_z 1 0), .ref (a 1), .ref (a 2), .ref (a 3), .ref (a 4), .ref (a 5)] : List Value).set 0 (.int v))) = w_Kinds g a (up2 ki_z 0 0 v) := rfl
theorem wp_Kinds_0_1 (g : jG) (a : Nat → Nat) (ki_z : jZ) (v : Int32) : (w_Kinds g a ki_z).set 0 (a 0, .inr (2, ([.int (ki_z 0 0), .int (ki_z 1 0), .ref (a 1), .ref (a 2), .ref (a 3), .ref (a 4), .ref (a 5)] : List Value).set 1 (.int v))) = w_Kinds g a (up2 ki_z 1 0 v) := rfl
theorem wg_I5_0 (g : jG) (r0 : Nat) (ar_z : jZ) : ([(r0, .inl (g.2.2.1, 5, .inl (ar_z 0)))])[0]? = some (r0, .inl (g.2.2.1, 5, .inl (ar_z 0))) := rfl
theorem wg_Notes_0 (g : jG) (a : Nat → Nat) (no_z : jZ) : (w_Notes g a no_z)[0]? = some (a 0, .inr (4, [.int (no_z 0 0), .int (no_z 1 0), .ref (a 1), .ref (a 2), .ref (a 3), .ref (a 4), .ref (a 5), .ref (a 6)])) := rfl
theorem wg_Notes_6 (g : jG) (a : Nat → Nat) (no_z : jZ) : (w_Notes g a no_z)[6]? = some (a 6, .inl (g.2.2.1, 108, .inl (no_z 7))) := rfl
def rm_Kinds_howManyAre : Room := { frames := 0, cells := 0, slots := 0, locals := 0 }
def f_Kinds_howManyAre_24 (ki_z : jZ) (x1 : Int32) (x2 : Int32)  (s0 : Int32) : Option (Int32) := (if s0 = 0 then some 0
    else (ix ((x1 * 10) + x2) 50).bind fun _ => some (ki_z 6 (Int32.toNatClampNeg ((x1 * 10) + x2))))
def f_Kinds_howManyAre (ki_z : jZ) (x1 : Int32) (x2 : Int32) : Option (Int32) := (if x1 < 0 then f_Kinds_howManyAre_24 ki_z x1 x2 0
    else (if 5 ≤ x1 then f_Kinds_howManyAre_24 ki_z x1 x2 0
    else (if x2 < 0 then f_Kinds_howManyAre_24 ki_z x1 x2 0
    else (if 10 ≤ x2 then f_Kinds_howManyAre_24 ki_z x1 x2 0
    else f_Kinds_howManyAre_24 ki_z x1 x2 1))))
set_option maxRecDepth 100000 in
theorem j_Kinds_howManyAre_24 (E : jT) (g : jG) (a : Nat → Nat) (ki_z : jZ) (x1 : Int32) (x2 : Int32) (res : Int32) (hE : jOk E g RX2 cX2_howManyAre 4 (some .int) rm_Kinds_howManyAre) (hq : jEnd E g (some (.int res)) (w_Kinds g a ki_z) 0 0)  (s0 : Int32) (hf : f_Kinds_howManyAre_24 ki_z x1 x2 s0 = some res) : J E g 0 0 (w_Kinds g a ki_z) [(0, .ref (a 0)), (1, .int x1), (2, .int x2)] 24 [.int s0] := by
  unfold f_Kinds_howManyAre_24 at hf
  refine j_istore_n (lv' := [(3, .int s0), (0, .ref (a 0)), (1, .int x1), (2, .int x2)]) hE dX2_howManyAre_24 rfl (by decide) rfl ?_
  refine j_iload_n hE dX2_howManyAre_25 rfl 0 rfl ?_
  refine j_if_eq (tgt := 43) hE hf dX2_howManyAre_26 (by decide) (fun c5 hf => ?_) (fun c5 hf => ?_)
  · refine j_iconst (v := 0) hE dX2_howManyAre_43 (by decide) ?_
    obtain rfl := Option.some.inj hf
    exact j_iret hE hq rfl rfl dX2_howManyAre_44
  · refine j_aload_n hE dX2_howManyAre_29 rfl 1 rfl ?_
    refine j_get (v := .ref (a 5)) hE lg_Kinds_31 0 (wg_Kinds_0 g a ki_z) rfl dX2_howManyAre_30 ?_
    refine j_iload_n hE dX2_howManyAre_33 rfl 2 rfl ?_
    refine j_bipush (v := 10) hE dX2_howManyAre_34 (by decide) ?_
    refine j_imul hE dX2_howManyAre_36 ?_
    refine j_iload_n hE dX2_howManyAre_37 rfl 3 rfl ?_
    refine j_iadd hE dX2_howManyAre_38 ?_
    refine j_iald hE hf 5 (wg_Kinds_5 g a ki_z) dX2_howManyAre_39 (fun hf => ?_)
    refine j_goto (tgt := 44) hE dX2_howManyAre_40 (by decide) ?_
    obtain rfl := Option.some.inj hf
    exact j_iret hE hq rfl rfl dX2_howManyAre_44
set_option maxRecDepth 100000 in
theorem c_Kinds_howManyAre (l : Launch) (g : jG) (a : Nat → Nat) (ki_z : jZ) (x1 : Int32) (x2 : Int32) (res : Int32) (hf : f_Kinds_howManyAre ki_z x1 x2 = some res) : MC l g yX2_howManyAre cX2_howManyAre 4 (some .int) rm_Kinds_howManyAre [.ref (a 0), .int x1, .int x2] (w_Kinds g a ki_z) (some (.int res)) (w_Kinds g a ki_z) 0 0 := by
  refine MC_of (own := RX2) (lv := [(0, .ref (a 0)), (1, .int x1), (2, .int x2)]) (by decide) rfl (Nat.le_of_ble_eq_true rfl) rfl (fun E hE hq => ?_)
  unfold f_Kinds_howManyAre at hf
  refine j_iload_n hE dX2_howManyAre_0 rfl 1 rfl ?_
  refine j_if_lt (tgt := 23) hE hf dX2_howManyAre_1 (by decide) (fun c1 hf => ?_) (fun c1 hf => ?_)
  · refine j_iconst (v := 0) hE dX2_howManyAre_23 (by decide) ?_
    exact j_Kinds_howManyAre_24 E g a ki_z x1 x2 res hE hq 0 hf
  · refine j_iload_n hE dX2_howManyAre_4 rfl 1 rfl ?_
    refine j_iconst (v := 5) hE dX2_howManyAre_5 (by decide) ?_
    refine j_icmp_ge (tgt := 23) hE hf dX2_howManyAre_6 (by decide) (fun c2 hf => ?_) (fun c2 hf => ?_)
    · refine j_iconst (v := 0) hE dX2_howManyAre_23 (by decide) ?_
      exact j_Kinds_howManyAre_24 E g a ki_z x1 x2 res hE hq 0 hf
    · refine j_iload_n hE dX2_howManyAre_9 rfl 2 rfl ?_
      refine j_if_lt (tgt := 23) hE hf dX2_howManyAre_10 (by decide) (fun c3 hf => ?_) (fun c3 hf => ?_)
      · refine j_iconst (v := 0) hE dX2_howManyAre_23 (by decide) ?_
        exact j_Kinds_howManyAre_24 E g a ki_z x1 x2 res hE hq 0 hf
      · refine j_iload_n hE dX2_howManyAre_13 rfl 2 rfl ?_
        refine j_bipush (v := 10) hE dX2_howManyAre_14 (by decide) ?_
        refine j_icmp_ge (tgt := 23) hE hf dX2_howManyAre_16 (by decide) (fun c4 hf => ?_) (fun c4 hf => ?_)
        · refine j_iconst (v := 0) hE dX2_howManyAre_23 (by decide) ?_
          exact j_Kinds_howManyAre_24 E g a ki_z x1 x2 res hE hq 0 hf
        · refine j_iconst (v := 1) hE dX2_howManyAre_19 (by decide) ?_
          refine j_goto (tgt := 24) hE dX2_howManyAre_20 (by decide) ?_
          exact j_Kinds_howManyAre_24 E g a ki_z x1 x2 res hE hq 1 hf
def rm_Kinds_faceAt : Room := { frames := 0, cells := 0, slots := 0, locals := 0 }
def f_Kinds_faceAt_24 (ki_z : jZ) (x1 : Int32) (x2 : Int32)  (s0 : Int32) : Option (Int32) := (if s0 = 0 then some 0
    else (ix ((x1 * 10) + x2) 50).bind fun _ => some (ki_z 5 (Int32.toNatClampNeg ((x1 * 10) + x2))))
def f_Kinds_faceAt (ki_z : jZ) (x1 : Int32) (x2 : Int32) : Option (Int32) := (if x1 < 0 then f_Kinds_faceAt_24 ki_z x1 x2 0
    else (if 5 ≤ x1 then f_Kinds_faceAt_24 ki_z x1 x2 0
    else (if x2 < 0 then f_Kinds_faceAt_24 ki_z x1 x2 0
    else (if 10 ≤ x2 then f_Kinds_faceAt_24 ki_z x1 x2 0
    else f_Kinds_faceAt_24 ki_z x1 x2 1))))
set_option maxRecDepth 100000 in
theorem j_Kinds_faceAt_24 (E : jT) (g : jG) (a : Nat → Nat) (ki_z : jZ) (x1 : Int32) (x2 : Int32) (res : Int32) (hE : jOk E g RX2 cX2_faceAt 4 (some .int) rm_Kinds_faceAt) (hq : jEnd E g (some (.int res)) (w_Kinds g a ki_z) 0 0)  (s0 : Int32) (hf : f_Kinds_faceAt_24 ki_z x1 x2 s0 = some res) : J E g 0 0 (w_Kinds g a ki_z) [(0, .ref (a 0)), (1, .int x1), (2, .int x2)] 24 [.int s0] := by
  unfold f_Kinds_faceAt_24 at hf
  refine j_istore_n (lv' := [(3, .int s0), (0, .ref (a 0)), (1, .int x1), (2, .int x2)]) hE dX2_faceAt_24 rfl (by decide) rfl ?_
  refine j_iload_n hE dX2_faceAt_25 rfl 0 rfl ?_
  refine j_if_eq (tgt := 43) hE hf dX2_faceAt_26 (by decide) (fun c5 hf => ?_) (fun c5 hf => ?_)
  · refine j_iconst (v := 0) hE dX2_faceAt_43 (by decide) ?_
    obtain rfl := Option.some.inj hf
    exact j_iret hE hq rfl rfl dX2_faceAt_44
  · refine j_aload_n hE dX2_faceAt_29 rfl 1 rfl ?_
    refine j_get (v := .ref (a 4)) hE lg_Kinds_28 0 (wg_Kinds_0 g a ki_z) rfl dX2_faceAt_30 ?_
    refine j_iload_n hE dX2_faceAt_33 rfl 2 rfl ?_
    refine j_bipush (v := 10) hE dX2_faceAt_34 (by decide) ?_
    refine j_imul hE dX2_faceAt_36 ?_
    refine j_iload_n hE dX2_faceAt_37 rfl 3 rfl ?_
    refine j_iadd hE dX2_faceAt_38 ?_
    refine j_iald hE hf 4 (wg_Kinds_4 g a ki_z) dX2_faceAt_39 (fun hf => ?_)
    refine j_goto (tgt := 44) hE dX2_faceAt_40 (by decide) ?_
    obtain rfl := Option.some.inj hf
    exact j_iret hE hq rfl rfl dX2_faceAt_44
set_option maxRecDepth 100000 in
theorem c_Kinds_faceAt (l : Launch) (g : jG) (a : Nat → Nat) (ki_z : jZ) (x1 : Int32) (x2 : Int32) (res : Int32) (hf : f_Kinds_faceAt ki_z x1 x2 = some res) : MC l g yX2_faceAt cX2_faceAt 4 (some .int) rm_Kinds_faceAt [.ref (a 0), .int x1, .int x2] (w_Kinds g a ki_z) (some (.int res)) (w_Kinds g a ki_z) 0 0 := by
  refine MC_of (own := RX2) (lv := [(0, .ref (a 0)), (1, .int x1), (2, .int x2)]) (by decide) rfl (Nat.le_of_ble_eq_true rfl) rfl (fun E hE hq => ?_)
  unfold f_Kinds_faceAt at hf
  refine j_iload_n hE dX2_faceAt_0 rfl 1 rfl ?_
  refine j_if_lt (tgt := 23) hE hf dX2_faceAt_1 (by decide) (fun c1 hf => ?_) (fun c1 hf => ?_)
  · refine j_iconst (v := 0) hE dX2_faceAt_23 (by decide) ?_
    exact j_Kinds_faceAt_24 E g a ki_z x1 x2 res hE hq 0 hf
  · refine j_iload_n hE dX2_faceAt_4 rfl 1 rfl ?_
    refine j_iconst (v := 5) hE dX2_faceAt_5 (by decide) ?_
    refine j_icmp_ge (tgt := 23) hE hf dX2_faceAt_6 (by decide) (fun c2 hf => ?_) (fun c2 hf => ?_)
    · refine j_iconst (v := 0) hE dX2_faceAt_23 (by decide) ?_
      exact j_Kinds_faceAt_24 E g a ki_z x1 x2 res hE hq 0 hf
    · refine j_iload_n hE dX2_faceAt_9 rfl 2 rfl ?_
      refine j_if_lt (tgt := 23) hE hf dX2_faceAt_10 (by decide) (fun c3 hf => ?_) (fun c3 hf => ?_)
      · refine j_iconst (v := 0) hE dX2_faceAt_23 (by decide) ?_
        exact j_Kinds_faceAt_24 E g a ki_z x1 x2 res hE hq 0 hf
      · refine j_iload_n hE dX2_faceAt_13 rfl 2 rfl ?_
        refine j_bipush (v := 10) hE dX2_faceAt_14 (by decide) ?_
        refine j_icmp_ge (tgt := 23) hE hf dX2_faceAt_16 (by decide) (fun c4 hf => ?_) (fun c4 hf => ?_)
        · refine j_iconst (v := 0) hE dX2_faceAt_23 (by decide) ?_
          exact j_Kinds_faceAt_24 E g a ki_z x1 x2 res hE hq 0 hf
        · refine j_iconst (v := 1) hE dX2_faceAt_19 (by decide) ?_
          refine j_goto (tgt := 24) hE dX2_faceAt_20 (by decide) ?_
          exact j_Kinds_faceAt_24 E g a ki_z x1 x2 res hE hq 1 hf
def rm_Kinds_putFace : Room := { frames := 0, cells := 0, slots := 0, locals := 0 }
def f_Kinds_putFace (ki_z : jZ) (x1 : Int32) (x2 : Int32) (x3 : Int32) : Option (jZ) := (if x1 < 0 then some ki_z
    else (if 5 ≤ x1 then some ki_z
    else (if x2 < 0 then some ki_z
    else (if 10 ≤ x2 then some ki_z
    else (if x3 < 0 then some ki_z
    else (if 10 ≤ x3 then some ki_z
    else (ix ((x1 * 10) + x2) 50).bind fun _ => (ix ((x1 * 10) + x3) 50).bind fun _ => (ix ((x1 * 10) + x3) 50).bind fun _ => (ix x1 5).bind fun _ => (ix x1 5).bind fun _ => some (up2 (up2 (up2 ki_z 5 (Int32.toNatClampNeg ((x1 * 10) + x2)) x3) 6 (Int32.toNatClampNeg ((x1 * 10) + x3)) ((ki_z 6 (Int32.toNatClampNeg ((x1 * 10) + x3))) + 1)) 4 (Int32.toNatClampNeg x1) ((ki_z 4 (Int32.toNatClampNeg x1)) + x3))))))))
set_option maxRecDepth 100000 in
theorem c_Kinds_putFace (l : Launch) (g : jG) (a : Nat → Nat) (ki_z : jZ) (x1 : Int32) (x2 : Int32) (x3 : Int32) (res : jZ) (hf : f_Kinds_putFace ki_z x1 x2 x3 = some res) : MC l g yX2_putFace cX2_putFace 4 (none : Option Jvm.ClassFile.FieldType) rm_Kinds_putFace [.ref (a 0), .int x1, .int x2, .int x3] (w_Kinds g a ki_z) none (w_Kinds g a res) 0 0 := by
  refine MC_of (own := RX2) (lv := [(0, .ref (a 0)), (1, .int x1), (2, .int x2), (3, .int x3)]) (by decide) rfl (Nat.le_of_ble_eq_true rfl) rfl (fun E hE hq => ?_)
  unfold f_Kinds_putFace at hf
  refine j_iload_n hE dX2_putFace_0 rfl 1 rfl ?_
  refine j_if_lt (tgt := 66) hE hf dX2_putFace_1 (by decide) (fun c1 hf => ?_) (fun c1 hf => ?_)
  · obtain rfl := Option.some.inj hf
    exact j_vret hE hq rfl rfl dX2_putFace_66
  · refine j_iload_n hE dX2_putFace_4 rfl 1 rfl ?_
    refine j_iconst (v := 5) hE dX2_putFace_5 (by decide) ?_
    refine j_icmp_ge (tgt := 66) hE hf dX2_putFace_6 (by decide) (fun c2 hf => ?_) (fun c2 hf => ?_)
    · obtain rfl := Option.some.inj hf
      exact j_vret hE hq rfl rfl dX2_putFace_66
    · refine j_iload_n hE dX2_putFace_9 rfl 2 rfl ?_
      refine j_if_lt (tgt := 66) hE hf dX2_putFace_10 (by decide) (fun c3 hf => ?_) (fun c3 hf => ?_)
      · obtain rfl := Option.some.inj hf
        exact j_vret hE hq rfl rfl dX2_putFace_66
      · refine j_iload_n hE dX2_putFace_13 rfl 2 rfl ?_
        refine j_bipush (v := 10) hE dX2_putFace_14 (by decide) ?_
        refine j_icmp_ge (tgt := 66) hE hf dX2_putFace_16 (by decide) (fun c4 hf => ?_) (fun c4 hf => ?_)
        · obtain rfl := Option.some.inj hf
          exact j_vret hE hq rfl rfl dX2_putFace_66
        · refine j_iload_n hE dX2_putFace_19 rfl 3 rfl ?_
          refine j_if_lt (tgt := 66) hE hf dX2_putFace_20 (by decide) (fun c5 hf => ?_) (fun c5 hf => ?_)
          · obtain rfl := Option.some.inj hf
            exact j_vret hE hq rfl rfl dX2_putFace_66
          · refine j_iload_n hE dX2_putFace_23 rfl 3 rfl ?_
            refine j_bipush (v := 10) hE dX2_putFace_24 (by decide) ?_
            refine j_icmp_ge (tgt := 66) hE hf dX2_putFace_26 (by decide) (fun c6 hf => ?_) (fun c6 hf => ?_)
            · obtain rfl := Option.some.inj hf
              exact j_vret hE hq rfl rfl dX2_putFace_66
            · refine j_aload_n hE dX2_putFace_29 rfl 0 rfl ?_
              refine j_get (v := .ref (a 4)) hE lg_Kinds_28 0 (wg_Kinds_0 g a ki_z) rfl dX2_putFace_30 ?_
              refine j_iload_n hE dX2_putFace_33 rfl 1 rfl ?_
              refine j_bipush (v := 10) hE dX2_putFace_34 (by decide) ?_
              refine j_imul hE dX2_putFace_36 ?_
              refine j_iload_n hE dX2_putFace_37 rfl 2 rfl ?_
              refine j_iadd hE dX2_putFace_38 ?_
              refine j_iload_n hE dX2_putFace_39 rfl 3 rfl ?_
              refine j_iast hE hf 4 (wg_Kinds_4 g a ki_z) (wa_Kinds_4 g a ki_z (Int32.toNatClampNeg ((x1 * 10) + x2)) x3) dX2_putFace_40 (fun hf => ?_)
              refine j_aload_n hE dX2_putFace_41 rfl 0 rfl ?_
              refine j_get (v := .ref (a 5)) hE lg_Kinds_31 0 (wg_Kinds_0 g a (up2 ki_z 5 (Int32.toNatClampNeg ((x1 * 10) + x2)) x3)) rfl dX2_putFace_42 ?_
              refine j_iload_n hE dX2_putFace_45 rfl 1 rfl ?_
              refine j_bipush (v := 10) hE dX2_putFace_46 (by decide) ?_
              refine j_imul hE dX2_putFace_48 ?_
              refine j_iload_n hE dX2_putFace_49 rfl 3 rfl ?_
              refine j_iadd hE dX2_putFace_50 ?_
              refine j_dup2_11 hE dX2_putFace_51 rfl rfl ?_
              refine j_iald hE hf 5 (wg_Kinds_5 g a (up2 ki_z 5 (Int32.toNatClampNeg ((x1 * 10) + x2)) x3)) dX2_putFace_52 (fun hf => ?_)
              refine j_st (st' := [.int (ki_z 6 (Int32.toNatClampNeg ((x1 * 10) + x3))), .int ((x1 * 10) + x3), .ref (a 5)]) rfl ?_
              refine j_iconst (v := 1) hE dX2_putFace_53 (by decide) ?_
              refine j_iadd hE dX2_putFace_54 ?_
              refine j_iast hE hf 5 (wg_Kinds_5 g a (up2 ki_z 5 (Int32.toNatClampNeg ((x1 * 10) + x2)) x3)) (wa_Kinds_5 g a (up2 ki_z 5 (Int32.toNatClampNeg ((x1 * 10) + x2)) x3) (Int32.toNatClampNeg ((x1 * 10) + x3)) ((ki_z 6 (Int32.toNatClampNeg ((x1 * 10) + x3))) + 1)) dX2_putFace_55 (fun hf => ?_)
              refine j_aload_n hE dX2_putFace_56 rfl 0 rfl ?_
              refine j_get (v := .ref (a 3)) hE lg_Kinds_25 0 (wg_Kinds_0 g a (up2 (up2 ki_z 5 (Int32.toNatClampNeg ((x1 * 10) + x2)) x3) 6 (Int32.toNatClampNeg ((x1 * 10) + x3)) ((ki_z 6 (Int32.toNatClampNeg ((x1 * 10) + x3))) + 1))) rfl dX2_putFace_57 ?_
              refine j_iload_n hE dX2_putFace_60 rfl 1 rfl ?_
              refine j_dup2_11 hE dX2_putFace_61 rfl rfl ?_
              refine j_iald hE hf 3 (wg_Kinds_3 g a (up2 (up2 ki_z 5 (Int32.toNatClampNeg ((x1 * 10) + x2)) x3) 6 (Int32.toNatClampNeg ((x1 * 10) + x3)) ((ki_z 6 (Int32.toNatClampNeg ((x1 * 10) + x3))) + 1))) dX2_putFace_62 (fun hf => ?_)
              refine j_st (st' := [.int (ki_z 4 (Int32.toNatClampNeg x1)), .int x1, .ref (a 3)]) rfl ?_
              refine j_iload_n hE dX2_putFace_63 rfl 3 rfl ?_
              refine j_iadd hE dX2_putFace_64 ?_
              refine j_iast hE hf 3 (wg_Kinds_3 g a (up2 (up2 ki_z 5 (Int32.toNatClampNeg ((x1 * 10) + x2)) x3) 6 (Int32.toNatClampNeg ((x1 * 10) + x3)) ((ki_z 6 (Int32.toNatClampNeg ((x1 * 10) + x3))) + 1))) (wa_Kinds_3 g a (up2 (up2 ki_z 5 (Int32.toNatClampNeg ((x1 * 10) + x2)) x3) 6 (Int32.toNatClampNeg ((x1 * 10) + x3)) ((ki_z 6 (Int32.toNatClampNeg ((x1 * 10) + x3))) + 1)) (Int32.toNatClampNeg x1) ((ki_z 4 (Int32.toNatClampNeg x1)) + x3)) dX2_putFace_65 (fun hf => ?_)
              obtain rfl := Option.some.inj hf
              exact j_vret hE hq rfl rfl dX2_putFace_66
def rm_Kinds_clear : Room := { frames := 0, cells := 0, slots := 0, locals := 0 }
def f_Kinds_clear_32    : Nat → jZ → Int32 → Option (jZ)
  | 0, _, _ => none
  | n + 1, ki_z, v1 => (if 50 ≤ v1 then some ki_z
    else (ix v1 50).bind fun _ => f_Kinds_clear_32  n (up2 ki_z 6 (Int32.toNatClampNeg v1) 0) (v1 + 1))
def f_Kinds_clear_12    : Nat → jZ → Int32 → Option (jZ)
  | 0, _, _ => none
  | n + 1, ki_z, v1 => (if 5 ≤ v1 then f_Kinds_clear_32 FU ki_z 0
    else (ix v1 5).bind fun _ => f_Kinds_clear_12  n (up2 ki_z 4 (Int32.toNatClampNeg v1) 0) (v1 + 1))
def f_Kinds_clear (ki_z : jZ)  : Option (jZ) := f_Kinds_clear_12 FU (up2 (up2 ki_z 0 0 0) 1 0 0) 0
set_option maxRecDepth 100000 in
theorem j_Kinds_clear_32 (E : jT) (g : jG) (a : Nat → Nat)   (res : jZ) (hE : jOk E g RX2 cX2_clear 2 (none : Option Jvm.ClassFile.FieldType) rm_Kinds_clear) (hq : jEnd E g none (w_Kinds g a res) 0 0)  : ∀ (n : Nat) (ki_z : jZ) (v1 : Int32), f_Kinds_clear_32 n ki_z v1 = some res → J E g 0 0 (w_Kinds g a ki_z) [(0, .ref (a 0)), (1, .int v1)] 32 [] := by
  intro n
  induction n with
  | zero =>
    intro ki_z v1 hf
    rw [f_Kinds_clear_32] at hf
    cases hf
  | succ n ih =>
    intro ki_z v1 hf
    rw [f_Kinds_clear_32] at hf
    refine j_iload_n hE dX2_clear_32 rfl 1 rfl ?_
    refine j_bipush (v := 50) hE dX2_clear_33 (by decide) ?_
    refine j_icmp_ge (tgt := 51) hE hf dX2_clear_35 (by decide) (fun c2 hf => ?_) (fun c2 hf => ?_)
    · obtain rfl := Option.some.inj hf
      exact j_vret hE hq rfl rfl dX2_clear_51
    · refine j_aload_n hE dX2_clear_38 rfl 0 rfl ?_
      refine j_get (v := .ref (a 5)) hE lg_Kinds_31 0 (wg_Kinds_0 g a ki_z) rfl dX2_clear_39 ?_
      refine j_iload_n hE dX2_clear_42 rfl 1 rfl ?_
      refine j_iconst (v := 0) hE dX2_clear_43 (by decide) ?_
      refine j_iast hE hf 5 (wg_Kinds_5 g a ki_z) (wa_Kinds_5 g a ki_z (Int32.toNatClampNeg v1) 0) dX2_clear_44 (fun hf => ?_)
      refine j_iinc (v := (v1 + 1)) (lv' := [(1, .int (v1 + 1)), (0, .ref (a 0))]) hE dX2_clear_45 1 rfl rfl (by decide) rfl ?_
      refine j_goto (tgt := 32) hE dX2_clear_48 (by decide) ?_
      exact j_sub [1, 0] rfl (ih (up2 ki_z 6 (Int32.toNatClampNeg v1) 0) (v1 + 1) hf)
set_option maxRecDepth 100000 in
theorem j_Kinds_clear_12 (E : jT) (g : jG) (a : Nat → Nat)   (res : jZ) (hE : jOk E g RX2 cX2_clear 2 (none : Option Jvm.ClassFile.FieldType) rm_Kinds_clear) (hq : jEnd E g none (w_Kinds g a res) 0 0)  : ∀ (n : Nat) (ki_z : jZ) (v1 : Int32), f_Kinds_clear_12 n ki_z v1 = some res → J E g 0 0 (w_Kinds g a ki_z) [(0, .ref (a 0)), (1, .int v1)] 12 [] := by
  intro n
  induction n with
  | zero =>
    intro ki_z v1 hf
    rw [f_Kinds_clear_12] at hf
    cases hf
  | succ n ih =>
    intro ki_z v1 hf
    rw [f_Kinds_clear_12] at hf
    refine j_iload_n hE dX2_clear_12 rfl 1 rfl ?_
    refine j_iconst (v := 5) hE dX2_clear_13 (by decide) ?_
    refine j_icmp_ge (tgt := 30) hE hf dX2_clear_14 (by decide) (fun c1 hf => ?_) (fun c1 hf => ?_)
    · refine j_iconst (v := 0) hE dX2_clear_30 (by decide) ?_
      refine j_istore_n (lv' := [(1, .int 0), (0, .ref (a 0))]) hE dX2_clear_31 rfl (by decide) rfl ?_
      exact j_sub [1, 0] rfl (j_Kinds_clear_32 E g a res hE hq FU ki_z 0 hf)
    · refine j_aload_n hE dX2_clear_17 rfl 0 rfl ?_
      refine j_get (v := .ref (a 3)) hE lg_Kinds_25 0 (wg_Kinds_0 g a ki_z) rfl dX2_clear_18 ?_
      refine j_iload_n hE dX2_clear_21 rfl 1 rfl ?_
      refine j_iconst (v := 0) hE dX2_clear_22 (by decide) ?_
      refine j_iast hE hf 3 (wg_Kinds_3 g a ki_z) (wa_Kinds_3 g a ki_z (Int32.toNatClampNeg v1) 0) dX2_clear_23 (fun hf => ?_)
      refine j_iinc (v := (v1 + 1)) (lv' := [(1, .int (v1 + 1)), (0, .ref (a 0))]) hE dX2_clear_24 1 rfl rfl (by decide) rfl ?_
      refine j_goto (tgt := 12) hE dX2_clear_27 (by decide) ?_
      exact j_sub [1, 0] rfl (ih (up2 ki_z 4 (Int32.toNatClampNeg v1) 0) (v1 + 1) hf)
set_option maxRecDepth 100000 in
theorem c_Kinds_clear (l : Launch) (g : jG) (a : Nat → Nat) (ki_z : jZ)  (res : jZ) (hf : f_Kinds_clear ki_z = some res) : MC l g yX2_clear cX2_clear 2 (none : Option Jvm.ClassFile.FieldType) rm_Kinds_clear [.ref (a 0)] (w_Kinds g a ki_z) none (w_Kinds g a res) 0 0 := by
  refine MC_of (own := RX2) (lv := [(0, .ref (a 0))]) (by decide) rfl (Nat.le_of_ble_eq_true rfl) rfl (fun E hE hq => ?_)
  unfold f_Kinds_clear at hf
  refine j_aload_n hE dX2_clear_0 rfl 0 rfl ?_
  refine j_iconst (v := 0) hE dX2_clear_1 (by decide) ?_
  refine j_put (v := .int 0) hE lp_Kinds_9 0 (wg_Kinds_0 g a ki_z) rfl rfl (Nat.le_of_ble_eq_true rfl) (wp_Kinds_0_0 g a ki_z 0) dX2_clear_2 ?_
  refine j_aload_n hE dX2_clear_5 rfl 0 rfl ?_
  refine j_iconst (v := 0) hE dX2_clear_6 (by decide) ?_
  refine j_put (v := .int 0) hE lp_Kinds_15 0 (wg_Kinds_0 g a (up2 ki_z 0 0 0)) rfl rfl (Nat.le_of_ble_eq_true rfl) (wp_Kinds_0_1 g a (up2 ki_z 0 0 0) 0) dX2_clear_7 ?_
  refine j_iconst (v := 0) hE dX2_clear_10 (by decide) ?_
  refine j_istore_n (lv' := [(1, .int 0), (0, .ref (a 0))]) hE dX2_clear_11 rfl (by decide) rfl ?_
  exact j_sub [1, 0] rfl (j_Kinds_clear_12 E g a res hE hq FU (up2 (up2 ki_z 0 0 0) 1 0 0) 0 hf)
def rm_WP_isWithin : Room := { frames := 0, cells := 0, slots := 0, locals := 0 }
def f_WP_isWithin  (x0 : Int32) (x1 : Int32) (x2 : Int32) : Option (Int32) := (if x0 < x1 then some 0
    else (if x2 < x0 then some 0
    else some 1))
set_option maxRecDepth 100000 in
theorem c_WP_isWithin (l : Launch) (g : jG)   (x0 : Int32) (x1 : Int32) (x2 : Int32) (res : Int32) (hf : f_WP_isWithin x0 x1 x2 = some res) : MC l g yX11_isWithin cX11_isWithin 3 (some .boolean) rm_WP_isWithin [.int x0, .int x1, .int x2] ([]) (some (.int res)) ([]) 0 0 := by
  refine MC_of (own := RX11) (lv := [(0, .int x0), (1, .int x1), (2, .int x2)]) (by decide) rfl (Nat.le_of_ble_eq_true rfl) rfl (fun E hE hq => ?_)
  unfold f_WP_isWithin at hf
  refine j_iload_n hE dX11_isWithin_0 rfl 0 rfl ?_
  refine j_iload_n hE dX11_isWithin_1 rfl 1 rfl ?_
  refine j_icmp_lt (tgt := 14) hE hf dX11_isWithin_2 (by decide) (fun c1 hf => ?_) (fun c1 hf => ?_)
  · refine j_iconst (v := 0) hE dX11_isWithin_14 (by decide) ?_
    obtain rfl := Option.some.inj hf
    exact j_zret_c hE (Or.inl rfl) hq rfl rfl dX11_isWithin_15
  · refine j_iload_n hE dX11_isWithin_5 rfl 0 rfl ?_
    refine j_iload_n hE dX11_isWithin_6 rfl 2 rfl ?_
    refine j_icmp_gt (tgt := 14) hE hf dX11_isWithin_7 (by decide) (fun c2 hf => ?_) (fun c2 hf => ?_)
    · refine j_iconst (v := 0) hE dX11_isWithin_14 (by decide) ?_
      obtain rfl := Option.some.inj hf
      exact j_zret_c hE (Or.inl rfl) hq rfl rfl dX11_isWithin_15
    · refine j_iconst (v := 1) hE dX11_isWithin_10 (by decide) ?_
      refine j_goto (tgt := 15) hE dX11_isWithin_11 (by decide) ?_
      obtain rfl := Option.some.inj hf
      exact j_zret_c hE (Or.inr rfl) hq rfl rfl dX11_isWithin_15
def rm_WP_areYears : Room := { frames := 0, cells := 0, slots := 0, locals := 0 }
def f_WP_areYears  (x0 : Int32) (x1 : Int32) : Option (Int32) := (if x0 < 0 then some 0
    else (if x1 < x0 then some 0
    else (if 9 ≤ x1 then some 0
    else (if 6 ≤ (x1 - x0) then some 0
    else some 1))))
set_option maxRecDepth 100000 in
theorem c_WP_areYears (l : Launch) (g : jG)   (x0 : Int32) (x1 : Int32) (res : Int32) (hf : f_WP_areYears x0 x1 = some res) : MC l g yX11_areYears cX11_areYears 2 (some .boolean) rm_WP_areYears [.int x0, .int x1] ([]) (some (.int res)) ([]) 0 0 := by
  refine MC_of (own := RX11) (lv := [(0, .int x0), (1, .int x1)]) (by decide) rfl (Nat.le_of_ble_eq_true rfl) rfl (fun E hE hq => ?_)
  unfold f_WP_areYears at hf
  refine j_iload_n hE dX11_areYears_0 rfl 0 rfl ?_
  refine j_if_lt (tgt := 27) hE hf dX11_areYears_1 (by decide) (fun c1 hf => ?_) (fun c1 hf => ?_)
  · refine j_iconst (v := 0) hE dX11_areYears_27 (by decide) ?_
    obtain rfl := Option.some.inj hf
    exact j_zret_c hE (Or.inl rfl) hq rfl rfl dX11_areYears_28
  · refine j_iload_n hE dX11_areYears_4 rfl 0 rfl ?_
    refine j_iload_n hE dX11_areYears_5 rfl 1 rfl ?_
    refine j_icmp_gt (tgt := 27) hE hf dX11_areYears_6 (by decide) (fun c2 hf => ?_) (fun c2 hf => ?_)
    · refine j_iconst (v := 0) hE dX11_areYears_27 (by decide) ?_
      obtain rfl := Option.some.inj hf
      exact j_zret_c hE (Or.inl rfl) hq rfl rfl dX11_areYears_28
    · refine j_iload_n hE dX11_areYears_9 rfl 1 rfl ?_
      refine j_bipush (v := 9) hE dX11_areYears_10 (by decide) ?_
      refine j_icmp_ge (tgt := 27) hE hf dX11_areYears_12 (by decide) (fun c3 hf => ?_) (fun c3 hf => ?_)
      · refine j_iconst (v := 0) hE dX11_areYears_27 (by decide) ?_
        obtain rfl := Option.some.inj hf
        exact j_zret_c hE (Or.inl rfl) hq rfl rfl dX11_areYears_28
      · refine j_iload_n hE dX11_areYears_15 rfl 1 rfl ?_
        refine j_iload_n hE dX11_areYears_16 rfl 0 rfl ?_
        refine j_isub hE dX11_areYears_17 ?_
        refine j_bipush (v := 6) hE dX11_areYears_18 (by decide) ?_
        refine j_icmp_ge (tgt := 27) hE hf dX11_areYears_20 (by decide) (fun c4 hf => ?_) (fun c4 hf => ?_)
        · refine j_iconst (v := 0) hE dX11_areYears_27 (by decide) ?_
          obtain rfl := Option.some.inj hf
          exact j_zret_c hE (Or.inl rfl) hq rfl rfl dX11_areYears_28
        · refine j_iconst (v := 1) hE dX11_areYears_23 (by decide) ?_
          refine j_goto (tgt := 28) hE dX11_areYears_24 (by decide) ?_
          obtain rfl := Option.some.inj hf
          exact j_zret_c hE (Or.inr rfl) hq rfl rfl dX11_areYears_28
def rm_WP_find5 : Room := { frames := 0, cells := 0, slots := 0, locals := 0 }
def f_WP_find5_2 (ar_z : jZ) (x1 : Int32) (x2 : Int32)  : Nat → Int32 → Option (Int32)
  | 0, _ => none
  | n + 1, v3 => (if x1 ≤ v3 then some (-1)
    else (if 5 ≤ v3 then some (-1)
    else (ix v3 5).bind fun _ => (if (ar_z 0 (Int32.toNatClampNeg v3)) = x2 then some v3
    else f_WP_find5_2 ar_z x1 x2 n (v3 + 1))))
def f_WP_find5 (ar_z : jZ) (x1 : Int32) (x2 : Int32) : Option (Int32) := f_WP_find5_2 ar_z x1 x2 FU 0
set_option maxRecDepth 100000 in
theorem j_WP_find5_2 (E : jT) (g : jG) (r0 : Nat) (ar_z : jZ) (x1 : Int32) (x2 : Int32) (res : Int32) (hE : jOk E g RX11 cX11_find 4 (some .int) rm_WP_find5) (hq : jEnd E g (some (.int res)) ([(r0, .inl (g.2.2.1, 5, .inl (ar_z 0)))]) 0 0)  : ∀ (n : Nat) (v3 : Int32), f_WP_find5_2 ar_z x1 x2 n v3 = some res → J E g 0 0 ([(r0, .inl (g.2.2.1, 5, .inl (ar_z 0)))]) [(0, .ref (r0)), (1, .int x1), (2, .int x2), (3, .int v3)] 2 [] := by
  intro n
  induction n with
  | zero =>
    intro v3 hf
    rw [f_WP_find5_2] at hf
    cases hf
  | succ n ih =>
    intro v3 hf
    rw [f_WP_find5_2] at hf
    refine j_iload_n hE dX11_find_2 rfl 3 rfl ?_
    refine j_iload_n hE dX11_find_3 rfl 1 rfl ?_
    refine j_icmp_ge (tgt := 28) hE hf dX11_find_4 (by decide) (fun c1 hf => ?_) (fun c1 hf => ?_)
    · refine j_iconst (v := (-1)) hE dX11_find_28 (by decide) ?_
      obtain rfl := Option.some.inj hf
      exact j_iret hE hq rfl rfl dX11_find_29
    · refine j_iload_n hE dX11_find_7 rfl 3 rfl ?_
      refine j_aload_n hE dX11_find_8 rfl 0 rfl ?_
      refine j_alen (v := 5) (t0 := 1) hE 0 (wg_I5_0 g r0 ar_z) rfl rfl dX11_find_9 ?_
      refine j_icmp_ge (tgt := 28) hE hf dX11_find_10 (by decide) (fun c2 hf => ?_) (fun c2 hf => ?_)
      · refine j_iconst (v := (-1)) hE dX11_find_28 (by decide) ?_
        obtain rfl := Option.some.inj hf
        exact j_iret hE hq rfl rfl dX11_find_29
      · refine j_aload_n hE dX11_find_13 rfl 0 rfl ?_
        refine j_iload_n hE dX11_find_14 rfl 3 rfl ?_
        refine j_iald hE hf 0 (wg_I5_0 g r0 ar_z) dX11_find_15 (fun hf => ?_)
        refine j_iload_n hE dX11_find_16 rfl 2 rfl ?_
        refine j_icmp_ne (tgt := 22) hE hf dX11_find_17 (by decide) (fun c4 hf => ?_) (fun c4 hf => ?_)
        · refine j_iinc (v := (v3 + 1)) (lv' := [(3, .int (v3 + 1)), (0, .ref (r0)), (1, .int x1), (2, .int x2)]) hE dX11_find_22 3 rfl rfl (by decide) rfl ?_
          refine j_goto (tgt := 2) hE dX11_find_25 (by decide) ?_
          exact j_sub [1, 2, 3, 0] rfl (ih (v3 + 1) hf)
        · refine j_iload_n hE dX11_find_20 rfl 3 rfl ?_
          obtain rfl := Option.some.inj hf
          exact j_iret hE hq rfl rfl dX11_find_21
set_option maxRecDepth 100000 in
theorem c_WP_find5 (l : Launch) (g : jG) (r0 : Nat) (ar_z : jZ) (x1 : Int32) (x2 : Int32) (res : Int32) (hf : f_WP_find5 ar_z x1 x2 = some res) : MC l g yX11_find cX11_find 4 (some .int) rm_WP_find5 [.ref (r0), .int x1, .int x2] ([(r0, .inl (g.2.2.1, 5, .inl (ar_z 0)))]) (some (.int res)) ([(r0, .inl (g.2.2.1, 5, .inl (ar_z 0)))]) 0 0 := by
  refine MC_of (own := RX11) (lv := [(0, .ref (r0)), (1, .int x1), (2, .int x2)]) (by decide) rfl (Nat.le_of_ble_eq_true rfl) rfl (fun E hE hq => ?_)
  unfold f_WP_find5 at hf
  refine j_iconst (v := 0) hE dX11_find_0 (by decide) ?_
  refine j_istore_n (lv' := [(3, .int 0), (0, .ref (r0)), (1, .int x1), (2, .int x2)]) hE dX11_find_1 rfl (by decide) rfl ?_
  exact j_sub [1, 2, 3, 0] rfl (j_WP_find5_2 E g r0 ar_z x1 x2 res hE hq FU 0 hf)
def rm_Notes_at : Room := { frames := 0, cells := 0, slots := 0, locals := 0 }
def f_Notes_at_25 (no_z : jZ) (x1 : Int32) (x2 : Int32)  (s0 : Int32) : Option (Int32) := (if s0 = 0 then some (-1)
    else (ix ((x1 * 9) + x2) 108).bind fun _ => some (no_z 7 (Int32.toNatClampNeg ((x1 * 9) + x2))))
def f_Notes_at (no_z : jZ) (x1 : Int32) (x2 : Int32) : Option (Int32) := (if x1 < 0 then f_Notes_at_25 no_z x1 x2 0
    else (if 12 ≤ x1 then f_Notes_at_25 no_z x1 x2 0
    else (if x2 < 0 then f_Notes_at_25 no_z x1 x2 0
    else (if 9 ≤ x2 then f_Notes_at_25 no_z x1 x2 0
    else f_Notes_at_25 no_z x1 x2 1))))
set_option maxRecDepth 100000 in
theorem j_Notes_at_25 (E : jT) (g : jG) (a : Nat → Nat) (no_z : jZ) (x1 : Int32) (x2 : Int32) (res : Int32) (hE : jOk E g RX4 cX4_at 4 (some .int) rm_Notes_at) (hq : jEnd E g (some (.int res)) (w_Notes g a no_z) 0 0)  (s0 : Int32) (hf : f_Notes_at_25 no_z x1 x2 s0 = some res) : J E g 0 0 (w_Notes g a no_z) [(0, .ref (a 0)), (1, .int x1), (2, .int x2)] 25 [.int s0] := by
  unfold f_Notes_at_25 at hf
  refine j_istore_n (lv' := [(3, .int s0), (0, .ref (a 0)), (1, .int x1), (2, .int x2)]) hE dX4_at_25 rfl (by decide) rfl ?_
  refine j_iload_n hE dX4_at_26 rfl 0 rfl ?_
  refine j_if_eq (tgt := 44) hE hf dX4_at_27 (by decide) (fun c5 hf => ?_) (fun c5 hf => ?_)
  · refine j_iconst (v := (-1)) hE dX4_at_44 (by decide) ?_
    obtain rfl := Option.some.inj hf
    exact j_iret hE hq rfl rfl dX4_at_45
  · refine j_aload_n hE dX4_at_30 rfl 1 rfl ?_
    refine j_get (v := .ref (a 6)) hE lg_Notes_35 0 (wg_Notes_0 g a no_z) rfl dX4_at_31 ?_
    refine j_iload_n hE dX4_at_34 rfl 2 rfl ?_
    refine j_bipush (v := 9) hE dX4_at_35 (by decide) ?_
    refine j_imul hE dX4_at_37 ?_
    refine j_iload_n hE dX4_at_38 rfl 3 rfl ?_
    refine j_iadd hE dX4_at_39 ?_
    refine j_iald hE hf 6 (wg_Notes_6 g a no_z) dX4_at_40 (fun hf => ?_)
    refine j_goto (tgt := 45) hE dX4_at_41 (by decide) ?_
    obtain rfl := Option.some.inj hf
    exact j_iret hE hq rfl rfl dX4_at_45
set_option maxRecDepth 100000 in
theorem c_Notes_at (l : Launch) (g : jG) (a : Nat → Nat) (no_z : jZ) (x1 : Int32) (x2 : Int32) (res : Int32) (hf : f_Notes_at no_z x1 x2 = some res) : MC l g yX4_at cX4_at 4 (some .int) rm_Notes_at [.ref (a 0), .int x1, .int x2] (w_Notes g a no_z) (some (.int res)) (w_Notes g a no_z) 0 0 := by
  refine MC_of (own := RX4) (lv := [(0, .ref (a 0)), (1, .int x1), (2, .int x2)]) (by decide) rfl (Nat.le_of_ble_eq_true rfl) rfl (fun E hE hq => ?_)
  unfold f_Notes_at at hf
  refine j_iload_n hE dX4_at_0 rfl 1 rfl ?_
  refine j_if_lt (tgt := 24) hE hf dX4_at_1 (by decide) (fun c1 hf => ?_) (fun c1 hf => ?_)
  · refine j_iconst (v := 0) hE dX4_at_24 (by decide) ?_
    exact j_Notes_at_25 E g a no_z x1 x2 res hE hq 0 hf
  · refine j_iload_n hE dX4_at_4 rfl 1 rfl ?_
    refine j_bipush (v := 12) hE dX4_at_5 (by decide) ?_
    refine j_icmp_ge (tgt := 24) hE hf dX4_at_7 (by decide) (fun c2 hf => ?_) (fun c2 hf => ?_)
    · refine j_iconst (v := 0) hE dX4_at_24 (by decide) ?_
      exact j_Notes_at_25 E g a no_z x1 x2 res hE hq 0 hf
    · refine j_iload_n hE dX4_at_10 rfl 2 rfl ?_
      refine j_if_lt (tgt := 24) hE hf dX4_at_11 (by decide) (fun c3 hf => ?_) (fun c3 hf => ?_)
      · refine j_iconst (v := 0) hE dX4_at_24 (by decide) ?_
        exact j_Notes_at_25 E g a no_z x1 x2 res hE hq 0 hf
      · refine j_iload_n hE dX4_at_14 rfl 2 rfl ?_
        refine j_bipush (v := 9) hE dX4_at_15 (by decide) ?_
        refine j_icmp_ge (tgt := 24) hE hf dX4_at_17 (by decide) (fun c4 hf => ?_) (fun c4 hf => ?_)
        · refine j_iconst (v := 0) hE dX4_at_24 (by decide) ?_
          exact j_Notes_at_25 E g a no_z x1 x2 res hE hq 0 hf
        · refine j_iconst (v := 1) hE dX4_at_20 (by decide) ?_
          refine j_goto (tgt := 25) hE dX4_at_21 (by decide) ?_
          exact j_Notes_at_25 E g a no_z x1 x2 res hE hq 1 hf
