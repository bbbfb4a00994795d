theorem oi_Kinds : jOi RX2 3 := ⟨tb_t1 119 rfl rfl, tb_t1 31 rfl rfl, tb_t1 32 rfl rfl⟩
theorem ac_I : Cond.arrayClass .int ∈ tb := tb_t1 106 rfl rfl
theorem lf_Kinds_18 : jFf RX2 18 2 2 (.array .int) := ⟨RX2, TX2, 7, tyX2, rfl, by decide, inX2, tb_t1 129 rfl rfl, tyX2_ok, nmX2, rfl, rfl, rfl⟩
theorem lf_Kinds_22 : jFf RX2 22 2 3 (.array .int) := ⟨RX2, TX2, 7, tyX2, rfl, by decide, inX2, tb_t1 132 rfl rfl, tyX2_ok, nmX2, rfl, rfl, rfl⟩
theorem lf_Kinds_25 : jFf RX2 25 2 4 (.array .int) := ⟨RX2, TX2, 7, tyX2, rfl, by decide, inX2, tb_t1 136 rfl rfl, tyX2_ok, nmX2, rfl, rfl, rfl⟩
theorem lf_Kinds_28 : jFf RX2 28 2 5 (.array .int) := ⟨RX2, TX2, 7, tyX2, rfl, by decide, inX2, tb_t1 139 rfl rfl, tyX2_ok, nmX2, rfl, rfl, rfl⟩
theorem lf_Kinds_31 : jFf RX2 31 2 6 (.array .int) := ⟨RX2, TX2, 7, tyX2, rfl, by decide, inX2, tb_t1 140 rfl rfl, tyX2_ok, nmX2, rfl, rfl, rfl⟩
theorem oi_Tape : jOi RX10 3 := ⟨tb_t1 44 rfl rfl, tb_t1 31 rfl rfl, tb_t1 32 rfl rfl⟩
theorem ac_B : Cond.arrayClass .byte ∈ tb := tb_t1 71 rfl rfl
theorem lf_Tape_9 : jFf RX10 9 10 0 (.array .byte) := ⟨RX10, TX10, 7, tyX10, rfl, by decide, inX10, tb_t1 45 rfl rfl, tyX10_ok, nmX10, rfl, rfl, rfl⟩
theorem oi_Rule : jOi RX9 3 := ⟨tb_t1 161 rfl rfl, tb_t1 31 rfl rfl, tb_t1 32 rfl rfl⟩
theorem lf_Rule_15 : jFf RX9 15 9 1 (.array .int) := ⟨RX9, TX9, 9, tyX9, rfl, by decide, inX9, tb_t1 166 rfl rfl, tyX9_ok, nmX9, rfl, rfl, rfl⟩
theorem ac_J : Cond.arrayClass .long ∈ tb := tb_t1 193 rfl rfl
theorem lf_Rule_19 : jFf RX9 19 9 2 (.array .long) := ⟨RX9, TX9, 9, tyX9, rfl, by decide, inX9, tb_t1 167 rfl rfl, tyX9_ok, nmX9, rfl, rfl, rfl⟩
theorem oi_Odds : jOi RX5 3 := ⟨tb_t2 80 rfl rfl, tb_t1 31 rfl rfl, tb_t1 32 rfl rfl⟩
theorem lf_Odds_9 : jFf RX5 9 5 0 (.array .long) := ⟨RX5, TX5, 6, tyX5, rfl, by decide, inX5, tb_t2 81 rfl rfl, tyX5_ok, nmX5, rfl, rfl, rfl⟩
theorem lf_Odds_15 : jFf RX5 15 5 1 (.array .long) := ⟨RX5, TX5, 6, tyX5, rfl, by decide, inX5, tb_t2 82 rfl rfl, tyX5_ok, nmX5, rfl, rfl, rfl⟩
theorem oi_Luck : jOi RX3 3 := ⟨tb_t2 109 rfl rfl, tb_t1 31 rfl rfl, tb_t1 32 rfl rfl⟩
theorem lf_Luck_28 : jFf RX3 28 3 5 (.array .int) := ⟨RX3, TX3, 8, tyX3, rfl, by decide, inX3, tb_t2 118 rfl rfl, tyX3_ok, nmX3, rfl, rfl, rfl⟩
theorem oi_House : jOi RX1 3 := ⟨tb_t2 204 rfl rfl, tb_t1 31 rfl rfl, tb_t1 32 rfl rfl⟩
def rm_Kinds_init : Room := { frames := 1, cells := 5, slots := 115, locals := 20 }
set_option maxRecDepth 100000 in
theorem n_Kinds_init (l : Launch) (g : jG) (h0 : Nat) : MN l g yX2_init cX2_init 1 rm_Kinds_init h0 2 [.int 0, .int 0, .null, .null, .null, .null, .null] (fun a => ([n_Kinds g a (fun _ _ => 0)] : List va_W)) 5 115 := by
  refine MN_of (own := RX2) (by decide) rfl rfl (Nat.le_of_ble_eq_true rfl) (fun E hE hi hq => ?_)
  refine j_aload_n hE dX2_init_0 rfl 0 rfl ?_
  refine j_objInit hE oi_Kinds ⟨Nat.le_of_ble_eq_true rfl, Nat.le_of_ble_eq_true rfl⟩ dX2_init_1 ?_
  refine j_aload_n hE dX2_init_4 rfl 0 rfl ?_
  refine j_iconst (v := 0) hE dX2_init_5 (by decide) ?_
  refine j_put (v := .int 0) (w' := [(h0, .inr (2, [.int 0, .int 0, .null, .null, .null, .null, .null]))]) (ws' := ([[(h0, .inr (2, [.int 0, .int 0, .null, .null, .null, .null, .null]))]] : List va_W)) hE lp_Kinds_9 0 rfl 0 rfl rfl rfl (Nat.le_of_ble_eq_true rfl) rfl rfl dX2_init_6 ?_
  refine j_aload_n hE dX2_init_9 rfl 0 rfl ?_
  refine j_iconst (v := 0) hE dX2_init_10 (by decide) ?_
  refine j_put (v := .int 0) (w' := [(h0, .inr (2, [.int 0, .int 0, .null, .null, .null, .null, .null]))]) (ws' := ([[(h0, .inr (2, [.int 0, .int 0, .null, .null, .null, .null, .null]))]] : List va_W)) hE lp_Kinds_15 0 rfl 0 rfl rfl rfl (Nat.le_of_ble_eq_true rfl) rfl rfl dX2_init_11 ?_
  refine j_aload_n hE dX2_init_14 rfl 0 rfl ?_
  refine j_iconst (v := 5) hE dX2_init_15 (by decide) ?_
  refine j_newaI (N := 5) hE ac_I (by decide) (by decide) (Nat.le_of_ble_eq_true rfl) ⟨Nat.le_of_ble_eq_true rfl, Nat.le_of_ble_eq_true rfl⟩ dX2_init_16 (fun q1 => ?_)
  refine j_ws (ws' := ([[(h0, .inr (2, [.int 0, .int 0, .null, .null, .null, .null, .null]))], [(q1, .inl (g.2.2.1, 5, .inl (fun _ => 0)))]] : List va_W)) rfl ?_
  refine j_putF (v := .ref (q1)) (w' := [(h0, .inr (2, [.int 0, .int 0, .ref (q1), .null, .null, .null, .null]))]) (ws' := ([[(h0, .inr (2, [.int 0, .int 0, .ref (q1), .null, .null, .null, .null]))], [(q1, .inl (g.2.2.1, 5, .inl (fun _ => 0)))]] : List va_W)) hE hi lf_Kinds_18 0 rfl 0 rfl rfl rfl (Nat.le_of_ble_eq_true rfl) rfl rfl dX2_init_18 ?_
  refine j_aload_n hE dX2_init_21 rfl 0 rfl ?_
  refine j_iconst (v := 5) hE dX2_init_22 (by decide) ?_
  refine j_newaI (N := 5) hE ac_I (by decide) (by decide) (Nat.le_of_ble_eq_true rfl) ⟨Nat.le_of_ble_eq_true rfl, Nat.le_of_ble_eq_true rfl⟩ dX2_init_23 (fun q2 => ?_)
  refine j_ws (ws' := ([[(h0, .inr (2, [.int 0, .int 0, .ref (q1), .null, .null, .null, .null]))], [(q1, .inl (g.2.2.1, 5, .inl (fun _ => 0)))], [(q2, .inl (g.2.2.1, 5, .inl (fun _ => 0)))]] : List va_W)) rfl ?_
  refine j_putF (v := .ref (q2)) (w' := [(h0, .inr (2, [.int 0, .int 0, .ref (q1), .ref (q2), .null, .null, .null]))]) (ws' := ([[(h0, .inr (2, [.int 0, .int 0, .ref (q1), .ref (q2), .null, .null, .null]))], [(q1, .inl (g.2.2.1, 5, .inl (fun _ => 0)))], [(q2, .inl (g.2.2.1, 5, .inl (fun _ => 0)))]] : List va_W)) hE hi lf_Kinds_22 0 rfl 0 rfl rfl rfl (Nat.le_of_ble_eq_true rfl) rfl rfl dX2_init_25 ?_
  refine j_aload_n hE dX2_init_28 rfl 0 rfl ?_
  refine j_iconst (v := 5) hE dX2_init_29 (by decide) ?_
  refine j_newaI (N := 5) hE ac_I (by decide) (by decide) (Nat.le_of_ble_eq_true rfl) ⟨Nat.le_of_ble_eq_true rfl, Nat.le_of_ble_eq_true rfl⟩ dX2_init_30 (fun q3 => ?_)
  refine j_ws (ws' := ([[(h0, .inr (2, [.int 0, .int 0, .ref (q1), .ref (q2), .null, .null, .null]))], [(q1, .inl (g.2.2.1, 5, .inl (fun _ => 0)))], [(q2, .inl (g.2.2.1, 5, .inl (fun _ => 0)))], [(q3, .inl (g.2.2.1, 5, .inl (fun _ => 0)))]] : List va_W)) rfl ?_
  refine j_putF (v := .ref (q3)) (w' := [(h0, .inr (2, [.int 0, .int 0, .ref (q1), .ref (q2), .ref (q3), .null, .null]))]) (ws' := ([[(h0, .inr (2, [.int 0, .int 0, .ref (q1), .ref (q2), .ref (q3), .null, .null]))], [(q1, .inl (g.2.2.1, 5, .inl (fun _ => 0)))], [(q2, .inl (g.2.2.1, 5, .inl (fun _ => 0)))], [(q3, .inl (g.2.2.1, 5, .inl (fun _ => 0)))]] : List va_W)) hE hi lf_Kinds_25 0 rfl 0 rfl rfl rfl (Nat.le_of_ble_eq_true rfl) rfl rfl dX2_init_32 ?_
  refine j_aload_n hE dX2_init_35 rfl 0 rfl ?_
  refine j_bipush (v := 50) hE dX2_init_36 (by decide) ?_
  refine j_newaI (N := 50) hE ac_I (by decide) (by decide) (Nat.le_of_ble_eq_true rfl) ⟨Nat.le_of_ble_eq_true rfl, Nat.le_of_ble_eq_true rfl⟩ dX2_init_38 (fun q4 => ?_)
  refine j_ws (ws' := ([[(h0, .inr (2, [.int 0, .int 0, .ref (q1), .ref (q2), .ref (q3), .null, .null]))], [(q1, .inl (g.2.2.1, 5, .inl (fun _ => 0)))], [(q2, .inl (g.2.2.1, 5, .inl (fun _ => 0)))], [(q3, .inl (g.2.2.1, 5, .inl (fun _ => 0)))], [(q4, .inl (g.2.2.1, 50, .inl (fun _ => 0)))]] : List va_W)) rfl ?_
  refine j_putF (v := .ref (q4)) (w' := [(h0, .inr (2, [.int 0, .int 0, .ref (q1), .ref (q2), .ref (q3), .ref (q4), .null]))]) (ws' := ([[(h0, .inr (2, [.int 0, .int 0, .ref (q1), .ref (q2), .ref (q3), .ref (q4), .null]))], [(q1, .inl (g.2.2.1, 5, .inl (fun _ => 0)))], [(q2, .inl (g.2.2.1, 5, .inl (fun _ => 0)))], [(q3, .inl (g.2.2.1, 5, .inl (fun _ => 0)))], [(q4, .inl (g.2.2.1, 50, .inl (fun _ => 0)))]] : List va_W)) hE hi lf_Kinds_28 0 rfl 0 rfl rfl rfl (Nat.le_of_ble_eq_true rfl) rfl rfl dX2_init_40 ?_
  refine j_aload_n hE dX2_init_43 rfl 0 rfl ?_
  refine j_bipush (v := 50) hE dX2_init_44 (by decide) ?_
  refine j_newaI (N := 50) hE ac_I (by decide) (by decide) (Nat.le_of_ble_eq_true rfl) ⟨Nat.le_of_ble_eq_true rfl, Nat.le_of_ble_eq_true rfl⟩ dX2_init_46 (fun q5 => ?_)
  refine j_ws (ws' := ([[(h0, .inr (2, [.int 0, .int 0, .ref (q1), .ref (q2), .ref (q3), .ref (q4), .null]))], [(q1, .inl (g.2.2.1, 5, .inl (fun _ => 0)))], [(q2, .inl (g.2.2.1, 5, .inl (fun _ => 0)))], [(q3, .inl (g.2.2.1, 5, .inl (fun _ => 0)))], [(q4, .inl (g.2.2.1, 50, .inl (fun _ => 0)))], [(q5, .inl (g.2.2.1, 50, .inl (fun _ => 0)))]] : List va_W)) rfl ?_
  refine j_putF (v := .ref (q5)) (w' := [(h0, .inr (2, [.int 0, .int 0, .ref (q1), .ref (q2), .ref (q3), .ref (q4), .ref (q5)]))]) (ws' := ([[(h0, .inr (2, [.int 0, .int 0, .ref (q1), .ref (q2), .ref (q3), .ref (q4), .ref (q5)]))], [(q1, .inl (g.2.2.1, 5, .inl (fun _ => 0)))], [(q2, .inl (g.2.2.1, 5, .inl (fun _ => 0)))], [(q3, .inl (g.2.2.1, 5, .inl (fun _ => 0)))], [(q4, .inl (g.2.2.1, 50, .inl (fun _ => 0)))], [(q5, .inl (g.2.2.1, 50, .inl (fun _ => 0)))]] : List va_W)) hE hi lf_Kinds_31 0 rfl 0 rfl rfl rfl (Nat.le_of_ble_eq_true rfl) rfl rfl dX2_init_48 ?_
  exact j_nret hE hq rfl rfl (fun i => ([h0, q1, q2, q3, q4, q5] : List Nat).getD i 0) rfl rfl dX2_init_51
def rm_Tape_init : Room := { frames := 1, cells := 1, slots := 600, locals := 20 }
set_option maxRecDepth 100000 in
theorem n_Tape_init (l : Launch) (g : jG) (h0 : Nat) : MN l g yX10_init cX10_init 1 rm_Tape_init h0 10 [.null, .int 0, .int 0, .int 0, .int 0, .int 0, .int 0] (fun a => ([n_Tape g a (fun _ _ => 0)] : List va_W)) 1 600 := by
  refine MN_of (own := RX10) (by decide) rfl rfl (Nat.le_of_ble_eq_true rfl) (fun E hE hi hq => ?_)
  refine j_aload_n hE dX10_init_0 rfl 0 rfl ?_
  refine j_objInit hE oi_Tape ⟨Nat.le_of_ble_eq_true rfl, Nat.le_of_ble_eq_true rfl⟩ dX10_init_1 ?_
  refine j_aload_n hE dX10_init_4 rfl 0 rfl ?_
  refine j_sipush (v := 600) hE dX10_init_5 (by decide) ?_
  refine j_newaB (N := 600) hE ac_B (by decide) (by decide) (Nat.le_of_ble_eq_true rfl) ⟨Nat.le_of_ble_eq_true rfl, Nat.le_of_ble_eq_true rfl⟩ dX10_init_8 (fun q1 => ?_)
  refine j_ws (ws' := ([[(h0, .inr (10, [.null, .int 0, .int 0, .int 0, .int 0, .int 0, .int 0]))], [(q1, .inl (g.2.1, 600, .inl (fun _ => 0)))]] : List va_W)) rfl ?_
  refine j_putF (v := .ref (q1)) (w' := [(h0, .inr (10, [.ref (q1), .int 0, .int 0, .int 0, .int 0, .int 0, .int 0]))]) (ws' := ([[(h0, .inr (10, [.ref (q1), .int 0, .int 0, .int 0, .int 0, .int 0, .int 0]))], [(q1, .inl (g.2.1, 600, .inl (fun _ => 0)))]] : List va_W)) hE hi lf_Tape_9 0 rfl 0 rfl rfl rfl (Nat.le_of_ble_eq_true rfl) rfl rfl dX10_init_10 ?_
  refine j_aload_n hE dX10_init_13 rfl 0 rfl ?_
  refine j_iconst (v := 0) hE dX10_init_14 (by decide) ?_
  refine j_put (v := .int 0) (w' := [(h0, .inr (10, [.ref (q1), .int 0, .int 0, .int 0, .int 0, .int 0, .int 0]))]) (ws' := ([[(h0, .inr (10, [.ref (q1), .int 0, .int 0, .int 0, .int 0, .int 0, .int 0]))], [(q1, .inl (g.2.1, 600, .inl (fun _ => 0)))]] : List va_W)) hE lp_Tape_15 0 rfl 0 rfl rfl rfl (Nat.le_of_ble_eq_true rfl) rfl rfl dX10_init_15 ?_
  refine j_aload_n hE dX10_init_18 rfl 0 rfl ?_
  refine j_iconst (v := 0) hE dX10_init_19 (by decide) ?_
  refine j_put (v := .int 0) (w' := [(h0, .inr (10, [.ref (q1), .int 0, .int 0, .int 0, .int 0, .int 0, .int 0]))]) (ws' := ([[(h0, .inr (10, [.ref (q1), .int 0, .int 0, .int 0, .int 0, .int 0, .int 0]))], [(q1, .inl (g.2.1, 600, .inl (fun _ => 0)))]] : List va_W)) hE lp_Tape_19 0 rfl 0 rfl rfl rfl (Nat.le_of_ble_eq_true rfl) rfl rfl dX10_init_20 ?_
  refine j_aload_n hE dX10_init_23 rfl 0 rfl ?_
  refine j_iconst (v := 0) hE dX10_init_24 (by decide) ?_
  refine j_put (v := .int 0) (w' := [(h0, .inr (10, [.ref (q1), .int 0, .int 0, .int 0, .int 0, .int 0, .int 0]))]) (ws' := ([[(h0, .inr (10, [.ref (q1), .int 0, .int 0, .int 0, .int 0, .int 0, .int 0]))], [(q1, .inl (g.2.1, 600, .inl (fun _ => 0)))]] : List va_W)) hE lp_Tape_22 0 rfl 0 rfl rfl rfl (Nat.le_of_ble_eq_true rfl) rfl rfl dX10_init_25 ?_
  refine j_aload_n hE dX10_init_28 rfl 0 rfl ?_
  refine j_iconst (v := 0) hE dX10_init_29 (by decide) ?_
  refine j_put (v := .int 0) (w' := [(h0, .inr (10, [.ref (q1), .int 0, .int 0, .int 0, .int 0, .int 0, .int 0]))]) (ws' := ([[(h0, .inr (10, [.ref (q1), .int 0, .int 0, .int 0, .int 0, .int 0, .int 0]))], [(q1, .inl (g.2.1, 600, .inl (fun _ => 0)))]] : List va_W)) hE lp_Tape_25 0 rfl 0 rfl rfl rfl (Nat.le_of_ble_eq_true rfl) rfl rfl dX10_init_30 ?_
  refine j_aload_n hE dX10_init_33 rfl 0 rfl ?_
  refine j_iconst (v := 0) hE dX10_init_34 (by decide) ?_
  refine j_put (v := .int 0) (w' := [(h0, .inr (10, [.ref (q1), .int 0, .int 0, .int 0, .int 0, .int 0, .int 0]))]) (ws' := ([[(h0, .inr (10, [.ref (q1), .int 0, .int 0, .int 0, .int 0, .int 0, .int 0]))], [(q1, .inl (g.2.1, 600, .inl (fun _ => 0)))]] : List va_W)) hE lp_Tape_28 0 rfl 0 rfl rfl rfl (Nat.le_of_ble_eq_true rfl) rfl rfl dX10_init_35 ?_
  refine j_aload_n hE dX10_init_38 rfl 0 rfl ?_
  refine j_iconst (v := 0) hE dX10_init_39 (by decide) ?_
  refine j_put (v := .int 0) (w' := [(h0, .inr (10, [.ref (q1), .int 0, .int 0, .int 0, .int 0, .int 0, .int 0]))]) (ws' := ([[(h0, .inr (10, [.ref (q1), .int 0, .int 0, .int 0, .int 0, .int 0, .int 0]))], [(q1, .inl (g.2.1, 600, .inl (fun _ => 0)))]] : List va_W)) hE lp_Tape_31 0 rfl 0 rfl rfl rfl (Nat.le_of_ble_eq_true rfl) rfl rfl dX10_init_40 ?_
  exact j_nret hE hq rfl rfl (fun i => ([h0, q1] : List Nat).getD i 0) rfl rfl dX10_init_43
def rm_Rule_init : Room := { frames := 1, cells := 2, slots := 128, locals := 20 }
set_option maxRecDepth 100000 in
theorem n_Rule_init (l : Launch) (g : jG) (h0 : Nat) : MN l g yX9_init cX9_init 1 rm_Rule_init h0 9 [.int 0, .null, .null, .int 0, .int 0, .int 0, .int 0, .int 0, .int 0] (fun a => ([n_Rule g a (fun _ _ => 0) (fun _ _ => 0)] : List va_W)) 2 128 := by
  refine MN_of (own := RX9) (by decide) rfl rfl (Nat.le_of_ble_eq_true rfl) (fun E hE hi hq => ?_)
  refine j_aload_n hE dX9_init_0 rfl 0 rfl ?_
  refine j_objInit hE oi_Rule ⟨Nat.le_of_ble_eq_true rfl, Nat.le_of_ble_eq_true rfl⟩ dX9_init_1 ?_
  refine j_aload_n hE dX9_init_4 rfl 0 rfl ?_
  refine j_iconst (v := 0) hE dX9_init_5 (by decide) ?_
  refine j_put (v := .int 0) (w' := [(h0, .inr (9, [.int 0, .null, .null, .int 0, .int 0, .int 0, .int 0, .int 0, .int 0]))]) (ws' := ([[(h0, .inr (9, [.int 0, .null, .null, .int 0, .int 0, .int 0, .int 0, .int 0, .int 0]))]] : List va_W)) hE lp_Rule_9 0 rfl 0 rfl rfl rfl (Nat.le_of_ble_eq_true rfl) rfl rfl dX9_init_6 ?_
  refine j_aload_n hE dX9_init_9 rfl 0 rfl ?_
  refine j_bipush (v := 64) hE dX9_init_10 (by decide) ?_
  refine j_newaI (N := 64) hE ac_I (by decide) (by decide) (Nat.le_of_ble_eq_true rfl) ⟨Nat.le_of_ble_eq_true rfl, Nat.le_of_ble_eq_true rfl⟩ dX9_init_12 (fun q1 => ?_)
  refine j_ws (ws' := ([[(h0, .inr (9, [.int 0, .null, .null, .int 0, .int 0, .int 0, .int 0, .int 0, .int 0]))], [(q1, .inl (g.2.2.1, 64, .inl (fun _ => 0)))]] : List va_W)) rfl ?_
  refine j_putF (v := .ref (q1)) (w' := [(h0, .inr (9, [.int 0, .ref (q1), .null, .int 0, .int 0, .int 0, .int 0, .int 0, .int 0]))]) (ws' := ([[(h0, .inr (9, [.int 0, .ref (q1), .null, .int 0, .int 0, .int 0, .int 0, .int 0, .int 0]))], [(q1, .inl (g.2.2.1, 64, .inl (fun _ => 0)))]] : List va_W)) hE hi lf_Rule_15 0 rfl 0 rfl rfl rfl (Nat.le_of_ble_eq_true rfl) rfl rfl dX9_init_14 ?_
  refine j_aload_n hE dX9_init_17 rfl 0 rfl ?_
  refine j_bipush (v := 64) hE dX9_init_18 (by decide) ?_
  refine j_newaJ (N := 64) hE ac_J (by decide) (by decide) (Nat.le_of_ble_eq_true rfl) ⟨Nat.le_of_ble_eq_true rfl, Nat.le_of_ble_eq_true rfl⟩ dX9_init_20 (fun q2 => ?_)
  refine j_ws (ws' := ([[(h0, .inr (9, [.int 0, .ref (q1), .null, .int 0, .int 0, .int 0, .int 0, .int 0, .int 0]))], [(q1, .inl (g.2.2.1, 64, .inl (fun _ => 0)))], [(q2, .inl (g.2.2.2.1, 64, .inr (.inl (fun _ => 0))))]] : List va_W)) rfl ?_
  refine j_putF (v := .ref (q2)) (w' := [(h0, .inr (9, [.int 0, .ref (q1), .ref (q2), .int 0, .int 0, .int 0, .int 0, .int 0, .int 0]))]) (ws' := ([[(h0, .inr (9, [.int 0, .ref (q1), .ref (q2), .int 0, .int 0, .int 0, .int 0, .int 0, .int 0]))], [(q1, .inl (g.2.2.1, 64, .inl (fun _ => 0)))], [(q2, .inl (g.2.2.2.1, 64, .inr (.inl (fun _ => 0))))]] : List va_W)) hE hi lf_Rule_19 0 rfl 0 rfl rfl rfl (Nat.le_of_ble_eq_true rfl) rfl rfl dX9_init_22 ?_
  refine j_aload_n hE dX9_init_25 rfl 0 rfl ?_
  refine j_iconst (v := 0) hE dX9_init_26 (by decide) ?_
  refine j_put (v := .int 0) (w' := [(h0, .inr (9, [.int 0, .ref (q1), .ref (q2), .int 0, .int 0, .int 0, .int 0, .int 0, .int 0]))]) (ws' := ([[(h0, .inr (9, [.int 0, .ref (q1), .ref (q2), .int 0, .int 0, .int 0, .int 0, .int 0, .int 0]))], [(q1, .inl (g.2.2.1, 64, .inl (fun _ => 0)))], [(q2, .inl (g.2.2.2.1, 64, .inr (.inl (fun _ => 0))))]] : List va_W)) hE lp_Rule_23 0 rfl 0 rfl rfl rfl (Nat.le_of_ble_eq_true rfl) rfl rfl dX9_init_27 ?_
  refine j_aload_n hE dX9_init_30 rfl 0 rfl ?_
  refine j_iconst (v := 0) hE dX9_init_31 (by decide) ?_
  refine j_put (v := .int 0) (w' := [(h0, .inr (9, [.int 0, .ref (q1), .ref (q2), .int 0, .int 0, .int 0, .int 0, .int 0, .int 0]))]) (ws' := ([[(h0, .inr (9, [.int 0, .ref (q1), .ref (q2), .int 0, .int 0, .int 0, .int 0, .int 0, .int 0]))], [(q1, .inl (g.2.2.1, 64, .inl (fun _ => 0)))], [(q2, .inl (g.2.2.2.1, 64, .inr (.inl (fun _ => 0))))]] : List va_W)) hE lp_Rule_26 0 rfl 0 rfl (by decide +kernel) (by decide +kernel) (Nat.le_of_ble_eq_true rfl) rfl rfl dX9_init_32 ?_
  refine j_aload_n hE dX9_init_35 rfl 0 rfl ?_
  refine j_iconst (v := 0) hE dX9_init_36 (by decide) ?_
  refine j_put (v := .int 0) (w' := [(h0, .inr (9, [.int 0, .ref (q1), .ref (q2), .int 0, .int 0, .int 0, .int 0, .int 0, .int 0]))]) (ws' := ([[(h0, .inr (9, [.int 0, .ref (q1), .ref (q2), .int 0, .int 0, .int 0, .int 0, .int 0, .int 0]))], [(q1, .inl (g.2.2.1, 64, .inl (fun _ => 0)))], [(q2, .inl (g.2.2.2.1, 64, .inr (.inl (fun _ => 0))))]] : List va_W)) hE lp_Rule_30 0 rfl 0 rfl rfl rfl (Nat.le_of_ble_eq_true rfl) rfl rfl dX9_init_37 ?_
  refine j_aload_n hE dX9_init_40 rfl 0 rfl ?_
  refine j_iconst (v := 0) hE dX9_init_41 (by decide) ?_
  refine j_put (v := .int 0) (w' := [(h0, .inr (9, [.int 0, .ref (q1), .ref (q2), .int 0, .int 0, .int 0, .int 0, .int 0, .int 0]))]) (ws' := ([[(h0, .inr (9, [.int 0, .ref (q1), .ref (q2), .int 0, .int 0, .int 0, .int 0, .int 0, .int 0]))], [(q1, .inl (g.2.2.1, 64, .inl (fun _ => 0)))], [(q2, .inl (g.2.2.2.1, 64, .inr (.inl (fun _ => 0))))]] : List va_W)) hE lp_Rule_33 0 rfl 0 rfl rfl rfl (Nat.le_of_ble_eq_true rfl) rfl rfl dX9_init_42 ?_
  refine j_aload_n hE dX9_init_45 rfl 0 rfl ?_
  refine j_iconst (v := 0) hE dX9_init_46 (by decide) ?_
  refine j_put (v := .int 0) (w' := [(h0, .inr (9, [.int 0, .ref (q1), .ref (q2), .int 0, .int 0, .int 0, .int 0, .int 0, .int 0]))]) (ws' := ([[(h0, .inr (9, [.int 0, .ref (q1), .ref (q2), .int 0, .int 0, .int 0, .int 0, .int 0, .int 0]))], [(q1, .inl (g.2.2.1, 64, .inl (fun _ => 0)))], [(q2, .inl (g.2.2.2.1, 64, .inr (.inl (fun _ => 0))))]] : List va_W)) hE lp_Rule_36 0 rfl 0 rfl rfl rfl (Nat.le_of_ble_eq_true rfl) rfl rfl dX9_init_47 ?_
  refine j_aload_n hE dX9_init_50 rfl 0 rfl ?_
  refine j_iconst (v := 0) hE dX9_init_51 (by decide) ?_
  refine j_put (v := .int 0) (w' := [(h0, .inr (9, [.int 0, .ref (q1), .ref (q2), .int 0, .int 0, .int 0, .int 0, .int 0, .int 0]))]) (ws' := ([[(h0, .inr (9, [.int 0, .ref (q1), .ref (q2), .int 0, .int 0, .int 0, .int 0, .int 0, .int 0]))], [(q1, .inl (g.2.2.1, 64, .inl (fun _ => 0)))], [(q2, .inl (g.2.2.2.1, 64, .inr (.inl (fun _ => 0))))]] : List va_W)) hE lp_Rule_39 0 rfl 0 rfl rfl rfl (Nat.le_of_ble_eq_true rfl) rfl rfl dX9_init_52 ?_
  exact j_nret hE hq rfl rfl (fun i => ([h0, q1, q2] : List Nat).getD i 0) rfl rfl dX9_init_55
def rm_Odds_init : Room := { frames := 1, cells := 2, slots := 10, locals := 20 }
set_option maxRecDepth 100000 in
theorem n_Odds_init (l : Launch) (g : jG) (h0 : Nat) : MN l g yX5_init cX5_init 1 rm_Odds_init h0 5 [.null, .null, .long 0, .long 0, .int 0, .int 0] (fun a => ([n_Odds g a (fun _ _ => 0) (fun _ _ => 0)] : List va_W)) 2 10 := by
  refine MN_of (own := RX5) (by decide) rfl rfl (Nat.le_of_ble_eq_true rfl) (fun E hE hi hq => ?_)
  refine j_aload_n hE dX5_init_0 rfl 0 rfl ?_
  refine j_objInit hE oi_Odds ⟨Nat.le_of_ble_eq_true rfl, Nat.le_of_ble_eq_true rfl⟩ dX5_init_1 ?_
  refine j_aload_n hE dX5_init_4 rfl 0 rfl ?_
  refine j_iconst (v := 5) hE dX5_init_5 (by decide) ?_
  refine j_newaJ (N := 5) hE ac_J (by decide) (by decide) (Nat.le_of_ble_eq_true rfl) ⟨Nat.le_of_ble_eq_true rfl, Nat.le_of_ble_eq_true rfl⟩ dX5_init_6 (fun q1 => ?_)
  refine j_ws (ws' := ([[(h0, .inr (5, [.null, .null, .long 0, .long 0, .int 0, .int 0]))], [(q1, .inl (g.2.2.2.1, 5, .inr (.inl (fun _ => 0))))]] : List va_W)) rfl ?_
  refine j_putF (v := .ref (q1)) (w' := [(h0, .inr (5, [.ref (q1), .null, .long 0, .long 0, .int 0, .int 0]))]) (ws' := ([[(h0, .inr (5, [.ref (q1), .null, .long 0, .long 0, .int 0, .int 0]))], [(q1, .inl (g.2.2.2.1, 5, .inr (.inl (fun _ => 0))))]] : List va_W)) hE hi lf_Odds_9 0 rfl 0 rfl rfl rfl (Nat.le_of_ble_eq_true rfl) rfl rfl dX5_init_8 ?_
  refine j_aload_n hE dX5_init_11 rfl 0 rfl ?_
  refine j_iconst (v := 5) hE dX5_init_12 (by decide) ?_
  refine j_newaJ (N := 5) hE ac_J (by decide) (by decide) (Nat.le_of_ble_eq_true rfl) ⟨Nat.le_of_ble_eq_true rfl, Nat.le_of_ble_eq_true rfl⟩ dX5_init_13 (fun q2 => ?_)
  refine j_ws (ws' := ([[(h0, .inr (5, [.ref (q1), .null, .long 0, .long 0, .int 0, .int 0]))], [(q1, .inl (g.2.2.2.1, 5, .inr (.inl (fun _ => 0))))], [(q2, .inl (g.2.2.2.1, 5, .inr (.inl (fun _ => 0))))]] : List va_W)) rfl ?_
  refine j_putF (v := .ref (q2)) (w' := [(h0, .inr (5, [.ref (q1), .ref (q2), .long 0, .long 0, .int 0, .int 0]))]) (ws' := ([[(h0, .inr (5, [.ref (q1), .ref (q2), .long 0, .long 0, .int 0, .int 0]))], [(q1, .inl (g.2.2.2.1, 5, .inr (.inl (fun _ => 0))))], [(q2, .inl (g.2.2.2.1, 5, .inr (.inl (fun _ => 0))))]] : List va_W)) hE hi lf_Odds_15 0 rfl 0 rfl rfl rfl (Nat.le_of_ble_eq_true rfl) rfl rfl dX5_init_15 ?_
  refine j_aload_n hE dX5_init_18 rfl 0 rfl ?_
  refine j_lconst (v := 0) hE dX5_init_19 (by decide) ?_
  refine j_put (v := .long 0) (w' := [(h0, .inr (5, [.ref (q1), .ref (q2), .long 0, .long 0, .int 0, .int 0]))]) (ws' := ([[(h0, .inr (5, [.ref (q1), .ref (q2), .long 0, .long 0, .int 0, .int 0]))], [(q1, .inl (g.2.2.2.1, 5, .inr (.inl (fun _ => 0))))], [(q2, .inl (g.2.2.2.1, 5, .inr (.inl (fun _ => 0))))]] : List va_W)) hE lp_Odds_18 0 rfl 0 rfl rfl rfl (Nat.le_of_ble_eq_true rfl) rfl rfl dX5_init_20 ?_
  refine j_aload_n hE dX5_init_23 rfl 0 rfl ?_
  refine j_lconst (v := 0) hE dX5_init_24 (by decide) ?_
  refine j_put (v := .long 0) (w' := [(h0, .inr (5, [.ref (q1), .ref (q2), .long 0, .long 0, .int 0, .int 0]))]) (ws' := ([[(h0, .inr (5, [.ref (q1), .ref (q2), .long 0, .long 0, .int 0, .int 0]))], [(q1, .inl (g.2.2.2.1, 5, .inr (.inl (fun _ => 0))))], [(q2, .inl (g.2.2.2.1, 5, .inr (.inl (fun _ => 0))))]] : List va_W)) hE lp_Odds_22 0 rfl 0 rfl rfl rfl (Nat.le_of_ble_eq_true rfl) rfl rfl dX5_init_25 ?_
  refine j_aload_n hE dX5_init_28 rfl 0 rfl ?_
  refine j_iconst (v := 0) hE dX5_init_29 (by decide) ?_
  refine j_put (v := .int 0) (w' := [(h0, .inr (5, [.ref (q1), .ref (q2), .long 0, .long 0, .int 0, .int 0]))]) (ws' := ([[(h0, .inr (5, [.ref (q1), .ref (q2), .long 0, .long 0, .int 0, .int 0]))], [(q1, .inl (g.2.2.2.1, 5, .inr (.inl (fun _ => 0))))], [(q2, .inl (g.2.2.2.1, 5, .inr (.inl (fun _ => 0))))]] : List va_W)) hE lp_Odds_25 0 rfl 0 rfl rfl rfl (Nat.le_of_ble_eq_true rfl) rfl rfl dX5_init_30 ?_
  refine j_aload_n hE dX5_init_33 rfl 0 rfl ?_
  refine j_iconst (v := 0) hE dX5_init_34 (by decide) ?_
  refine j_put (v := .int 0) (w' := [(h0, .inr (5, [.ref (q1), .ref (q2), .long 0, .long 0, .int 0, .int 0]))]) (ws' := ([[(h0, .inr (5, [.ref (q1), .ref (q2), .long 0, .long 0, .int 0, .int 0]))], [(q1, .inl (g.2.2.2.1, 5, .inr (.inl (fun _ => 0))))], [(q2, .inl (g.2.2.2.1, 5, .inr (.inl (fun _ => 0))))]] : List va_W)) hE lp_Odds_29 0 rfl 0 rfl rfl rfl (Nat.le_of_ble_eq_true rfl) rfl rfl dX5_init_35 ?_
  exact j_nret hE hq rfl rfl (fun i => ([h0, q1, q2] : List Nat).getD i 0) rfl rfl dX5_init_38
def rm_Luck_init : Room := { frames := 1, cells := 1, slots := 6, locals := 20 }
set_option maxRecDepth 100000 in
theorem n_Luck_init (l : Launch) (g : jG) (h0 : Nat) : MN l g yX3_init cX3_init 1 rm_Luck_init h0 3 [.int 0, .long 0, .long 0, .long 0, .int 0, .null, .int 0, .int 0] (fun a => ([n_Luck g a (up2 (fun _ _ => 0) 0 0 (-1)) (fun _ _ => 0)] : List va_W)) 1 6 := by
  refine MN_of (own := RX3) (by decide) rfl rfl (Nat.le_of_ble_eq_true rfl) (fun E hE hi hq => ?_)
  refine j_aload_n hE dX3_init_0 rfl 0 rfl ?_
  refine j_objInit hE oi_Luck ⟨Nat.le_of_ble_eq_true rfl, Nat.le_of_ble_eq_true rfl⟩ dX3_init_1 ?_
  refine j_aload_n hE dX3_init_4 rfl 0 rfl ?_
  refine j_iconst (v := (-1)) hE dX3_init_5 (by decide) ?_
  refine j_put (v := .int (-1)) (w' := [(h0, .inr (3, [.int (-1), .long 0, .long 0, .long 0, .int 0, .null, .int 0, .int 0]))]) (ws' := ([[(h0, .inr (3, [.int (-1), .long 0, .long 0, .long 0, .int 0, .null, .int 0, .int 0]))]] : List va_W)) hE lp_Luck_9 0 rfl 0 rfl rfl rfl (Nat.le_of_ble_eq_true rfl) rfl rfl dX3_init_6 ?_
  refine j_aload_n hE dX3_init_9 rfl 0 rfl ?_
  refine j_lconst (v := 0) hE dX3_init_10 (by decide) ?_
  refine j_put (v := .long 0) (w' := [(h0, .inr (3, [.int (-1), .long 0, .long 0, .long 0, .int 0, .null, .int 0, .int 0]))]) (ws' := ([[(h0, .inr (3, [.int (-1), .long 0, .long 0, .long 0, .int 0, .null, .int 0, .int 0]))]] : List va_W)) hE lp_Luck_15 0 rfl 0 rfl rfl rfl (Nat.le_of_ble_eq_true rfl) rfl rfl dX3_init_11 ?_
  refine j_aload_n hE dX3_init_14 rfl 0 rfl ?_
  refine j_lconst (v := 0) hE dX3_init_15 (by decide) ?_
  refine j_put (v := .long 0) (w' := [(h0, .inr (3, [.int (-1), .long 0, .long 0, .long 0, .int 0, .null, .int 0, .int 0]))]) (ws' := ([[(h0, .inr (3, [.int (-1), .long 0, .long 0, .long 0, .int 0, .null, .int 0, .int 0]))]] : List va_W)) hE lp_Luck_19 0 rfl 0 rfl rfl rfl (Nat.le_of_ble_eq_true rfl) rfl rfl dX3_init_16 ?_
  refine j_aload_n hE dX3_init_19 rfl 0 rfl ?_
  refine j_lconst (v := 0) hE dX3_init_20 (by decide) ?_
  refine j_put (v := .long 0) (w' := [(h0, .inr (3, [.int (-1), .long 0, .long 0, .long 0, .int 0, .null, .int 0, .int 0]))]) (ws' := ([[(h0, .inr (3, [.int (-1), .long 0, .long 0, .long 0, .int 0, .null, .int 0, .int 0]))]] : List va_W)) hE lp_Luck_22 0 rfl 0 rfl rfl rfl (Nat.le_of_ble_eq_true rfl) rfl rfl dX3_init_21 ?_
  refine j_aload_n hE dX3_init_24 rfl 0 rfl ?_
  refine j_iconst (v := 0) hE dX3_init_25 (by decide) ?_
  refine j_put (v := .int 0) (w' := [(h0, .inr (3, [.int (-1), .long 0, .long 0, .long 0, .int 0, .null, .int 0, .int 0]))]) (ws' := ([[(h0, .inr (3, [.int (-1), .long 0, .long 0, .long 0, .int 0, .null, .int 0, .int 0]))]] : List va_W)) hE lp_Luck_25 0 rfl 0 rfl rfl rfl (Nat.le_of_ble_eq_true rfl) rfl rfl dX3_init_26 ?_
  refine j_aload_n hE dX3_init_29 rfl 0 rfl ?_
  refine j_bipush (v := 6) hE dX3_init_30 (by decide) ?_
  refine j_newaI (N := 6) hE ac_I (by decide) (by decide) (Nat.le_of_ble_eq_true rfl) ⟨Nat.le_of_ble_eq_true rfl, Nat.le_of_ble_eq_true rfl⟩ dX3_init_32 (fun q1 => ?_)
  refine j_ws (ws' := ([[(h0, .inr (3, [.int (-1), .long 0, .long 0, .long 0, .int 0, .null, .int 0, .int 0]))], [(q1, .inl (g.2.2.1, 6, .inl (fun _ => 0)))]] : List va_W)) rfl ?_
  refine j_putF (v := .ref (q1)) (w' := [(h0, .inr (3, [.int (-1), .long 0, .long 0, .long 0, .int 0, .ref (q1), .int 0, .int 0]))]) (ws' := ([[(h0, .inr (3, [.int (-1), .long 0, .long 0, .long 0, .int 0, .ref (q1), .int 0, .int 0]))], [(q1, .inl (g.2.2.1, 6, .inl (fun _ => 0)))]] : List va_W)) hE hi lf_Luck_28 0 rfl 0 rfl rfl rfl (Nat.le_of_ble_eq_true rfl) rfl rfl dX3_init_34 ?_
  refine j_aload_n hE dX3_init_37 rfl 0 rfl ?_
  refine j_iconst (v := 0) hE dX3_init_38 (by decide) ?_
  refine j_put (v := .int 0) (w' := [(h0, .inr (3, [.int (-1), .long 0, .long 0, .long 0, .int 0, .ref (q1), .int 0, .int 0]))]) (ws' := ([[(h0, .inr (3, [.int (-1), .long 0, .long 0, .long 0, .int 0, .ref (q1), .int 0, .int 0]))], [(q1, .inl (g.2.2.1, 6, .inl (fun _ => 0)))]] : List va_W)) hE lp_Luck_32 0 rfl 0 rfl rfl rfl (Nat.le_of_ble_eq_true rfl) rfl rfl dX3_init_39 ?_
  refine j_aload_n hE dX3_init_42 rfl 0 rfl ?_
  refine j_iconst (v := 0) hE dX3_init_43 (by decide) ?_
  refine j_put (v := .int 0) (w' := [(h0, .inr (3, [.int (-1), .long 0, .long 0, .long 0, .int 0, .ref (q1), .int 0, .int 0]))]) (ws' := ([[(h0, .inr (3, [.int (-1), .long 0, .long 0, .long 0, .int 0, .ref (q1), .int 0, .int 0]))], [(q1, .inl (g.2.2.1, 6, .inl (fun _ => 0)))]] : List va_W)) hE lp_Luck_35 0 rfl 0 rfl rfl rfl (Nat.le_of_ble_eq_true rfl) rfl rfl dX3_init_44 ?_
  exact j_nret hE hq rfl rfl (fun i => ([h0, q1] : List Nat).getD i 0) rfl rfl dX3_init_47
def rm_House_init : Room := { frames := 1, cells := 0, slots := 0, locals := 20 }
set_option maxRecDepth 100000 in
theorem n_House_init (l : Launch) (g : jG) (h0 : Nat) : MN l g yX1_init cX1_init 1 rm_House_init h0 1 [.int 0, .int 0, .int 0, .int 0, .int 0, .int 0] (fun a => ([n_House g a (fun _ _ => 0)] : List va_W)) 0 0 := by
  refine MN_of (own := RX1) (by decide) rfl rfl (Nat.le_of_ble_eq_true rfl) (fun E hE hi hq => ?_)
  refine j_aload_n hE dX1_init_0 rfl 0 rfl ?_
  refine j_objInit hE oi_House ⟨Nat.le_of_ble_eq_true rfl, Nat.le_of_ble_eq_true rfl⟩ dX1_init_1 ?_
  refine j_aload_n hE dX1_init_4 rfl 0 rfl ?_
  refine j_iconst (v := 0) hE dX1_init_5 (by decide) ?_
  refine j_put (v := .int 0) (w' := [(h0, .inr (1, [.int 0, .int 0, .int 0, .int 0, .int 0, .int 0]))]) (ws' := ([[(h0, .inr (1, [.int 0, .int 0, .int 0, .int 0, .int 0, .int 0]))]] : List va_W)) hE lp_House_9 0 rfl 0 rfl (by decide +kernel) (by decide +kernel) (Nat.le_of_ble_eq_true rfl) rfl rfl dX1_init_6 ?_
  refine j_aload_n hE dX1_init_9 rfl 0 rfl ?_
  refine j_iconst (v := 0) hE dX1_init_10 (by decide) ?_
  refine j_put (v := .int 0) (w' := [(h0, .inr (1, [.int 0, .int 0, .int 0, .int 0, .int 0, .int 0]))]) (ws' := ([[(h0, .inr (1, [.int 0, .int 0, .int 0, .int 0, .int 0, .int 0]))]] : List va_W)) hE lp_House_15 0 rfl 0 rfl rfl rfl (Nat.le_of_ble_eq_true rfl) rfl rfl dX1_init_11 ?_
  refine j_aload_n hE dX1_init_14 rfl 0 rfl ?_
  refine j_iconst (v := 0) hE dX1_init_15 (by decide) ?_
  refine j_put (v := .int 0) (w' := [(h0, .inr (1, [.int 0, .int 0, .int 0, .int 0, .int 0, .int 0]))]) (ws' := ([[(h0, .inr (1, [.int 0, .int 0, .int 0, .int 0, .int 0, .int 0]))]] : List va_W)) hE lp_House_19 0 rfl 0 rfl rfl rfl (Nat.le_of_ble_eq_true rfl) rfl rfl dX1_init_16 ?_
  refine j_aload_n hE dX1_init_19 rfl 0 rfl ?_
  refine j_iconst (v := 0) hE dX1_init_20 (by decide) ?_
  refine j_put (v := .int 0) (w' := [(h0, .inr (1, [.int 0, .int 0, .int 0, .int 0, .int 0, .int 0]))]) (ws' := ([[(h0, .inr (1, [.int 0, .int 0, .int 0, .int 0, .int 0, .int 0]))]] : List va_W)) hE lp_House_22 0 rfl 0 rfl rfl rfl (Nat.le_of_ble_eq_true rfl) rfl rfl dX1_init_21 ?_
  refine j_aload_n hE dX1_init_24 rfl 0 rfl ?_
  refine j_iconst (v := 0) hE dX1_init_25 (by decide) ?_
  refine j_put (v := .int 0) (w' := [(h0, .inr (1, [.int 0, .int 0, .int 0, .int 0, .int 0, .int 0]))]) (ws' := ([[(h0, .inr (1, [.int 0, .int 0, .int 0, .int 0, .int 0, .int 0]))]] : List va_W)) hE lp_House_25 0 rfl 0 rfl rfl rfl (Nat.le_of_ble_eq_true rfl) rfl rfl dX1_init_26 ?_
  refine j_aload_n hE dX1_init_29 rfl 0 rfl ?_
  refine j_iconst (v := 0) hE dX1_init_30 (by decide) ?_
  refine j_put (v := .int 0) (w' := [(h0, .inr (1, [.int 0, .int 0, .int 0, .int 0, .int 0, .int 0]))]) (ws' := ([[(h0, .inr (1, [.int 0, .int 0, .int 0, .int 0, .int 0, .int 0]))]] : List va_W)) hE lp_House_28 0 rfl 0 rfl rfl rfl (Nat.le_of_ble_eq_true rfl) rfl rfl dX1_init_31 ?_
  exact j_nret hE hq rfl rfl (fun i => ([h0] : List Nat).getD i 0) rfl rfl dX1_init_34
