def rm_Reader_readMore : Room := { frames := 4, cells := 0, slots := 0, locals := 90 }
def f_Reader_readMore_2  (x2 : Int32)  : Nat → jZ → jZ → jZ → Int32 → Option (jZ × jZ × jZ × Int32)
  | 0, _, _, _, _ => none
  | n + 1, re_z, ta_z, ro_z, v3 => (if 3 < v3 then some (re_z, ta_z, ro_z, 1)
    else (f_Road_has ro_z x2).bind fun q2 => (if q2 = 0 then some (re_z, ta_z, ro_z, 1)
    else (f_Tape_isWord ta_z 419037184).bind fun q5 => (if q5 = 0 then (f_Tape_isWord ta_z 83623936).bind fun q8 => (if q8 = 0 then (f_Tape_isWord ta_z 788082272).bind fun q11 => (if q11 = 0 then some (re_z, ta_z, ro_z, 1)
    else (f_Reader_readWorks re_z ta_z ro_z x2).bind fun q14 => (if q14.2.2.2 = 0 then some (q14.1, q14.2.1, q14.2.2.1, 0)
    else f_Reader_readMore_2 x2 n q14.1 q14.2.1 q14.2.2.1 (v3 + 1)))
    else (f_Reader_readBox re_z ta_z ro_z x2).bind fun q17 => (if q17.2.2.2 = 0 then some (q17.1, q17.2.1, q17.2.2.1, 0)
    else f_Reader_readMore_2 x2 n q17.1 q17.2.1 q17.2.2.1 (v3 + 1)))
    else (f_Reader_readLot re_z ta_z ro_z x2).bind fun q20 => (if q20.2.2.2 = 0 then some (q20.1, q20.2.1, q20.2.2.1, 0)
    else f_Reader_readMore_2 x2 n q20.1 q20.2.1 q20.2.2.1 (v3 + 1)))))
def f_Reader_readMore (re_z : jZ) (ta_z : jZ) (ro_z : jZ) (x2 : Int32) : Option (jZ × jZ × jZ × Int32) := f_Reader_readMore_2 x2 FU re_z ta_z ro_z 0
set_option maxRecDepth 100000 in
theorem j_Reader_readMore_2 (E : jT) (g : jG) (a : Nat → Nat) (b : Nat → Nat) (ki_z : jZ) (ru_z : jZ) (ru_y : jY) (no_z : jZ) (x2 : Int32) (res : jZ × jZ × jZ × Int32) (hE : jOk E g RX7 cX7_readMore 5 (some .boolean) rm_Reader_readMore) (hq : jEnd E g (some (.int res.2.2.2)) (([n_Reader g a res.1, n_Tape g (fun i => a (i + 3)) res.2.1, n_Road g b res.2.2.1, n_Kinds g (fun i => b (i + 8)) ki_z, n_Rule g (fun i => b (i + 14)) ru_z ru_y, n_Notes g (fun i => b (i + 17)) no_z] : List va_W)) 0 0)  : ∀ (n : Nat) (re_z : jZ) (ta_z : jZ) (ro_z : jZ) (v3 : Int32), f_Reader_readMore_2 x2 n re_z ta_z ro_z v3 = some res → J E g 0 0 (([n_Reader g a re_z, n_Tape g (fun i => a (i + 3)) ta_z, n_Road g b ro_z, n_Kinds g (fun i => b (i + 8)) ki_z, n_Rule g (fun i => b (i + 14)) ru_z ru_y, n_Notes g (fun i => b (i + 17)) no_z] : List va_W)) [(0, .ref (a 0)), (1, .ref (b 0)), (2, .int x2), (3, .int v3)] 2 [] := by
  intro n
  induction n with
  | zero =>
    intro re_z ta_z ro_z v3 hf
    rw [f_Reader_readMore_2] at hf
    cases hf
  | succ n ih =>
    intro re_z ta_z ro_z v3 hf
    rw [f_Reader_readMore_2] at hf
    refine j_iload_n hE dX7_readMore_2 rfl 3 rfl ?_
    refine j_iconst (v := 3) hE dX7_readMore_3 (by decide) ?_
    refine j_icmp_gt (tgt := 99) hE hf dX7_readMore_4 (by decide) (fun c1 hf => ?_) (fun c1 hf => ?_)
    · refine j_iconst (v := 1) hE dX7_readMore_99 (by decide) ?_
      obtain rfl := Option.some.inj hf
      exact j_zret_c hE (Or.inr rfl) hq rfl rfl dX7_readMore_100
    · refine j_aload_n hE dX7_readMore_7 rfl 1 rfl ?_
      refine j_iload_n hE dX7_readMore_8 rfl 2 rfl ?_
      obtain ⟨q2, hc3, hf⟩ := bind_of hf
      refine j_callV (ws' := ([n_Reader g a re_z, n_Tape g (fun i => a (i + 3)) ta_z, n_Road g b ro_z, n_Kinds g (fun i => b (i + 8)) ki_z, n_Rule g (fun i => b (i + 14)) ru_z ru_y, n_Notes g (fun i => b (i + 17)) no_z] : List va_W)) (As := [.int x2]) (rest := []) (st2 := [.int q2]) hE (fun l => c_Road_has l g b ro_z ki_z ru_z ru_y no_z x2 q2 hc3) cd_X8_has cv_X8_has ml_Reader_145 rfl rfl rfl (wg_Road_0 _ _ _) ⟨⟨Nat.le_of_ble_eq_true rfl, Nat.le_of_ble_eq_true rfl⟩, ⟨Nat.zero_le _, Nat.zero_le _⟩, rfl, rfl⟩ [2, 3, 4, 5] rfl rfl rfl (Nat.le_of_ble_eq_true rfl) rfl dX7_readMore_9 ?_
      refine j_if_eq (tgt := 99) hE hf dX7_readMore_12 (by decide) (fun c4 hf => ?_) (fun c4 hf => ?_)
      · refine j_iconst (v := 1) hE dX7_readMore_99 (by decide) ?_
        obtain rfl := Option.some.inj hf
        exact j_zret_c hE (Or.inr rfl) hq rfl rfl dX7_readMore_100
      · refine j_aload_n hE dX7_readMore_15 rfl 0 rfl ?_
        refine j_get (v := .ref (a 3)) hE lg_Reader_12 0 rfl 0 (wg_Reader_0 g a re_z) rfl dX7_readMore_16 ?_
        refine j_ldc hE co_Reader_148 dX7_readMore_19 ?_
        obtain ⟨q5, hc6, hf⟩ := bind_of hf
        refine j_callV (ws' := ([n_Reader g a re_z, n_Tape g (fun i => a (i + 3)) ta_z, n_Road g b ro_z, n_Kinds g (fun i => b (i + 8)) ki_z, n_Rule g (fun i => b (i + 14)) ru_z ru_y, n_Notes g (fun i => b (i + 17)) no_z] : List va_W)) (As := [.int 419037184]) (rest := []) (st2 := [.int q5]) hE (fun l => c_Tape_isWord l g (fun i => a (i + 3)) ta_z 419037184 q5 hc6) cd_X10_isWord cv_X10_isWord ml_Reader_62 rfl rfl rfl (wg_Tape_0 _ _ _) ⟨⟨Nat.le_of_ble_eq_true rfl, Nat.le_of_ble_eq_true rfl⟩, ⟨Nat.zero_le _, Nat.zero_le _⟩, rfl, rfl⟩ [1] rfl rfl rfl (Nat.le_of_ble_eq_true rfl) rfl dX7_readMore_21 ?_
        refine j_if_eq (tgt := 38) hE hf dX7_readMore_24 (by decide) (fun c7 hf => ?_) (fun c7 hf => ?_)
        · refine j_aload_n hE dX7_readMore_38 rfl 0 rfl ?_
          refine j_get (v := .ref (a 3)) hE lg_Reader_12 0 rfl 0 (wg_Reader_0 g a re_z) rfl dX7_readMore_39 ?_
          refine j_ldc hE co_Reader_152 dX7_readMore_42 ?_
          obtain ⟨q8, hc9, hf⟩ := bind_of hf
          refine j_callV (ws' := ([n_Reader g a re_z, n_Tape g (fun i => a (i + 3)) ta_z, n_Road g b ro_z, n_Kinds g (fun i => b (i + 8)) ki_z, n_Rule g (fun i => b (i + 14)) ru_z ru_y, n_Notes g (fun i => b (i + 17)) no_z] : List va_W)) (As := [.int 83623936]) (rest := []) (st2 := [.int q8]) hE (fun l => c_Tape_isWord l g (fun i => a (i + 3)) ta_z 83623936 q8 hc9) cd_X10_isWord cv_X10_isWord ml_Reader_62 rfl rfl rfl (wg_Tape_0 _ _ _) ⟨⟨Nat.le_of_ble_eq_true rfl, Nat.le_of_ble_eq_true rfl⟩, ⟨Nat.zero_le _, Nat.zero_le _⟩, rfl, rfl⟩ [1] rfl rfl rfl (Nat.le_of_ble_eq_true rfl) rfl dX7_readMore_44 ?_
          refine j_if_eq (tgt := 61) hE hf dX7_readMore_47 (by decide) (fun c10 hf => ?_) (fun c10 hf => ?_)
          · refine j_aload_n hE dX7_readMore_61 rfl 0 rfl ?_
            refine j_get (v := .ref (a 3)) hE lg_Reader_12 0 rfl 0 (wg_Reader_0 g a re_z) rfl dX7_readMore_62 ?_
            refine j_ldc hE co_Reader_156 dX7_readMore_65 ?_
            obtain ⟨q11, hc12, hf⟩ := bind_of hf
            refine j_callV (ws' := ([n_Reader g a re_z, n_Tape g (fun i => a (i + 3)) ta_z, n_Road g b ro_z, n_Kinds g (fun i => b (i + 8)) ki_z, n_Rule g (fun i => b (i + 14)) ru_z ru_y, n_Notes g (fun i => b (i + 17)) no_z] : List va_W)) (As := [.int 788082272]) (rest := []) (st2 := [.int q11]) hE (fun l => c_Tape_isWord l g (fun i => a (i + 3)) ta_z 788082272 q11 hc12) cd_X10_isWord cv_X10_isWord ml_Reader_62 rfl rfl rfl (wg_Tape_0 _ _ _) ⟨⟨Nat.le_of_ble_eq_true rfl, Nat.le_of_ble_eq_true rfl⟩, ⟨Nat.zero_le _, Nat.zero_le _⟩, rfl, rfl⟩ [1] rfl rfl rfl (Nat.le_of_ble_eq_true rfl) rfl dX7_readMore_67 ?_
            refine j_if_eq (tgt := 84) hE hf dX7_readMore_70 (by decide) (fun c13 hf => ?_) (fun c13 hf => ?_)
            · refine j_iconst (v := 1) hE dX7_readMore_84 (by decide) ?_
              obtain rfl := Option.some.inj hf
              exact j_zret_c hE (Or.inr rfl) hq rfl rfl dX7_readMore_85
            · refine j_aload_n hE dX7_readMore_73 rfl 0 rfl ?_
              refine j_aload_n hE dX7_readMore_74 rfl 1 rfl ?_
              refine j_iload_n hE dX7_readMore_75 rfl 2 rfl ?_
              obtain ⟨q14, hc15, hf⟩ := bind_of hf
              refine j_callV (ws' := ([n_Reader g a q14.1, n_Tape g (fun i => a (i + 3)) q14.2.1, n_Road g b q14.2.2.1, n_Kinds g (fun i => b (i + 8)) ki_z, n_Rule g (fun i => b (i + 14)) ru_z ru_y, n_Notes g (fun i => b (i + 17)) no_z] : List va_W)) (As := [.ref (b 0), .int x2]) (rest := []) (st2 := [.int q14.2.2.2]) hE (fun l => c_Reader_readWorks l g a b re_z ta_z ro_z ki_z ru_z ru_y no_z x2 q14 hc15) cd_X7_readWorks cv_X7_readWorks ml_Reader_157 rfl rfl rfl (wg_Reader_0 _ _ _) ⟨⟨Nat.le_of_ble_eq_true rfl, Nat.le_of_ble_eq_true rfl⟩, ⟨Nat.zero_le _, Nat.zero_le _⟩, rfl, rfl⟩ [0, 1, 2, 3, 4, 5] rfl rfl rfl (Nat.le_of_ble_eq_true rfl) rfl dX7_readMore_76 ?_
              refine j_istore (lv' := [(4, .int q14.2.2.2), (0, .ref (a 0)), (1, .ref (b 0)), (2, .int x2), (3, .int v3)]) hE dX7_readMore_79 (by decide) rfl ?_
              refine j_goto (tgt := 86) hE dX7_readMore_81 (by decide) ?_
              refine j_iload hE dX7_readMore_86 0 rfl ?_
              refine j_if_ne (tgt := 93) hE hf dX7_readMore_88 (by decide) (fun c16 hf => ?_) (fun c16 hf => ?_)
              · refine j_iinc (v := (v3 + 1)) (lv' := [(3, .int (v3 + 1)), (4, .int q14.2.2.2), (0, .ref (a 0)), (1, .ref (b 0)), (2, .int x2)]) hE dX7_readMore_93 4 rfl rfl (by decide) rfl ?_
                refine j_goto (tgt := 2) hE dX7_readMore_96 (by decide) ?_
                exact j_sub [2, 3, 4, 0] rfl (ih q14.1 q14.2.1 q14.2.2.1 (v3 + 1) hf)
              · refine j_iconst (v := 0) hE dX7_readMore_91 (by decide) ?_
                obtain rfl := Option.some.inj hf
                exact j_zret_c hE (Or.inl rfl) hq rfl rfl dX7_readMore_92
          · refine j_aload_n hE dX7_readMore_50 rfl 0 rfl ?_
            refine j_aload_n hE dX7_readMore_51 rfl 1 rfl ?_
            refine j_iload_n hE dX7_readMore_52 rfl 2 rfl ?_
            obtain ⟨q17, hc18, hf⟩ := bind_of hf
            refine j_callV (ws' := ([n_Reader g a q17.1, n_Tape g (fun i => a (i + 3)) q17.2.1, n_Road g b q17.2.2.1, n_Kinds g (fun i => b (i + 8)) ki_z, n_Rule g (fun i => b (i + 14)) ru_z ru_y, n_Notes g (fun i => b (i + 17)) no_z] : List va_W)) (As := [.ref (b 0), .int x2]) (rest := []) (st2 := [.int q17.2.2.2]) hE (fun l => c_Reader_readBox l g a b re_z ta_z ro_z ki_z ru_z ru_y no_z x2 q17 hc18) cd_X7_readBox cv_X7_readBox ml_Reader_153 rfl rfl rfl (wg_Reader_0 _ _ _) ⟨⟨Nat.le_of_ble_eq_true rfl, Nat.le_of_ble_eq_true rfl⟩, ⟨Nat.zero_le _, Nat.zero_le _⟩, rfl, rfl⟩ [0, 1, 2, 3, 4, 5] rfl rfl rfl (Nat.le_of_ble_eq_true rfl) rfl dX7_readMore_53 ?_
            refine j_istore (lv' := [(4, .int q17.2.2.2), (0, .ref (a 0)), (1, .ref (b 0)), (2, .int x2), (3, .int v3)]) hE dX7_readMore_56 (by decide) rfl ?_
            refine j_goto (tgt := 86) hE dX7_readMore_58 (by decide) ?_
            refine j_iload hE dX7_readMore_86 0 rfl ?_
            refine j_if_ne (tgt := 93) hE hf dX7_readMore_88 (by decide) (fun c19 hf => ?_) (fun c19 hf => ?_)
            · refine j_iinc (v := (v3 + 1)) (lv' := [(3, .int (v3 + 1)), (4, .int q17.2.2.2), (0, .ref (a 0)), (1, .ref (b 0)), (2, .int x2)]) hE dX7_readMore_93 4 rfl rfl (by decide) rfl ?_
              refine j_goto (tgt := 2) hE dX7_readMore_96 (by decide) ?_
              exact j_sub [2, 3, 4, 0] rfl (ih q17.1 q17.2.1 q17.2.2.1 (v3 + 1) hf)
            · refine j_iconst (v := 0) hE dX7_readMore_91 (by decide) ?_
              obtain rfl := Option.some.inj hf
              exact j_zret_c hE (Or.inl rfl) hq rfl rfl dX7_readMore_92
        · refine j_aload_n hE dX7_readMore_27 rfl 0 rfl ?_
          refine j_aload_n hE dX7_readMore_28 rfl 1 rfl ?_
          refine j_iload_n hE dX7_readMore_29 rfl 2 rfl ?_
          obtain ⟨q20, hc21, hf⟩ := bind_of hf
          refine j_callV (ws' := ([n_Reader g a q20.1, n_Tape g (fun i => a (i + 3)) q20.2.1, n_Road g b q20.2.2.1, n_Kinds g (fun i => b (i + 8)) ki_z, n_Rule g (fun i => b (i + 14)) ru_z ru_y, n_Notes g (fun i => b (i + 17)) no_z] : List va_W)) (As := [.ref (b 0), .int x2]) (rest := []) (st2 := [.int q20.2.2.2]) hE (fun l => c_Reader_readLot l g a b re_z ta_z ro_z ki_z ru_z ru_y no_z x2 q20 hc21) cd_X7_readLot cv_X7_readLot ml_Reader_149 rfl rfl rfl (wg_Reader_0 _ _ _) ⟨⟨Nat.le_of_ble_eq_true rfl, Nat.le_of_ble_eq_true rfl⟩, ⟨Nat.zero_le _, Nat.zero_le _⟩, rfl, rfl⟩ [0, 1, 2, 3, 4, 5] rfl rfl rfl (Nat.le_of_ble_eq_true rfl) rfl dX7_readMore_30 ?_
          refine j_istore (lv' := [(4, .int q20.2.2.2), (0, .ref (a 0)), (1, .ref (b 0)), (2, .int x2), (3, .int v3)]) hE dX7_readMore_33 (by decide) rfl ?_
          refine j_goto (tgt := 86) hE dX7_readMore_35 (by decide) ?_
          refine j_iload hE dX7_readMore_86 0 rfl ?_
          refine j_if_ne (tgt := 93) hE hf dX7_readMore_88 (by decide) (fun c22 hf => ?_) (fun c22 hf => ?_)
          · refine j_iinc (v := (v3 + 1)) (lv' := [(3, .int (v3 + 1)), (4, .int q20.2.2.2), (0, .ref (a 0)), (1, .ref (b 0)), (2, .int x2)]) hE dX7_readMore_93 4 rfl rfl (by decide) rfl ?_
            refine j_goto (tgt := 2) hE dX7_readMore_96 (by decide) ?_
            exact j_sub [2, 3, 4, 0] rfl (ih q20.1 q20.2.1 q20.2.2.1 (v3 + 1) hf)
          · refine j_iconst (v := 0) hE dX7_readMore_91 (by decide) ?_
            obtain rfl := Option.some.inj hf
            exact j_zret_c hE (Or.inl rfl) hq rfl rfl dX7_readMore_92
set_option maxRecDepth 100000 in
theorem c_Reader_readMore (l : Launch) (g : jG) (a : Nat → Nat) (b : Nat → Nat) (re_z : jZ) (ta_z : jZ) (ro_z : jZ) (ki_z : jZ) (ru_z : jZ) (ru_y : jY) (no_z : jZ) (x2 : Int32) (res : jZ × jZ × jZ × Int32) (hf : f_Reader_readMore re_z ta_z ro_z x2 = some res) : MC l g yX7_readMore cX7_readMore 5 (some .boolean) rm_Reader_readMore [.ref (a 0), .ref (b 0), .int x2] (([n_Reader g a re_z, n_Tape g (fun i => a (i + 3)) ta_z, n_Road g b ro_z, n_Kinds g (fun i => b (i + 8)) ki_z, n_Rule g (fun i => b (i + 14)) ru_z ru_y, n_Notes g (fun i => b (i + 17)) no_z] : List va_W)) (some (.int res.2.2.2)) (([n_Reader g a res.1, n_Tape g (fun i => a (i + 3)) res.2.1, n_Road g b res.2.2.1, n_Kinds g (fun i => b (i + 8)) ki_z, n_Rule g (fun i => b (i + 14)) ru_z ru_y, n_Notes g (fun i => b (i + 17)) no_z] : List va_W)) 0 0 := by
  refine MC_of (own := RX7) (lv := [(0, .ref (a 0)), (1, .ref (b 0)), (2, .int x2)]) (by decide) rfl (Nat.le_of_ble_eq_true rfl) rfl rfl (fun E hE hq => ?_)
  unfold f_Reader_readMore at hf
  refine j_iconst (v := 0) hE dX7_readMore_0 (by decide) ?_
  refine j_istore_n (lv' := [(3, .int 0), (0, .ref (a 0)), (1, .ref (b 0)), (2, .int x2)]) hE dX7_readMore_1 rfl (by decide) rfl ?_
  exact j_sub [1, 2, 3, 0] rfl (j_Reader_readMore_2 E g a b ki_z ru_z ru_y no_z x2 res hE hq FU re_z ta_z ro_z 0 hf)
def rm_WP_findKinds_names : Room := { frames := 0, cells := 0, slots := 0, locals := 0 }
def f_WP_findKinds_names_2 (ki_z : jZ) (x1 : Int32) (x2 : Int32)  : Nat → Int32 → Option (Int32)
  | 0, _ => none
  | n + 1, v3 => (if x1 ≤ v3 then some (-1)
    else (if 5 ≤ v3 then some (-1)
    else (ix v3 5).bind fun _ => (if (ki_z 2 (Int32.toNatClampNeg v3)) = x2 then some v3
    else f_WP_findKinds_names_2 ki_z x1 x2 n (v3 + 1))))
def f_WP_findKinds_names (ki_z : jZ) (x1 : Int32) (x2 : Int32) : Option (Int32) := f_WP_findKinds_names_2 ki_z x1 x2 FU 0
set_option maxRecDepth 100000 in
theorem j_WP_findKinds_names_2 (E : jT) (g : jG) (b : Nat → Nat) (ki_z : jZ) (x1 : Int32) (x2 : Int32) (res : Int32) (hE : jOk E g RX11 cX11_find 4 (some .int) rm_WP_findKinds_names) (hq : jEnd E g (some (.int res)) (([n_Kinds g b ki_z] : List va_W)) 0 0)  : ∀ (n : Nat) (v3 : Int32), f_WP_findKinds_names_2 ki_z x1 x2 n v3 = some res → J E g 0 0 (([n_Kinds g b ki_z] : List va_W)) [(0, .ref (b 1)), (1, .int x1), (2, .int x2), (3, .int v3)] 2 [] := by
  intro n
  induction n with
  | zero =>
    intro v3 hf
    rw [f_WP_findKinds_names_2] at hf
    cases hf
  | succ n ih =>
    intro v3 hf
    rw [f_WP_findKinds_names_2] at hf
    refine j_iload_n hE dX11_find_2 rfl 3 rfl ?_
    refine j_iload_n hE dX11_find_3 rfl 1 rfl ?_
    refine j_icmp_ge (tgt := 28) hE hf dX11_find_4 (by decide) (fun c1 hf => ?_) (fun c1 hf => ?_)
    · refine j_iconst (v := (-1)) hE dX11_find_28 (by decide) ?_
      obtain rfl := Option.some.inj hf
      exact j_iret hE hq rfl rfl dX11_find_29
    · refine j_iload_n hE dX11_find_7 rfl 3 rfl ?_
      refine j_aload_n hE dX11_find_8 rfl 0 rfl ?_
      refine j_alen (v := 5) (t0 := 1) hE 0 rfl 1 (wg_Kinds_1 g b ki_z) rfl rfl dX11_find_9 ?_
      refine j_icmp_ge (tgt := 28) hE hf dX11_find_10 (by decide) (fun c2 hf => ?_) (fun c2 hf => ?_)
      · refine j_iconst (v := (-1)) hE dX11_find_28 (by decide) ?_
        obtain rfl := Option.some.inj hf
        exact j_iret hE hq rfl rfl dX11_find_29
      · refine j_aload_n hE dX11_find_13 rfl 0 rfl ?_
        refine j_iload_n hE dX11_find_14 rfl 3 rfl ?_
        refine j_iald hE hf 0 rfl 1 (wg_Kinds_1 g b ki_z) dX11_find_15 (fun hf => ?_)
        refine j_iload_n hE dX11_find_16 rfl 2 rfl ?_
        refine j_icmp_ne (tgt := 22) hE hf dX11_find_17 (by decide) (fun c4 hf => ?_) (fun c4 hf => ?_)
        · refine j_iinc (v := (v3 + 1)) (lv' := [(3, .int (v3 + 1)), (0, .ref (b 1)), (1, .int x1), (2, .int x2)]) hE dX11_find_22 3 rfl rfl (by decide) rfl ?_
          refine j_goto (tgt := 2) hE dX11_find_25 (by decide) ?_
          exact j_sub [1, 2, 3, 0] rfl (ih (v3 + 1) hf)
        · refine j_iload_n hE dX11_find_20 rfl 3 rfl ?_
          obtain rfl := Option.some.inj hf
          exact j_iret hE hq rfl rfl dX11_find_21
set_option maxRecDepth 100000 in
theorem c_WP_findKinds_names (l : Launch) (g : jG) (b : Nat → Nat) (ki_z : jZ) (x1 : Int32) (x2 : Int32) (res : Int32) (hf : f_WP_findKinds_names ki_z x1 x2 = some res) : MC l g yX11_find cX11_find 4 (some .int) rm_WP_findKinds_names [.ref (b 1), .int x1, .int x2] (([n_Kinds g b ki_z] : List va_W)) (some (.int res)) (([n_Kinds g b ki_z] : List va_W)) 0 0 := by
  refine MC_of (own := RX11) (lv := [(0, .ref (b 1)), (1, .int x1), (2, .int x2)]) (by decide) rfl (Nat.le_of_ble_eq_true rfl) rfl rfl (fun E hE hq => ?_)
  unfold f_WP_findKinds_names at hf
  refine j_iconst (v := 0) hE dX11_find_0 (by decide) ?_
  refine j_istore_n (lv' := [(3, .int 0), (0, .ref (b 1)), (1, .int x1), (2, .int x2)]) hE dX11_find_1 rfl (by decide) rfl ?_
  exact j_sub [1, 2, 3, 0] rfl (j_WP_findKinds_names_2 E g b ki_z x1 x2 res hE hq FU 0 hf)
def rm_Reader_readNameKinds_names : Room := { frames := 2, cells := 0, slots := 0, locals := 43 }
def f_Reader_readNameKinds_names (re_z : jZ) (ta_z : jZ) (ki_z : jZ) (x2 : Int32) : Option (jZ × jZ × jZ × Int32) := (if (ta_z 4 0) = 1 then (f_Tape_isOfLanguage (ta_z 5 0)).bind fun q5 => (if q5 = 0 then (f_WP_findKinds_names ki_z x2 (ta_z 5 0)).bind fun q8 => (if q8 = (-1) then (if x2 < 0 then (f_Reader_stop re_z ta_z 2).bind fun q12 => (bz q12.2).bind fun _ => some (q12.1, ta_z, ki_z, q12.2)
    else (if x2 < 5 then (ix x2 5).bind fun _ => (f_Tape_step ta_z).bind fun q16 => some (re_z, q16, (up2 ki_z 2 (Int32.toNatClampNeg x2) (ta_z 5 0)), 1)
    else (f_Reader_stop re_z ta_z 2).bind fun q18 => (bz q18.2).bind fun _ => some (q18.1, ta_z, ki_z, q18.2)))
    else (f_Reader_stop re_z ta_z 3).bind fun q21 => (bz q21.2).bind fun _ => some (q21.1, ta_z, ki_z, q21.2))
    else (f_Reader_stop re_z ta_z 1).bind fun q24 => (bz q24.2).bind fun _ => some (q24.1, ta_z, ki_z, q24.2))
    else (f_Reader_stop re_z ta_z 1).bind fun q2 => (bz q2.2).bind fun _ => some (q2.1, ta_z, ki_z, q2.2))
set_option maxRecDepth 100000 in
theorem c_Reader_readNameKinds_names (l : Launch) (g : jG) (a : Nat → Nat) (b : Nat → Nat) (re_z : jZ) (ta_z : jZ) (ki_z : jZ) (x2 : Int32) (res : jZ × jZ × jZ × Int32) (hf : f_Reader_readNameKinds_names re_z ta_z ki_z x2 = some res) : MC l g yX7_readName cX7_readName 3 (some .boolean) rm_Reader_readNameKinds_names [.ref (a 0), .ref (b 1), .int x2] (([n_Reader g a re_z, n_Tape g (fun i => a (i + 3)) ta_z, n_Kinds g b ki_z] : List va_W)) (some (.int res.2.2.2)) (([n_Reader g a res.1, n_Tape g (fun i => a (i + 3)) res.2.1, n_Kinds g b res.2.2.1] : List va_W)) 0 0 := by
  refine MC_of (own := RX7) (lv := [(0, .ref (a 0)), (1, .ref (b 1)), (2, .int x2)]) (by decide) rfl (Nat.le_of_ble_eq_true rfl) rfl rfl (fun E hE hq => ?_)
  unfold f_Reader_readNameKinds_names at hf
  refine j_aload_n hE dX7_readName_0 rfl 0 rfl ?_
  refine j_get (v := .ref (a 3)) hE lg_Reader_12 0 rfl 0 (wg_Reader_0 g a re_z) rfl dX7_readName_1 ?_
  refine j_get (v := .int (ta_z 4 0)) hE lg_Reader_58 1 rfl 0 (wg_Tape_0 g (fun i => a (i + 3)) ta_z) rfl dX7_readName_4 ?_
  refine j_iconst (v := 1) hE dX7_readName_7 (by decide) ?_
  refine j_icmp_ne (tgt := 24) hE hf dX7_readName_8 (by decide) (fun c1 hf => ?_) (fun c1 hf => ?_)
  · refine j_aload_n hE dX7_readName_24 rfl 0 rfl ?_
    refine j_iconst (v := 1) hE dX7_readName_25 (by decide) ?_
    obtain ⟨q2, hc3, hf⟩ := bind_of hf
    refine j_callV (ws' := ([n_Reader g a q2.1, n_Tape g (fun i => a (i + 3)) ta_z, n_Kinds g b ki_z] : List va_W)) (As := [.int 1]) (rest := []) (st2 := [.int q2.2]) hE (fun l => c_Reader_stop l g a re_z ta_z 1 q2 hc3) cd_X7_stop cv_X7_stop ml_Reader_99 rfl rfl rfl (wg_Reader_0 _ _ _) ⟨⟨Nat.le_of_ble_eq_true rfl, Nat.le_of_ble_eq_true rfl⟩, ⟨Nat.zero_le _, Nat.zero_le _⟩, rfl, rfl⟩ [0, 1] rfl rfl rfl (Nat.le_of_ble_eq_true rfl) rfl dX7_readName_26 ?_
    obtain ⟨b4, hf⟩ := bz_of hf
    obtain rfl := Option.some.inj hf
    exact j_zret_c hE b4 hq rfl rfl dX7_readName_29
  · refine j_aload_n hE dX7_readName_11 rfl 0 rfl ?_
    refine j_get (v := .ref (a 3)) hE lg_Reader_12 0 rfl 0 (wg_Reader_0 g a re_z) rfl dX7_readName_12 ?_
    refine j_get (v := .int (ta_z 5 0)) hE lg_Reader_181 1 rfl 0 (wg_Tape_0 g (fun i => a (i + 3)) ta_z) rfl dX7_readName_15 ?_
    obtain ⟨q5, hc6, hf⟩ := bind_of hf
    refine j_callS (ws' := ([n_Reader g a re_z, n_Tape g (fun i => a (i + 3)) ta_z, n_Kinds g b ki_z] : List va_W)) (As := [.int (ta_z 5 0)]) (rest := []) (st2 := [.int q5]) hE (fun l => c_Tape_isOfLanguage l g (ta_z 5 0) q5 hc6) cd_X10_isOfLanguage st_X10_isOfLanguage ml_Reader_184 rfl rfl ⟨⟨Nat.le_of_ble_eq_true rfl, Nat.le_of_ble_eq_true rfl⟩, ⟨Nat.zero_le _, Nat.zero_le _⟩, rfl, rfl⟩ [] rfl rfl rfl (Nat.le_of_ble_eq_true rfl) rfl dX7_readName_18 ?_
    refine j_if_eq (tgt := 30) hE hf dX7_readName_21 (by decide) (fun c7 hf => ?_) (fun c7 hf => ?_)
    · refine j_aload_n hE dX7_readName_30 rfl 1 rfl ?_
      refine j_iload_n hE dX7_readName_31 rfl 2 rfl ?_
      refine j_aload_n hE dX7_readName_32 rfl 0 rfl ?_
      refine j_get (v := .ref (a 3)) hE lg_Reader_12 0 rfl 0 (wg_Reader_0 g a re_z) rfl dX7_readName_33 ?_
      refine j_get (v := .int (ta_z 5 0)) hE lg_Reader_181 1 rfl 0 (wg_Tape_0 g (fun i => a (i + 3)) ta_z) rfl dX7_readName_36 ?_
      obtain ⟨q8, hc9, hf⟩ := bind_of hf
      refine j_callSN (ws' := ([n_Reader g a re_z, n_Tape g (fun i => a (i + 3)) ta_z, n_Kinds g b ki_z] : List va_W)) (As := [.ref (b 1), .int x2, .int (ta_z 5 0)]) (rest := []) (st2 := [.int q8]) hE (fun l => c_WP_findKinds_names l g b ki_z x2 (ta_z 5 0) q8 hc9) cd_X11_find st_X11_find ml_Reader_187 rfl rfl ⟨⟨Nat.le_of_ble_eq_true rfl, Nat.le_of_ble_eq_true rfl⟩, ⟨Nat.zero_le _, Nat.zero_le _⟩, rfl, rfl⟩ [2] rfl rfl rfl (Nat.le_of_ble_eq_true rfl) rfl dX7_readName_39 ?_
      refine j_iconst (v := (-1)) hE dX7_readName_42 (by decide) ?_
      refine j_icmp_eq (tgt := 52) hE hf dX7_readName_43 (by decide) (fun c10 hf => ?_) (fun c10 hf => ?_)
      · refine j_iload_n hE dX7_readName_52 rfl 2 rfl ?_
        refine j_if_lt (tgt := 62) hE hf dX7_readName_53 (by decide) (fun c11 hf => ?_) (fun c11 hf => ?_)
        · refine j_aload_n hE dX7_readName_62 rfl 0 rfl ?_
          refine j_iconst (v := 2) hE dX7_readName_63 (by decide) ?_
          obtain ⟨q12, hc13, hf⟩ := bind_of hf
          refine j_callV (ws' := ([n_Reader g a q12.1, n_Tape g (fun i => a (i + 3)) ta_z, n_Kinds g b ki_z] : List va_W)) (As := [.int 2]) (rest := []) (st2 := [.int q12.2]) hE (fun l => c_Reader_stop l g a re_z ta_z 2 q12 hc13) cd_X7_stop cv_X7_stop ml_Reader_99 rfl rfl rfl (wg_Reader_0 _ _ _) ⟨⟨Nat.le_of_ble_eq_true rfl, Nat.le_of_ble_eq_true rfl⟩, ⟨Nat.zero_le _, Nat.zero_le _⟩, rfl, rfl⟩ [0, 1] rfl rfl rfl (Nat.le_of_ble_eq_true rfl) rfl dX7_readName_64 ?_
          obtain ⟨b14, hf⟩ := bz_of hf
          obtain rfl := Option.some.inj hf
          exact j_zret_c hE b14 hq rfl rfl dX7_readName_67
        · refine j_iload_n hE dX7_readName_56 rfl 2 rfl ?_
          refine j_aload_n hE dX7_readName_57 rfl 1 rfl ?_
          refine j_alen (v := 5) (t0 := 1) hE 2 rfl 1 (wg_Kinds_1 g b ki_z) rfl rfl dX7_readName_58 ?_
          refine j_icmp_lt (tgt := 68) hE hf dX7_readName_59 (by decide) (fun c15 hf => ?_) (fun c15 hf => ?_)
          · refine j_aload_n hE dX7_readName_68 rfl 1 rfl ?_
            refine j_iload_n hE dX7_readName_69 rfl 2 rfl ?_
            refine j_aload_n hE dX7_readName_70 rfl 0 rfl ?_
            refine j_get (v := .ref (a 3)) hE lg_Reader_12 0 rfl 0 (wg_Reader_0 g a re_z) rfl dX7_readName_71 ?_
            refine j_get (v := .int (ta_z 5 0)) hE lg_Reader_181 1 rfl 0 (wg_Tape_0 g (fun i => a (i + 3)) ta_z) rfl dX7_readName_74 ?_
            refine j_iast (ws' := ([n_Reader g a re_z, n_Tape g (fun i => a (i + 3)) ta_z, n_Kinds g b (up2 ki_z 2 (Int32.toNatClampNeg x2) (ta_z 5 0))] : List va_W)) hE hf 2 rfl 1 (wg_Kinds_1 g b ki_z) (wa_Kinds_1 g b ki_z (Int32.toNatClampNeg x2) (ta_z 5 0)) rfl dX7_readName_77 (fun hf => ?_)
            refine j_aload_n hE dX7_readName_78 rfl 0 rfl ?_
            refine j_get (v := .ref (a 3)) hE lg_Reader_12 0 rfl 0 (wg_Reader_0 g a re_z) rfl dX7_readName_79 ?_
            obtain ⟨q16, hc17, hf⟩ := bind_of hf
            refine j_callV (ws' := ([n_Reader g a re_z, n_Tape g (fun i => a (i + 3)) q16, n_Kinds g b (up2 ki_z 2 (Int32.toNatClampNeg x2) (ta_z 5 0))] : List va_W)) (As := []) (rest := []) (st2 := []) hE (fun l => c_Tape_step l g (fun i => a (i + 3)) ta_z q16 hc17) cd_X10_step cv_X10_step ml_Reader_112 rfl rfl rfl (wg_Tape_0 _ _ _) ⟨⟨Nat.le_of_ble_eq_true rfl, Nat.le_of_ble_eq_true rfl⟩, ⟨Nat.zero_le _, Nat.zero_le _⟩, rfl, rfl⟩ [1] rfl rfl rfl (Nat.le_of_ble_eq_true rfl) rfl dX7_readName_82 ?_
            refine j_iconst (v := 1) hE dX7_readName_85 (by decide) ?_
            obtain rfl := Option.some.inj hf
            exact j_zret_c hE (Or.inr rfl) hq rfl rfl dX7_readName_86
          · refine j_aload_n hE dX7_readName_62 rfl 0 rfl ?_
            refine j_iconst (v := 2) hE dX7_readName_63 (by decide) ?_
            obtain ⟨q18, hc19, hf⟩ := bind_of hf
            refine j_callV (ws' := ([n_Reader g a q18.1, n_Tape g (fun i => a (i + 3)) ta_z, n_Kinds g b ki_z] : List va_W)) (As := [.int 2]) (rest := []) (st2 := [.int q18.2]) hE (fun l => c_Reader_stop l g a re_z ta_z 2 q18 hc19) cd_X7_stop cv_X7_stop ml_Reader_99 rfl rfl rfl (wg_Reader_0 _ _ _) ⟨⟨Nat.le_of_ble_eq_true rfl, Nat.le_of_ble_eq_true rfl⟩, ⟨Nat.zero_le _, Nat.zero_le _⟩, rfl, rfl⟩ [0, 1] rfl rfl rfl (Nat.le_of_ble_eq_true rfl) rfl dX7_readName_64 ?_
            obtain ⟨b20, hf⟩ := bz_of hf
            obtain rfl := Option.some.inj hf
            exact j_zret_c hE b20 hq rfl rfl dX7_readName_67
      · refine j_aload_n hE dX7_readName_46 rfl 0 rfl ?_
        refine j_iconst (v := 3) hE dX7_readName_47 (by decide) ?_
        obtain ⟨q21, hc22, hf⟩ := bind_of hf
        refine j_callV (ws' := ([n_Reader g a q21.1, n_Tape g (fun i => a (i + 3)) ta_z, n_Kinds g b ki_z] : List va_W)) (As := [.int 3]) (rest := []) (st2 := [.int q21.2]) hE (fun l => c_Reader_stop l g a re_z ta_z 3 q21 hc22) cd_X7_stop cv_X7_stop ml_Reader_99 rfl rfl rfl (wg_Reader_0 _ _ _) ⟨⟨Nat.le_of_ble_eq_true rfl, Nat.le_of_ble_eq_true rfl⟩, ⟨Nat.zero_le _, Nat.zero_le _⟩, rfl, rfl⟩ [0, 1] rfl rfl rfl (Nat.le_of_ble_eq_true rfl) rfl dX7_readName_48 ?_
        obtain ⟨b23, hf⟩ := bz_of hf
        obtain rfl := Option.some.inj hf
        exact j_zret_c hE b23 hq rfl rfl dX7_readName_51
    · refine j_aload_n hE dX7_readName_24 rfl 0 rfl ?_
      refine j_iconst (v := 1) hE dX7_readName_25 (by decide) ?_
      obtain ⟨q24, hc25, hf⟩ := bind_of hf
      refine j_callV (ws' := ([n_Reader g a q24.1, n_Tape g (fun i => a (i + 3)) ta_z, n_Kinds g b ki_z] : List va_W)) (As := [.int 1]) (rest := []) (st2 := [.int q24.2]) hE (fun l => c_Reader_stop l g a re_z ta_z 1 q24 hc25) cd_X7_stop cv_X7_stop ml_Reader_99 rfl rfl rfl (wg_Reader_0 _ _ _) ⟨⟨Nat.le_of_ble_eq_true rfl, Nat.le_of_ble_eq_true rfl⟩, ⟨Nat.zero_le _, Nat.zero_le _⟩, rfl, rfl⟩ [0, 1] rfl rfl rfl (Nat.le_of_ble_eq_true rfl) rfl dX7_readName_26 ?_
      obtain ⟨b26, hf⟩ := bz_of hf
      obtain rfl := Option.some.inj hf
      exact j_zret_c hE b26 hq rfl rfl dX7_readName_29
def rm_Reader_readKind : Room := { frames := 3, cells := 0, slots := 0, locals := 66 }
def f_Reader_readKind_59    : Nat → jZ → jZ → jZ → Int32 → Int32 → Int32 → Option (jZ × jZ × jZ × Int32)
  | 0, _, _, _, _, _, _ => none
  | n + 1, re_z, ta_z, ki_z, v2, v3, v4 => (if 10 ≤ v4 then (ix v2 5).bind fun _ => some (re_z, ta_z, (up2 (up2 (up2 ki_z 3 (Int32.toNatClampNeg v2) v3) 1 0 ((ki_z 1 0) + v3)) 0 0 (v2 + 1)), 1)
    else (f_Reader_readNumber re_z ta_z 0 9).bind fun q18 => (if q18.2.2 = (-1) then some (q18.1, q18.2.1, ki_z, 0)
    else (f_Kinds_putFace ki_z v2 v4 q18.2.2).bind fun q21 => f_Reader_readKind_59  n q18.1 q18.2.1 q21 v2 v3 (v4 + 1)))
def f_Reader_readKind (re_z : jZ) (ta_z : jZ) (ki_z : jZ)  : Option (jZ × jZ × jZ × Int32) := (if (ki_z 0 0) < 0 then (f_Reader_stop re_z ta_z 2).bind fun q2 => (bz q2.2).bind fun _ => some (q2.1, ta_z, ki_z, q2.2)
    else (if (ki_z 0 0) < 5 then (f_Tape_step ta_z).bind fun q6 => (f_Reader_readNameKinds_names re_z q6 ki_z (ki_z 0 0)).bind fun q8 => (if q8.2.2.2 = 0 then some (q8.1, q8.2.1, q8.2.2.1, 0)
    else (f_Reader_readNumber q8.1 q8.2.1 1 99).bind fun q11 => (if q11.2.2 = (-1) then some (q11.1, q11.2.1, q8.2.2.1, 0)
    else f_Reader_readKind_59 FU q11.1 q11.2.1 q8.2.2.1 (ki_z 0 0) q11.2.2 0))
    else (f_Reader_stop re_z ta_z 2).bind fun q14 => (bz q14.2).bind fun _ => some (q14.1, ta_z, ki_z, q14.2)))
set_option maxRecDepth 100000 in
theorem j_Reader_readKind_59 (E : jT) (g : jG) (a : Nat → Nat) (b : Nat → Nat)   (res : jZ × jZ × jZ × Int32) (hE : jOk E g RX7 cX7_readKind 6 (some .boolean) rm_Reader_readKind) (hq : jEnd E g (some (.int res.2.2.2)) (([n_Reader g a res.1, n_Tape g (fun i => a (i + 3)) res.2.1, n_Kinds g b res.2.2.1] : List va_W)) 0 0)  : ∀ (n : Nat) (re_z : jZ) (ta_z : jZ) (ki_z : jZ) (v2 : Int32) (v3 : Int32) (v4 : Int32), f_Reader_readKind_59 n re_z ta_z ki_z v2 v3 v4 = some res → J E g 0 0 (([n_Reader g a re_z, n_Tape g (fun i => a (i + 3)) ta_z, n_Kinds g b ki_z] : List va_W)) [(0, .ref (a 0)), (1, .ref (b 0)), (2, .int v2), (3, .int v3), (4, .int v4)] 59 [] := by
  intro n
  induction n with
  | zero =>
    intro re_z ta_z ki_z v2 v3 v4 hf
    rw [f_Reader_readKind_59] at hf
    cases hf
  | succ n ih =>
    intro re_z ta_z ki_z v2 v3 v4 hf
    rw [f_Reader_readKind_59] at hf
    refine j_iload hE dX7_readKind_59 4 rfl ?_
    refine j_bipush (v := 10) hE dX7_readKind_61 (by decide) ?_
    refine j_icmp_ge (tgt := 98) hE hf dX7_readKind_63 (by decide) (fun c17 hf => ?_) (fun c17 hf => ?_)
    · refine j_aload_n hE dX7_readKind_98 rfl 1 rfl ?_
      refine j_get (v := .ref (b 2)) hE lg_Reader_135 2 rfl 0 (wg_Kinds_0 g b ki_z) rfl dX7_readKind_99 ?_
      refine j_iload_n hE dX7_readKind_102 rfl 2 rfl ?_
      refine j_iload_n hE dX7_readKind_103 rfl 3 rfl ?_
      refine j_iast (ws' := ([n_Reader g a re_z, n_Tape g (fun i => a (i + 3)) ta_z, n_Kinds g b (up2 ki_z 3 (Int32.toNatClampNeg v2) v3)] : List va_W)) hE hf 2 rfl 2 (wg_Kinds_2 g b ki_z) (wa_Kinds_2 g b ki_z (Int32.toNatClampNeg v2) v3) rfl dX7_readKind_104 (fun hf => ?_)
      refine j_aload_n hE dX7_readKind_105 rfl 1 rfl ?_
      refine j_dup hE dX7_readKind_106 rfl ?_
      refine j_get (v := .int (ki_z 1 0)) hE lg_Reader_138 2 rfl 0 (wg_Kinds_0 g b (up2 ki_z 3 (Int32.toNatClampNeg v2) v3)) rfl dX7_readKind_107 ?_
      refine j_iload_n hE dX7_readKind_110 rfl 3 rfl ?_
      refine j_iadd hE dX7_readKind_111 ?_
      refine j_put (v := .int ((ki_z 1 0) + v3)) (ws' := ([n_Reader g a re_z, n_Tape g (fun i => a (i + 3)) ta_z, n_Kinds g b (up2 (up2 ki_z 3 (Int32.toNatClampNeg v2) v3) 1 0 ((ki_z 1 0) + v3))] : List va_W)) hE lp_Reader_138 2 rfl 0 (wg_Kinds_0 g b (up2 ki_z 3 (Int32.toNatClampNeg v2) v3)) rfl rfl (Nat.le_of_ble_eq_true rfl) (wp_Kinds_1 g b (up2 ki_z 3 (Int32.toNatClampNeg v2) v3) ((ki_z 1 0) + v3)) rfl dX7_readKind_112 ?_
      refine j_aload_n hE dX7_readKind_115 rfl 1 rfl ?_
      refine j_iload_n hE dX7_readKind_116 rfl 2 rfl ?_
      refine j_iconst (v := 1) hE dX7_readKind_117 (by decide) ?_
      refine j_iadd hE dX7_readKind_118 ?_
      refine j_put (v := .int (v2 + 1)) (ws' := ([n_Reader g a re_z, n_Tape g (fun i => a (i + 3)) ta_z, n_Kinds g b (up2 (up2 (up2 ki_z 3 (Int32.toNatClampNeg v2) v3) 1 0 ((ki_z 1 0) + v3)) 0 0 (v2 + 1))] : List va_W)) hE lp_Reader_115 2 rfl 0 (wg_Kinds_0 g b (up2 (up2 ki_z 3 (Int32.toNatClampNeg v2) v3) 1 0 ((ki_z 1 0) + v3))) rfl rfl (Nat.le_of_ble_eq_true rfl) (wp_Kinds_0 g b (up2 (up2 ki_z 3 (Int32.toNatClampNeg v2) v3) 1 0 ((ki_z 1 0) + v3)) (v2 + 1)) rfl dX7_readKind_119 ?_
      refine j_iconst (v := 1) hE dX7_readKind_122 (by decide) ?_
      obtain rfl := Option.some.inj hf
      exact j_zret_c hE (Or.inr rfl) hq rfl rfl dX7_readKind_123
    · refine j_aload_n hE dX7_readKind_66 rfl 0 rfl ?_
      refine j_iconst (v := 0) hE dX7_readKind_67 (by decide) ?_
      refine j_bipush (v := 9) hE dX7_readKind_68 (by decide) ?_
      obtain ⟨q18, hc19, hf⟩ := bind_of hf
      refine j_callV (ws' := ([n_Reader g a q18.1, n_Tape g (fun i => a (i + 3)) q18.2.1, n_Kinds g b ki_z] : List va_W)) (As := [.int 0, .int 9]) (rest := []) (st2 := [.int q18.2.2]) hE (fun l => c_Reader_readNumber l g a re_z ta_z 0 9 q18 hc19) cd_X7_readNumber cv_X7_readNumber ml_Reader_127 rfl rfl rfl (wg_Reader_0 _ _ _) ⟨⟨Nat.le_of_ble_eq_true rfl, Nat.le_of_ble_eq_true rfl⟩, ⟨Nat.zero_le _, Nat.zero_le _⟩, rfl, rfl⟩ [0, 1] rfl rfl rfl (Nat.le_of_ble_eq_true rfl) rfl dX7_readKind_70 ?_
      refine j_istore (lv' := [(5, .int q18.2.2), (0, .ref (a 0)), (1, .ref (b 0)), (2, .int v2), (3, .int v3), (4, .int v4)]) hE dX7_readKind_73 (by decide) rfl ?_
      refine j_iload hE dX7_readKind_75 0 rfl ?_
      refine j_iconst (v := (-1)) hE dX7_readKind_77 (by decide) ?_
      refine j_icmp_ne (tgt := 83) hE hf dX7_readKind_78 (by decide) (fun c20 hf => ?_) (fun c20 hf => ?_)
      · refine j_aload_n hE dX7_readKind_83 rfl 2 rfl ?_
        refine j_iload_n hE dX7_readKind_84 rfl 3 rfl ?_
        refine j_iload hE dX7_readKind_85 5 rfl ?_
        refine j_iload hE dX7_readKind_87 0 rfl ?_
        obtain ⟨q21, hc22, hf⟩ := bind_of hf
        refine j_callV (ws' := ([n_Reader g a q18.1, n_Tape g (fun i => a (i + 3)) q18.2.1, n_Kinds g b q21] : List va_W)) (As := [.int v2, .int v4, .int q18.2.2]) (rest := []) (st2 := []) hE (fun l => c_Kinds_putFace l g b ki_z v2 v4 q18.2.2 q21 hc22) cd_X2_putFace cv_X2_putFace ml_Reader_131 rfl rfl rfl (wg_Kinds_0 _ _ _) ⟨⟨Nat.le_of_ble_eq_true rfl, Nat.le_of_ble_eq_true rfl⟩, ⟨Nat.zero_le _, Nat.zero_le _⟩, rfl, rfl⟩ [2] rfl rfl rfl (Nat.le_of_ble_eq_true rfl) rfl dX7_readKind_89 ?_
        refine j_iinc (v := (v4 + 1)) (lv' := [(4, .int (v4 + 1)), (5, .int q18.2.2), (0, .ref (a 0)), (1, .ref (b 0)), (2, .int v2), (3, .int v3)]) hE dX7_readKind_92 5 rfl rfl (by decide) rfl ?_
        refine j_goto (tgt := 59) hE dX7_readKind_95 (by decide) ?_
        exact j_sub [2, 3, 4, 5, 0] rfl (ih q18.1 q18.2.1 q21 v2 v3 (v4 + 1) hf)
      · refine j_iconst (v := 0) hE dX7_readKind_81 (by decide) ?_
        obtain rfl := Option.some.inj hf
        exact j_zret_c hE (Or.inl rfl) hq rfl rfl dX7_readKind_82
set_option maxRecDepth 100000 in
theorem c_Reader_readKind (l : Launch) (g : jG) (a : Nat → Nat) (b : Nat → Nat) (re_z : jZ) (ta_z : jZ) (ki_z : jZ)  (res : jZ × jZ × jZ × Int32) (hf : f_Reader_readKind re_z ta_z ki_z = some res) : MC l g yX7_readKind cX7_readKind 6 (some .boolean) rm_Reader_readKind [.ref (a 0), .ref (b 0)] (([n_Reader g a re_z, n_Tape g (fun i => a (i + 3)) ta_z, n_Kinds g b ki_z] : List va_W)) (some (.int res.2.2.2)) (([n_Reader g a res.1, n_Tape g (fun i => a (i + 3)) res.2.1, n_Kinds g b res.2.2.1] : List va_W)) 0 0 := by
  refine MC_of (own := RX7) (lv := [(0, .ref (a 0)), (1, .ref (b 0))]) (by decide) rfl (Nat.le_of_ble_eq_true rfl) rfl rfl (fun E hE hq => ?_)
  unfold f_Reader_readKind at hf
  refine j_aload_n hE dX7_readKind_0 rfl 1 rfl ?_
  refine j_get (v := .int (ki_z 0 0)) hE lg_Reader_115 2 rfl 0 (wg_Kinds_0 g b ki_z) rfl dX7_readKind_1 ?_
  refine j_istore_n (lv' := [(2, .int (ki_z 0 0)), (0, .ref (a 0)), (1, .ref (b 0))]) hE dX7_readKind_4 rfl (by decide) rfl ?_
  refine j_iload_n hE dX7_readKind_5 rfl 0 rfl ?_
  refine j_if_lt (tgt := 14) hE hf dX7_readKind_6 (by decide) (fun c1 hf => ?_) (fun c1 hf => ?_)
  · refine j_aload_n hE dX7_readKind_14 rfl 1 rfl ?_
    refine j_iconst (v := 2) hE dX7_readKind_15 (by decide) ?_
    obtain ⟨q2, hc3, hf⟩ := bind_of hf
    refine j_callV (ws' := ([n_Reader g a q2.1, n_Tape g (fun i => a (i + 3)) ta_z, n_Kinds g b ki_z] : List va_W)) (As := [.int 2]) (rest := []) (st2 := [.int q2.2]) hE (fun l => c_Reader_stop l g a re_z ta_z 2 q2 hc3) cd_X7_stop cv_X7_stop ml_Reader_99 rfl rfl rfl (wg_Reader_0 _ _ _) ⟨⟨Nat.le_of_ble_eq_true rfl, Nat.le_of_ble_eq_true rfl⟩, ⟨Nat.zero_le _, Nat.zero_le _⟩, rfl, rfl⟩ [0, 1] rfl rfl rfl (Nat.le_of_ble_eq_true rfl) rfl dX7_readKind_16 ?_
    obtain ⟨b4, hf⟩ := bz_of hf
    obtain rfl := Option.some.inj hf
    exact j_zret_c hE b4 hq rfl rfl dX7_readKind_19
  · refine j_iload_n hE dX7_readKind_9 rfl 0 rfl ?_
    refine j_iconst (v := 5) hE dX7_readKind_10 (by decide) ?_
    refine j_icmp_lt (tgt := 20) hE hf dX7_readKind_11 (by decide) (fun c5 hf => ?_) (fun c5 hf => ?_)
    · refine j_aload_n hE dX7_readKind_20 rfl 1 rfl ?_
      refine j_get (v := .ref (a 3)) hE lg_Reader_12 0 rfl 0 (wg_Reader_0 g a re_z) rfl dX7_readKind_21 ?_
      obtain ⟨q6, hc7, hf⟩ := bind_of hf
      refine j_callV (ws' := ([n_Reader g a re_z, n_Tape g (fun i => a (i + 3)) q6, n_Kinds g b ki_z] : List va_W)) (As := []) (rest := []) (st2 := []) hE (fun l => c_Tape_step l g (fun i => a (i + 3)) ta_z q6 hc7) cd_X10_step cv_X10_step ml_Reader_112 rfl rfl rfl (wg_Tape_0 _ _ _) ⟨⟨Nat.le_of_ble_eq_true rfl, Nat.le_of_ble_eq_true rfl⟩, ⟨Nat.zero_le _, Nat.zero_le _⟩, rfl, rfl⟩ [1] rfl rfl rfl (Nat.le_of_ble_eq_true rfl) rfl dX7_readKind_24 ?_
      refine j_aload_n hE dX7_readKind_27 rfl 1 rfl ?_
      refine j_aload_n hE dX7_readKind_28 rfl 2 rfl ?_
      refine j_get (v := .ref (b 1)) hE lg_Reader_120 2 rfl 0 (wg_Kinds_0 g b ki_z) rfl dX7_readKind_29 ?_
      refine j_iload_n hE dX7_readKind_32 rfl 0 rfl ?_
      obtain ⟨q8, hc9, hf⟩ := bind_of hf
      refine j_callV (ws' := ([n_Reader g a q8.1, n_Tape g (fun i => a (i + 3)) q8.2.1, n_Kinds g b q8.2.2.1] : List va_W)) (As := [.ref (b 1), .int (ki_z 0 0)]) (rest := []) (st2 := [.int q8.2.2.2]) hE (fun l => c_Reader_readNameKinds_names l g a b re_z q6 ki_z (ki_z 0 0) q8 hc9) cd_X7_readName cv_X7_readName ml_Reader_123 rfl rfl rfl (wg_Reader_0 _ _ _) ⟨⟨Nat.le_of_ble_eq_true rfl, Nat.le_of_ble_eq_true rfl⟩, ⟨Nat.zero_le _, Nat.zero_le _⟩, rfl, rfl⟩ [0, 1, 2] rfl rfl rfl (Nat.le_of_ble_eq_true rfl) rfl dX7_readKind_33 ?_
      refine j_if_ne (tgt := 41) hE hf dX7_readKind_36 (by decide) (fun c10 hf => ?_) (fun c10 hf => ?_)
      · refine j_aload_n hE dX7_readKind_41 rfl 1 rfl ?_
        refine j_iconst (v := 1) hE dX7_readKind_42 (by decide) ?_
        refine j_bipush (v := 99) hE dX7_readKind_43 (by decide) ?_
        obtain ⟨q11, hc12, hf⟩ := bind_of hf
        refine j_callV (ws' := ([n_Reader g a q11.1, n_Tape g (fun i => a (i + 3)) q11.2.1, n_Kinds g b q8.2.2.1] : List va_W)) (As := [.int 1, .int 99]) (rest := []) (st2 := [.int q11.2.2]) hE (fun l => c_Reader_readNumber l g a q8.1 q8.2.1 1 99 q11 hc12) cd_X7_readNumber cv_X7_readNumber ml_Reader_127 rfl rfl rfl (wg_Reader_0 _ _ _) ⟨⟨Nat.le_of_ble_eq_true rfl, Nat.le_of_ble_eq_true rfl⟩, ⟨Nat.zero_le _, Nat.zero_le _⟩, rfl, rfl⟩ [0, 1] rfl rfl rfl (Nat.le_of_ble_eq_true rfl) rfl dX7_readKind_45 ?_
        refine j_istore_n (lv' := [(3, .int q11.2.2), (2, .int (ki_z 0 0)), (0, .ref (a 0)), (1, .ref (b 0))]) hE dX7_readKind_48 rfl (by decide) rfl ?_
        refine j_iload_n hE dX7_readKind_49 rfl 0 rfl ?_
        refine j_iconst (v := (-1)) hE dX7_readKind_50 (by decide) ?_
        refine j_icmp_ne (tgt := 56) hE hf dX7_readKind_51 (by decide) (fun c13 hf => ?_) (fun c13 hf => ?_)
        · refine j_iconst (v := 0) hE dX7_readKind_56 (by decide) ?_
          refine j_istore (lv' := [(4, .int 0), (3, .int q11.2.2), (2, .int (ki_z 0 0)), (0, .ref (a 0)), (1, .ref (b 0))]) hE dX7_readKind_57 (by decide) rfl ?_
          exact j_sub [3, 4, 2, 1, 0] rfl (j_Reader_readKind_59 E g a b res hE hq FU q11.1 q11.2.1 q8.2.2.1 (ki_z 0 0) q11.2.2 0 hf)
        · refine j_iconst (v := 0) hE dX7_readKind_54 (by decide) ?_
          obtain rfl := Option.some.inj hf
          exact j_zret_c hE (Or.inl rfl) hq rfl rfl dX7_readKind_55
      · refine j_iconst (v := 0) hE dX7_readKind_39 (by decide) ?_
        obtain rfl := Option.some.inj hf
        exact j_zret_c hE (Or.inl rfl) hq rfl rfl dX7_readKind_40
    · refine j_aload_n hE dX7_readKind_14 rfl 1 rfl ?_
      refine j_iconst (v := 2) hE dX7_readKind_15 (by decide) ?_
      obtain ⟨q14, hc15, hf⟩ := bind_of hf
      refine j_callV (ws' := ([n_Reader g a q14.1, n_Tape g (fun i => a (i + 3)) ta_z, n_Kinds g b ki_z] : List va_W)) (As := [.int 2]) (rest := []) (st2 := [.int q14.2]) hE (fun l => c_Reader_stop l g a re_z ta_z 2 q14 hc15) cd_X7_stop cv_X7_stop ml_Reader_99 rfl rfl rfl (wg_Reader_0 _ _ _) ⟨⟨Nat.le_of_ble_eq_true rfl, Nat.le_of_ble_eq_true rfl⟩, ⟨Nat.zero_le _, Nat.zero_le _⟩, rfl, rfl⟩ [0, 1] rfl rfl rfl (Nat.le_of_ble_eq_true rfl) rfl dX7_readKind_16 ?_
      obtain ⟨b16, hf⟩ := bz_of hf
      obtain rfl := Option.some.inj hf
      exact j_zret_c hE b16 hq rfl rfl dX7_readKind_19
def rm_Reader_readEnd : Room := { frames := 2, cells := 0, slots := 0, locals := 43 }
def f_Reader_readEnd (re_z : jZ) (ta_z : jZ)  : Option (jZ × jZ × Int32) := (f_Tape_isSign ta_z 59).bind fun q1 => (if q1 = 0 then (f_Reader_stop re_z ta_z 1).bind fun q6 => (bz q6.2).bind fun _ => some (q6.1, ta_z, q6.2)
    else (f_Tape_step ta_z).bind fun q4 => some (re_z, q4, 1))
set_option maxRecDepth 100000 in
theorem c_Reader_readEnd (l : Launch) (g : jG) (a : Nat → Nat) (re_z : jZ) (ta_z : jZ)  (res : jZ × jZ × Int32) (hf : f_Reader_readEnd re_z ta_z = some res) : MC l g yX7_readEnd cX7_readEnd 1 (some .boolean) rm_Reader_readEnd [.ref (a 0)] (([n_Reader g a re_z, n_Tape g (fun i => a (i + 3)) ta_z] : List va_W)) (some (.int res.2.2)) (([n_Reader g a res.1, n_Tape g (fun i => a (i + 3)) res.2.1] : List va_W)) 0 0 := by
  refine MC_of (own := RX7) (lv := [(0, .ref (a 0))]) (by decide) rfl (Nat.le_of_ble_eq_true rfl) rfl rfl (fun E hE hq => ?_)
  unfold f_Reader_readEnd at hf
  refine j_aload_n hE dX7_readEnd_0 rfl 0 rfl ?_
  refine j_get (v := .ref (a 3)) hE lg_Reader_12 0 rfl 0 (wg_Reader_0 g a re_z) rfl dX7_readEnd_1 ?_
  refine j_bipush (v := 59) hE dX7_readEnd_4 (by decide) ?_
  obtain ⟨q1, hc2, hf⟩ := bind_of hf
  refine j_callV (ws' := ([n_Reader g a re_z, n_Tape g (fun i => a (i + 3)) ta_z] : List va_W)) (As := [.int 59]) (rest := []) (st2 := [.int q1]) hE (fun l => c_Tape_isSign l g (fun i => a (i + 3)) ta_z 59 q1 hc2) cd_X10_isSign cv_X10_isSign ml_Reader_109 rfl rfl rfl (wg_Tape_0 _ _ _) ⟨⟨Nat.le_of_ble_eq_true rfl, Nat.le_of_ble_eq_true rfl⟩, ⟨Nat.zero_le _, Nat.zero_le _⟩, rfl, rfl⟩ [1] rfl rfl rfl (Nat.le_of_ble_eq_true rfl) rfl dX7_readEnd_6 ?_
  refine j_if_ne (tgt := 18) hE hf dX7_readEnd_9 (by decide) (fun c3 hf => ?_) (fun c3 hf => ?_)
  · refine j_aload_n hE dX7_readEnd_18 rfl 0 rfl ?_
    refine j_get (v := .ref (a 3)) hE lg_Reader_12 0 rfl 0 (wg_Reader_0 g a re_z) rfl dX7_readEnd_19 ?_
    obtain ⟨q4, hc5, hf⟩ := bind_of hf
    refine j_callV (ws' := ([n_Reader g a re_z, n_Tape g (fun i => a (i + 3)) q4] : List va_W)) (As := []) (rest := []) (st2 := []) hE (fun l => c_Tape_step l g (fun i => a (i + 3)) ta_z q4 hc5) cd_X10_step cv_X10_step ml_Reader_112 rfl rfl rfl (wg_Tape_0 _ _ _) ⟨⟨Nat.le_of_ble_eq_true rfl, Nat.le_of_ble_eq_true rfl⟩, ⟨Nat.zero_le _, Nat.zero_le _⟩, rfl, rfl⟩ [1] rfl rfl rfl (Nat.le_of_ble_eq_true rfl) rfl dX7_readEnd_22 ?_
    refine j_iconst (v := 1) hE dX7_readEnd_25 (by decide) ?_
    obtain rfl := Option.some.inj hf
    exact j_zret_c hE (Or.inr rfl) hq rfl rfl dX7_readEnd_26
  · refine j_aload_n hE dX7_readEnd_12 rfl 0 rfl ?_
    refine j_iconst (v := 1) hE dX7_readEnd_13 (by decide) ?_
    obtain ⟨q6, hc7, hf⟩ := bind_of hf
    refine j_callV (ws' := ([n_Reader g a q6.1, n_Tape g (fun i => a (i + 3)) ta_z] : List va_W)) (As := [.int 1]) (rest := []) (st2 := [.int q6.2]) hE (fun l => c_Reader_stop l g a re_z ta_z 1 q6 hc7) cd_X7_stop cv_X7_stop ml_Reader_99 rfl rfl rfl (wg_Reader_0 _ _ _) ⟨⟨Nat.le_of_ble_eq_true rfl, Nat.le_of_ble_eq_true rfl⟩, ⟨Nat.zero_le _, Nat.zero_le _⟩, rfl, rfl⟩ [0, 1] rfl rfl rfl (Nat.le_of_ble_eq_true rfl) rfl dX7_readEnd_14 ?_
    obtain ⟨b8, hf⟩ := bz_of hf
    obtain rfl := Option.some.inj hf
    exact j_zret_c hE b8 hq rfl rfl dX7_readEnd_17
def rm_Reader_read : Room := { frames := 5, cells := 0, slots := 0, locals := 114 }
def f_Reader_read_164  (x1 : Int32) (k24 : jZ → jZ → jZ → jZ → jZ → jZ → Int32 → Option (jZ × jZ × jZ × jZ × jZ × jZ × Int32)) (re_z : jZ) (ta_z : jZ) (ro_z : jZ) (ki_z : jZ) (ru_z : jZ) (no_z : jZ) (v3 : Int32) (v4 : Int32) : Option (jZ × jZ × jZ × jZ × jZ × jZ × Int32) := (if v4 = 0 then some (re_z, ta_z, ro_z, ki_z, ru_z, no_z, 0)
    else (f_Reader_readEnd re_z ta_z).bind fun q34 => (if q34.2.2 = 0 then some (q34.1, q34.2.1, ro_z, ki_z, ru_z, no_z, 0)
    else k24 q34.1 q34.2.1 (up2 ro_z 3 0 ((ro_z 3 0) + 1)) ki_z ru_z no_z (v3 + 1)))
def f_Reader_read_24  (x1 : Int32)  : Nat → jZ → jZ → jZ → jZ → jZ → jZ → Int32 → Option (jZ × jZ × jZ × jZ × jZ × jZ × Int32)
  | 0, _, _, _, _, _, _, _ => none
  | n + 1, re_z, ta_z, ro_z, ki_z, ru_z, no_z, v3 => (if 600 ≤ v3 then some (re_z, ta_z, ro_z, ki_z, ru_z, no_z, 1)
    else (if (ta_z 4 0) = 0 then some (re_z, ta_z, ro_z, ki_z, ru_z, no_z, 1)
    else (f_Tape_isWord ta_z 378998784).bind fun q7 => (if q7 = 0 then (f_Tape_isWord ta_z 549489824).bind fun q10 => (if q10 = 0 then (f_Tape_isWord ta_z 672502784).bind fun q13 => (if q13 = 0 then (f_Tape_isWord ta_z 639309408).bind fun q16 => (if q16 = 0 then (f_Reader_stop re_z ta_z 1).bind fun q19 => f_Reader_read_164 x1 (fun re_z ta_z ro_z ki_z ru_z no_z v3 => f_Reader_read_24 x1 n re_z ta_z ro_z ki_z ru_z no_z v3) q19.1 ta_z ro_z ki_z ru_z no_z v3 q19.2
    else (f_Reader_readSaves re_z ta_z ro_z).bind fun q21 => f_Reader_read_164 x1 (fun re_z ta_z ro_z ki_z ru_z no_z v3 => f_Reader_read_24 x1 n re_z ta_z ro_z ki_z ru_z no_z v3) q21.1 q21.2.1 q21.2.2.1 ki_z ru_z no_z v3 q21.2.2.2)
    else (f_Reader_readTake re_z ta_z ru_z).bind fun q23 => f_Reader_read_164 x1 (fun re_z ta_z ro_z ki_z ru_z no_z v3 => f_Reader_read_24 x1 n re_z ta_z ro_z ki_z ru_z no_z v3) q23.1 q23.2.1 ro_z ki_z q23.2.2.1 no_z v3 q23.2.2.2)
    else (f_Reader_readPlace re_z ta_z ro_z).bind fun q25 => (if q25.2.2.2 = 0 then f_Reader_read_164 x1 (fun re_z ta_z ro_z ki_z ru_z no_z v3 => f_Reader_read_24 x1 n re_z ta_z ro_z ki_z ru_z no_z v3) q25.1 q25.2.1 q25.2.2.1 ki_z ru_z no_z v3 0
    else (f_Reader_readMore q25.1 q25.2.1 q25.2.2.1 ((q25.2.2.1 7 0) - 1)).bind fun q28 => (if q28.2.2.2 = 0 then f_Reader_read_164 x1 (fun re_z ta_z ro_z ki_z ru_z no_z v3 => f_Reader_read_24 x1 n re_z ta_z ro_z ki_z ru_z no_z v3) q28.1 q28.2.1 q28.2.2.1 ki_z ru_z no_z v3 0
    else f_Reader_read_164 x1 (fun re_z ta_z ro_z ki_z ru_z no_z v3 => f_Reader_read_24 x1 n re_z ta_z ro_z ki_z ru_z no_z v3) q28.1 q28.2.1 q28.2.2.1 ki_z ru_z no_z v3 1)))
    else (f_Reader_readKind re_z ta_z ki_z).bind fun q31 => f_Reader_read_164 x1 (fun re_z ta_z ro_z ki_z ru_z no_z v3 => f_Reader_read_24 x1 n re_z ta_z ro_z ki_z ru_z no_z v3) q31.1 q31.2.1 ro_z q31.2.2.1 ru_z no_z v3 q31.2.2.2)))
def f_Reader_read (re_z : jZ) (ta_z : jZ) (ro_z : jZ) (ki_z : jZ) (ru_z : jZ) (no_z : jZ) (x1 : Int32) : Option (jZ × jZ × jZ × jZ × jZ × jZ × Int32) := (f_Road_clear ro_z ki_z ru_z no_z).bind fun q1 => (f_Tape_begin ta_z x1).bind fun q3 => f_Reader_read_24 x1 FU (up2 (up2 re_z 1 0 0) 2 0 (-1)) q3 q1.1 q1.2.1 q1.2.2.1 q1.2.2.2 0
set_option maxRecDepth 100000 in
theorem j_Reader_read_164 (E : jT) (g : jG) (a : Nat → Nat) (b : Nat → Nat) (ru_y : jY) (x1 : Int32) (res : jZ × jZ × jZ × jZ × jZ × jZ × Int32) (hE : jOk E g RX7 cX7_read 5 (some .boolean) rm_Reader_read) (hq : jEnd E g (some (.int res.2.2.2.2.2.2)) (([n_Reader g a res.1, n_Tape g (fun i => a (i + 3)) res.2.1, n_Road g b res.2.2.1, n_Kinds g (fun i => b (i + 8)) res.2.2.2.1, n_Rule g (fun i => b (i + 14)) res.2.2.2.2.1 ru_y, n_Notes g (fun i => b (i + 17)) res.2.2.2.2.2.1] : List va_W)) 0 0) (k24 : jZ → jZ → jZ → jZ → jZ → jZ → Int32 → Option (jZ × jZ × jZ × jZ × jZ × jZ × Int32)) (hk24 : ∀ (re_z : jZ) (ta_z : jZ) (ro_z : jZ) (ki_z : jZ) (ru_z : jZ) (no_z : jZ) (v3 : Int32), k24 re_z ta_z ro_z ki_z ru_z no_z v3 = some res → J E g 0 0 (([n_Reader g a re_z, n_Tape g (fun i => a (i + 3)) ta_z, n_Road g b ro_z, n_Kinds g (fun i => b (i + 8)) ki_z, n_Rule g (fun i => b (i + 14)) ru_z ru_y, n_Notes g (fun i => b (i + 17)) no_z] : List va_W)) [(0, .ref (a 0)), (2, .ref (b 0)), (3, .int v3)] 24 []) (re_z : jZ) (ta_z : jZ) (ro_z : jZ) (ki_z : jZ) (ru_z : jZ) (no_z : jZ) (v3 : Int32) (v4 : Int32) (hf : f_Reader_read_164 x1 k24 re_z ta_z ro_z ki_z ru_z no_z v3 v4 = some res) : J E g 0 0 (([n_Reader g a re_z, n_Tape g (fun i => a (i + 3)) ta_z, n_Road g b ro_z, n_Kinds g (fun i => b (i + 8)) ki_z, n_Rule g (fun i => b (i + 14)) ru_z ru_y, n_Notes g (fun i => b (i + 17)) no_z] : List va_W)) [(0, .ref (a 0)), (2, .ref (b 0)), (3, .int v3), (4, .int v4)] 164 [] := by
  unfold f_Reader_read_164 at hf
  refine j_iload hE dX7_read_164 3 rfl ?_
  refine j_if_eq (tgt := 176) hE hf dX7_read_166 (by decide) (fun c33 hf => ?_) (fun c33 hf => ?_)
  · refine j_iconst (v := 0) hE dX7_read_176 (by decide) ?_
    obtain rfl := Option.some.inj hf
    exact j_zret_c hE (Or.inl rfl) hq rfl rfl dX7_read_177
  · refine j_aload_n hE dX7_read_169 rfl 0 rfl ?_
    obtain ⟨q34, hc35, hf⟩ := bind_of hf
    refine j_callV (ws' := ([n_Reader g a q34.1, n_Tape g (fun i => a (i + 3)) q34.2.1, n_Road g b ro_z, n_Kinds g (fun i => b (i + 8)) ki_z, n_Rule g (fun i => b (i + 14)) ru_z ru_y, n_Notes g (fun i => b (i + 17)) no_z] : List va_W)) (As := []) (rest := []) (st2 := [.int q34.2.2]) hE (fun l => c_Reader_readEnd l g a re_z ta_z q34 hc35) cd_X7_readEnd cv_X7_readEnd ml_Reader_102 rfl rfl rfl (wg_Reader_0 _ _ _) ⟨⟨Nat.le_of_ble_eq_true rfl, Nat.le_of_ble_eq_true rfl⟩, ⟨Nat.zero_le _, Nat.zero_le _⟩, rfl, rfl⟩ [0, 1] rfl rfl rfl (Nat.le_of_ble_eq_true rfl) rfl dX7_read_170 ?_
    refine j_if_ne (tgt := 178) hE hf dX7_read_173 (by decide) (fun c36 hf => ?_) (fun c36 hf => ?_)
    · refine j_aload_n hE dX7_read_178 rfl 1 rfl ?_
      refine j_dup hE dX7_read_179 rfl ?_
      refine j_get (v := .int (ro_z 3 0)) hE lg_Reader_106 2 rfl 0 (wg_Road_0 g b ro_z) rfl dX7_read_180 ?_
      refine j_iconst (v := 1) hE dX7_read_183 (by decide) ?_
      refine j_iadd hE dX7_read_184 ?_
      refine j_put (v := .int ((ro_z 3 0) + 1)) (ws' := ([n_Reader g a q34.1, n_Tape g (fun i => a (i + 3)) q34.2.1, n_Road g b (up2 ro_z 3 0 ((ro_z 3 0) + 1)), n_Kinds g (fun i => b (i + 8)) ki_z, n_Rule g (fun i => b (i + 14)) ru_z ru_y, n_Notes g (fun i => b (i + 17)) no_z] : List va_W)) hE lp_Reader_106 2 rfl 0 (wg_Road_0 g b ro_z) rfl rfl (Nat.le_of_ble_eq_true rfl) (wp_Road_3 g b ro_z ((ro_z 3 0) + 1)) rfl dX7_read_185 ?_
      refine j_iinc (v := (v3 + 1)) (lv' := [(3, .int (v3 + 1)), (0, .ref (a 0)), (2, .ref (b 0)), (4, .int v4)]) hE dX7_read_188 2 rfl rfl (by decide) rfl ?_
      refine j_goto (tgt := 24) hE dX7_read_191 (by decide) ?_
      exact j_sub [1, 2, 0] rfl (hk24 q34.1 q34.2.1 (up2 ro_z 3 0 ((ro_z 3 0) + 1)) ki_z ru_z no_z (v3 + 1) hf)
    · refine j_iconst (v := 0) hE dX7_read_176 (by decide) ?_
      obtain rfl := Option.some.inj hf
      exact j_zret_c hE (Or.inl rfl) hq rfl rfl dX7_read_177
set_option maxRecDepth 100000 in
theorem j_Reader_read_24 (E : jT) (g : jG) (a : Nat → Nat) (b : Nat → Nat) (ru_y : jY) (x1 : Int32) (res : jZ × jZ × jZ × jZ × jZ × jZ × Int32) (hE : jOk E g RX7 cX7_read 5 (some .boolean) rm_Reader_read) (hq : jEnd E g (some (.int res.2.2.2.2.2.2)) (([n_Reader g a res.1, n_Tape g (fun i => a (i + 3)) res.2.1, n_Road g b res.2.2.1, n_Kinds g (fun i => b (i + 8)) res.2.2.2.1, n_Rule g (fun i => b (i + 14)) res.2.2.2.2.1 ru_y, n_Notes g (fun i => b (i + 17)) res.2.2.2.2.2.1] : List va_W)) 0 0)  : ∀ (n : Nat) (re_z : jZ) (ta_z : jZ) (ro_z : jZ) (ki_z : jZ) (ru_z : jZ) (no_z : jZ) (v3 : Int32), f_Reader_read_24 x1 n re_z ta_z ro_z ki_z ru_z no_z v3 = some res → J E g 0 0 (([n_Reader g a re_z, n_Tape g (fun i => a (i + 3)) ta_z, n_Road g b ro_z, n_Kinds g (fun i => b (i + 8)) ki_z, n_Rule g (fun i => b (i + 14)) ru_z ru_y, n_Notes g (fun i => b (i + 17)) no_z] : List va_W)) [(0, .ref (a 0)), (2, .ref (b 0)), (3, .int v3)] 24 [] := by
  intro n
  induction n with
  | zero =>
    intro re_z ta_z ro_z ki_z ru_z no_z v3 hf
    rw [f_Reader_read_24] at hf
    cases hf
  | succ n ih =>
    intro re_z ta_z ro_z ki_z ru_z no_z v3 hf
    rw [f_Reader_read_24] at hf
    refine j_iload_n hE dX7_read_24 rfl 2 rfl ?_
    refine j_sipush (v := 600) hE dX7_read_25 (by decide) ?_
    refine j_icmp_ge (tgt := 194) hE hf dX7_read_28 (by decide) (fun c5 hf => ?_) (fun c5 hf => ?_)
    · refine j_iconst (v := 1) hE dX7_read_194 (by decide) ?_
      obtain rfl := Option.some.inj hf
      exact j_zret_c hE (Or.inr rfl) hq rfl rfl dX7_read_195
    · refine j_aload_n hE dX7_read_31 rfl 0 rfl ?_
      refine j_get (v := .ref (a 3)) hE lg_Reader_12 0 rfl 0 (wg_Reader_0 g a re_z) rfl dX7_read_32 ?_
      refine j_get (v := .int (ta_z 4 0)) hE lg_Reader_58 1 rfl 0 (wg_Tape_0 g (fun i => a (i + 3)) ta_z) rfl dX7_read_35 ?_
      refine j_if_eq (tgt := 194) hE hf dX7_read_38 (by decide) (fun c6 hf => ?_) (fun c6 hf => ?_)
      · refine j_iconst (v := 1) hE dX7_read_194 (by decide) ?_
        obtain rfl := Option.some.inj hf
        exact j_zret_c hE (Or.inr rfl) hq rfl rfl dX7_read_195
      · refine j_aload_n hE dX7_read_41 rfl 0 rfl ?_
        refine j_get (v := .ref (a 3)) hE lg_Reader_12 0 rfl 0 (wg_Reader_0 g a re_z) rfl dX7_read_42 ?_
        refine j_ldc hE co_Reader_61 dX7_read_45 ?_
        obtain ⟨q7, hc8, hf⟩ := bind_of hf
        refine j_callV (ws' := ([n_Reader g a re_z, n_Tape g (fun i => a (i + 3)) ta_z, n_Road g b ro_z, n_Kinds g (fun i => b (i + 8)) ki_z, n_Rule g (fun i => b (i + 14)) ru_z ru_y, n_Notes g (fun i => b (i + 17)) no_z] : List va_W)) (As := [.int 378998784]) (rest := []) (st2 := [.int q7]) hE (fun l => c_Tape_isWord l g (fun i => a (i + 3)) ta_z 378998784 q7 hc8) cd_X10_isWord cv_X10_isWord ml_Reader_62 rfl rfl rfl (wg_Tape_0 _ _ _) ⟨⟨Nat.le_of_ble_eq_true rfl, Nat.le_of_ble_eq_true rfl⟩, ⟨Nat.zero_le _, Nat.zero_le _⟩, rfl, rfl⟩ [1] rfl rfl rfl (Nat.le_of_ble_eq_true rfl) rfl dX7_read_47 ?_
        refine j_if_eq (tgt := 66) hE hf dX7_read_50 (by decide) (fun c9 hf => ?_) (fun c9 hf => ?_)
        · refine j_aload_n hE dX7_read_66 rfl 0 rfl ?_
          refine j_get (v := .ref (a 3)) hE lg_Reader_12 0 rfl 0 (wg_Reader_0 g a re_z) rfl dX7_read_67 ?_
          refine j_ldc hE co_Reader_74 dX7_read_70 ?_
          obtain ⟨q10, hc11, hf⟩ := bind_of hf
          refine j_callV (ws' := ([n_Reader g a re_z, n_Tape g (fun i => a (i + 3)) ta_z, n_Road g b ro_z, n_Kinds g (fun i => b (i + 8)) ki_z, n_Rule g (fun i => b (i + 14)) ru_z ru_y, n_Notes g (fun i => b (i + 17)) no_z] : List va_W)) (As := [.int 549489824]) (rest := []) (st2 := [.int q10]) hE (fun l => c_Tape_isWord l g (fun i => a (i + 3)) ta_z 549489824 q10 hc11) cd_X10_isWord cv_X10_isWord ml_Reader_62 rfl rfl rfl (wg_Tape_0 _ _ _) ⟨⟨Nat.le_of_ble_eq_true rfl, Nat.le_of_ble_eq_true rfl⟩, ⟨Nat.zero_le _, Nat.zero_le _⟩, rfl, rfl⟩ [1] rfl rfl rfl (Nat.le_of_ble_eq_true rfl) rfl dX7_read_72 ?_
          refine j_if_eq (tgt := 110) hE hf dX7_read_75 (by decide) (fun c12 hf => ?_) (fun c12 hf => ?_)
          · refine j_aload_n hE dX7_read_110 rfl 0 rfl ?_
            refine j_get (v := .ref (a 3)) hE lg_Reader_12 0 rfl 0 (wg_Reader_0 g a re_z) rfl dX7_read_111 ?_
            refine j_ldc hE co_Reader_86 dX7_read_114 ?_
            obtain ⟨q13, hc14, hf⟩ := bind_of hf
            refine j_callV (ws' := ([n_Reader g a re_z, n_Tape g (fun i => a (i + 3)) ta_z, n_Road g b ro_z, n_Kinds g (fun i => b (i + 8)) ki_z, n_Rule g (fun i => b (i + 14)) ru_z ru_y, n_Notes g (fun i => b (i + 17)) no_z] : List va_W)) (As := [.int 672502784]) (rest := []) (st2 := [.int q13]) hE (fun l => c_Tape_isWord l g (fun i => a (i + 3)) ta_z 672502784 q13 hc14) cd_X10_isWord cv_X10_isWord ml_Reader_62 rfl rfl rfl (wg_Tape_0 _ _ _) ⟨⟨Nat.le_of_ble_eq_true rfl, Nat.le_of_ble_eq_true rfl⟩, ⟨Nat.zero_le _, Nat.zero_le _⟩, rfl, rfl⟩ [1] rfl rfl rfl (Nat.le_of_ble_eq_true rfl) rfl dX7_read_116 ?_
            refine j_if_eq (tgt := 135) hE hf dX7_read_119 (by decide) (fun c15 hf => ?_) (fun c15 hf => ?_)
            · refine j_aload_n hE dX7_read_135 rfl 0 rfl ?_
              refine j_get (v := .ref (a 3)) hE lg_Reader_12 0 rfl 0 (wg_Reader_0 g a re_z) rfl dX7_read_136 ?_
              refine j_ldc hE co_Reader_95 dX7_read_139 ?_
              obtain ⟨q16, hc17, hf⟩ := bind_of hf
              refine j_callV (ws' := ([n_Reader g a re_z, n_Tape g (fun i => a (i + 3)) ta_z, n_Road g b ro_z, n_Kinds g (fun i => b (i + 8)) ki_z, n_Rule g (fun i => b (i + 14)) ru_z ru_y, n_Notes g (fun i => b (i + 17)) no_z] : List va_W)) (As := [.int 639309408]) (rest := []) (st2 := [.int q16]) hE (fun l => c_Tape_isWord l g (fun i => a (i + 3)) ta_z 639309408 q16 hc17) cd_X10_isWord cv_X10_isWord ml_Reader_62 rfl rfl rfl (wg_Tape_0 _ _ _) ⟨⟨Nat.le_of_ble_eq_true rfl, Nat.le_of_ble_eq_true rfl⟩, ⟨Nat.zero_le _, Nat.zero_le _⟩, rfl, rfl⟩ [1] rfl rfl rfl (Nat.le_of_ble_eq_true rfl) rfl dX7_read_141 ?_
              refine j_if_eq (tgt := 157) hE hf dX7_read_144 (by decide) (fun c18 hf => ?_) (fun c18 hf => ?_)
              · refine j_aload_n hE dX7_read_157 rfl 0 rfl ?_
                refine j_iconst (v := 1) hE dX7_read_158 (by decide) ?_
                obtain ⟨q19, hc20, hf⟩ := bind_of hf
                refine j_callV (ws' := ([n_Reader g a q19.1, n_Tape g (fun i => a (i + 3)) ta_z, n_Road g b ro_z, n_Kinds g (fun i => b (i + 8)) ki_z, n_Rule g (fun i => b (i + 14)) ru_z ru_y, n_Notes g (fun i => b (i + 17)) no_z] : List va_W)) (As := [.int 1]) (rest := []) (st2 := [.int q19.2]) hE (fun l => c_Reader_stop l g a re_z ta_z 1 q19 hc20) cd_X7_stop cv_X7_stop ml_Reader_99 rfl rfl rfl (wg_Reader_0 _ _ _) ⟨⟨Nat.le_of_ble_eq_true rfl, Nat.le_of_ble_eq_true rfl⟩, ⟨Nat.zero_le _, Nat.zero_le _⟩, rfl, rfl⟩ [0, 1] rfl rfl rfl (Nat.le_of_ble_eq_true rfl) rfl dX7_read_159 ?_
                refine j_istore (lv' := [(4, .int q19.2), (0, .ref (a 0)), (2, .ref (b 0)), (3, .int v3)]) hE dX7_read_162 (by decide) rfl ?_
                exact j_sub [1, 2, 3, 0] rfl (j_Reader_read_164 E g a b ru_y x1 res hE hq (fun re_z ta_z ro_z ki_z ru_z no_z v3 => f_Reader_read_24 x1 n re_z ta_z ro_z ki_z ru_z no_z v3) (fun re_z ta_z ro_z ki_z ru_z no_z v3 hf => ih re_z ta_z ro_z ki_z ru_z no_z v3 hf) q19.1 ta_z ro_z ki_z ru_z no_z v3 q19.2 hf)
              · refine j_aload_n hE dX7_read_147 rfl 0 rfl ?_
                refine j_aload_n hE dX7_read_148 rfl 1 rfl ?_
                obtain ⟨q21, hc22, hf⟩ := bind_of hf
                refine j_callV (ws' := ([n_Reader g a q21.1, n_Tape g (fun i => a (i + 3)) q21.2.1, n_Road g b q21.2.2.1, n_Kinds g (fun i => b (i + 8)) ki_z, n_Rule g (fun i => b (i + 14)) ru_z ru_y, n_Notes g (fun i => b (i + 17)) no_z] : List va_W)) (As := [.ref (b 0)]) (rest := []) (st2 := [.int q21.2.2.2]) hE (fun l => c_Reader_readSaves l g a b re_z ta_z ro_z ki_z ru_z ru_y no_z q21 hc22) cd_X7_readSaves cv_X7_readSaves ml_Reader_96 rfl rfl rfl (wg_Reader_0 _ _ _) ⟨⟨Nat.le_of_ble_eq_true rfl, Nat.le_of_ble_eq_true rfl⟩, ⟨Nat.zero_le _, Nat.zero_le _⟩, rfl, rfl⟩ [0, 1, 2, 3, 4, 5] rfl rfl rfl (Nat.le_of_ble_eq_true rfl) rfl dX7_read_149 ?_
                refine j_istore (lv' := [(4, .int q21.2.2.2), (0, .ref (a 0)), (2, .ref (b 0)), (3, .int v3)]) hE dX7_read_152 (by decide) rfl ?_
                refine j_goto (tgt := 164) hE dX7_read_154 (by decide) ?_
                exact j_sub [1, 2, 3, 0] rfl (j_Reader_read_164 E g a b ru_y x1 res hE hq (fun re_z ta_z ro_z ki_z ru_z no_z v3 => f_Reader_read_24 x1 n re_z ta_z ro_z ki_z ru_z no_z v3) (fun re_z ta_z ro_z ki_z ru_z no_z v3 hf => ih re_z ta_z ro_z ki_z ru_z no_z v3 hf) q21.1 q21.2.1 q21.2.2.1 ki_z ru_z no_z v3 q21.2.2.2 hf)
            · refine j_aload_n hE dX7_read_122 rfl 0 rfl ?_
              refine j_aload_n hE dX7_read_123 rfl 1 rfl ?_
              refine j_get (v := .ref (b 14)) hE lg_Reader_87 2 rfl 0 (wg_Road_0 g b ro_z) rfl dX7_read_124 ?_
              obtain ⟨q23, hc24, hf⟩ := bind_of hf
              refine j_callV (ws' := ([n_Reader g a q23.1, n_Tape g (fun i => a (i + 3)) q23.2.1, n_Road g b ro_z, n_Kinds g (fun i => b (i + 8)) ki_z, n_Rule g (fun i => b (i + 14)) q23.2.2.1 ru_y, n_Notes g (fun i => b (i + 17)) no_z] : List va_W)) (As := [.ref (b 14)]) (rest := []) (st2 := [.int q23.2.2.2]) hE (fun l => c_Reader_readTake l g a (fun i => b (i + 14)) re_z ta_z ru_z ru_y q23 hc24) cd_X7_readTake cv_X7_readTake ml_Reader_91 rfl rfl rfl (wg_Reader_0 _ _ _) ⟨⟨Nat.le_of_ble_eq_true rfl, Nat.le_of_ble_eq_true rfl⟩, ⟨Nat.zero_le _, Nat.zero_le _⟩, rfl, rfl⟩ [0, 1, 4] rfl rfl rfl (Nat.le_of_ble_eq_true rfl) rfl dX7_read_127 ?_
              refine j_istore (lv' := [(4, .int q23.2.2.2), (0, .ref (a 0)), (2, .ref (b 0)), (3, .int v3)]) hE dX7_read_130 (by decide) rfl ?_
              refine j_goto (tgt := 164) hE dX7_read_132 (by decide) ?_
              exact j_sub [1, 2, 3, 0] rfl (j_Reader_read_164 E g a b ru_y x1 res hE hq (fun re_z ta_z ro_z ki_z ru_z no_z v3 => f_Reader_read_24 x1 n re_z ta_z ro_z ki_z ru_z no_z v3) (fun re_z ta_z ro_z ki_z ru_z no_z v3 hf => ih re_z ta_z ro_z ki_z ru_z no_z v3 hf) q23.1 q23.2.1 ro_z ki_z q23.2.2.1 no_z v3 q23.2.2.2 hf)
          · refine j_aload_n hE dX7_read_78 rfl 0 rfl ?_
            refine j_aload_n hE dX7_read_79 rfl 1 rfl ?_
            obtain ⟨q25, hc26, hf⟩ := bind_of hf
            refine j_callV (ws' := ([n_Reader g a q25.1, n_Tape g (fun i => a (i + 3)) q25.2.1, n_Road g b q25.2.2.1, n_Kinds g (fun i => b (i + 8)) ki_z, n_Rule g (fun i => b (i + 14)) ru_z ru_y, n_Notes g (fun i => b (i + 17)) no_z] : List va_W)) (As := [.ref (b 0)]) (rest := []) (st2 := [.int q25.2.2.2]) hE (fun l => c_Reader_readPlace l g a b re_z ta_z ro_z ki_z ru_z ru_y no_z q25 hc26) cd_X7_readPlace cv_X7_readPlace ml_Reader_75 rfl rfl rfl (wg_Reader_0 _ _ _) ⟨⟨Nat.le_of_ble_eq_true rfl, Nat.le_of_ble_eq_true rfl⟩, ⟨Nat.zero_le _, Nat.zero_le _⟩, rfl, rfl⟩ [0, 1, 2, 3, 4, 5] rfl rfl rfl (Nat.le_of_ble_eq_true rfl) rfl dX7_read_80 ?_
            refine j_if_eq (tgt := 104) hE hf dX7_read_83 (by decide) (fun c27 hf => ?_) (fun c27 hf => ?_)
            · refine j_iconst (v := 0) hE dX7_read_104 (by decide) ?_
              refine j_istore (lv' := [(4, .int 0), (0, .ref (a 0)), (2, .ref (b 0)), (3, .int v3)]) hE dX7_read_105 (by decide) rfl ?_
              refine j_goto (tgt := 164) hE dX7_read_107 (by decide) ?_
              exact j_sub [1, 2, 3, 0] rfl (j_Reader_read_164 E g a b ru_y x1 res hE hq (fun re_z ta_z ro_z ki_z ru_z no_z v3 => f_Reader_read_24 x1 n re_z ta_z ro_z ki_z ru_z no_z v3) (fun re_z ta_z ro_z ki_z ru_z no_z v3 hf => ih re_z ta_z ro_z ki_z ru_z no_z v3 hf) q25.1 q25.2.1 q25.2.2.1 ki_z ru_z no_z v3 0 hf)
            · refine j_aload_n hE dX7_read_86 rfl 0 rfl ?_
              refine j_aload_n hE dX7_read_87 rfl 1 rfl ?_
              refine j_aload_n hE dX7_read_88 rfl 1 rfl ?_
              refine j_get (v := .int (q25.2.2.1 7 0)) hE lg_Reader_79 2 rfl 0 (wg_Road_0 g b q25.2.2.1) rfl dX7_read_89 ?_
              refine j_iconst (v := 1) hE dX7_read_92 (by decide) ?_
              refine j_isub hE dX7_read_93 ?_
              obtain ⟨q28, hc29, hf⟩ := bind_of hf
              refine j_callV (ws' := ([n_Reader g a q28.1, n_Tape g (fun i => a (i + 3)) q28.2.1, n_Road g b q28.2.2.1, n_Kinds g (fun i => b (i + 8)) ki_z, n_Rule g (fun i => b (i + 14)) ru_z ru_y, n_Notes g (fun i => b (i + 17)) no_z] : List va_W)) (As := [.ref (b 0), .int ((q25.2.2.1 7 0) - 1)]) (rest := []) (st2 := [.int q28.2.2.2]) hE (fun l => c_Reader_readMore l g a b q25.1 q25.2.1 q25.2.2.1 ki_z ru_z ru_y no_z ((q25.2.2.1 7 0) - 1) q28 hc29) cd_X7_readMore cv_X7_readMore ml_Reader_82 rfl rfl rfl (wg_Reader_0 _ _ _) ⟨⟨Nat.le_of_ble_eq_true rfl, Nat.le_of_ble_eq_true rfl⟩, ⟨Nat.zero_le _, Nat.zero_le _⟩, rfl, rfl⟩ [0, 1, 2, 3, 4, 5] rfl rfl rfl (Nat.le_of_ble_eq_true rfl) rfl dX7_read_94 ?_
              refine j_if_eq (tgt := 104) hE hf dX7_read_97 (by decide) (fun c30 hf => ?_) (fun c30 hf => ?_)
              · refine j_iconst (v := 0) hE dX7_read_104 (by decide) ?_
                refine j_istore (lv' := [(4, .int 0), (0, .ref (a 0)), (2, .ref (b 0)), (3, .int v3)]) hE dX7_read_105 (by decide) rfl ?_
                refine j_goto (tgt := 164) hE dX7_read_107 (by decide) ?_
                exact j_sub [1, 2, 3, 0] rfl (j_Reader_read_164 E g a b ru_y x1 res hE hq (fun re_z ta_z ro_z ki_z ru_z no_z v3 => f_Reader_read_24 x1 n re_z ta_z ro_z ki_z ru_z no_z v3) (fun re_z ta_z ro_z ki_z ru_z no_z v3 hf => ih re_z ta_z ro_z ki_z ru_z no_z v3 hf) q28.1 q28.2.1 q28.2.2.1 ki_z ru_z no_z v3 0 hf)
              · refine j_iconst (v := 1) hE dX7_read_100 (by decide) ?_
                refine j_goto (tgt := 105) hE dX7_read_101 (by decide) ?_
                refine j_istore (lv' := [(4, .int 1), (0, .ref (a 0)), (2, .ref (b 0)), (3, .int v3)]) hE dX7_read_105 (by decide) rfl ?_
                refine j_goto (tgt := 164) hE dX7_read_107 (by decide) ?_
                exact j_sub [1, 2, 3, 0] rfl (j_Reader_read_164 E g a b ru_y x1 res hE hq (fun re_z ta_z ro_z ki_z ru_z no_z v3 => f_Reader_read_24 x1 n re_z ta_z ro_z ki_z ru_z no_z v3) (fun re_z ta_z ro_z ki_z ru_z no_z v3 hf => ih re_z ta_z ro_z ki_z ru_z no_z v3 hf) q28.1 q28.2.1 q28.2.2.1 ki_z ru_z no_z v3 1 hf)
        · refine j_aload_n hE dX7_read_53 rfl 0 rfl ?_
          refine j_aload_n hE dX7_read_54 rfl 1 rfl ?_
          refine j_get (v := .ref (b 8)) hE lg_Reader_66 2 rfl 0 (wg_Road_0 g b ro_z) rfl dX7_read_55 ?_
          obtain ⟨q31, hc32, hf⟩ := bind_of hf
          refine j_callV (ws' := ([n_Reader g a q31.1, n_Tape g (fun i => a (i + 3)) q31.2.1, n_Road g b ro_z, n_Kinds g (fun i => b (i + 8)) q31.2.2.1, n_Rule g (fun i => b (i + 14)) ru_z ru_y, n_Notes g (fun i => b (i + 17)) no_z] : List va_W)) (As := [.ref (b 8)]) (rest := []) (st2 := [.int q31.2.2.2]) hE (fun l => c_Reader_readKind l g a (fun i => b (i + 8)) re_z ta_z ki_z q31 hc32) cd_X7_readKind cv_X7_readKind ml_Reader_70 rfl rfl rfl (wg_Reader_0 _ _ _) ⟨⟨Nat.le_of_ble_eq_true rfl, Nat.le_of_ble_eq_true rfl⟩, ⟨Nat.zero_le _, Nat.zero_le _⟩, rfl, rfl⟩ [0, 1, 3] rfl rfl rfl (Nat.le_of_ble_eq_true rfl) rfl dX7_read_58 ?_
          refine j_istore (lv' := [(4, .int q31.2.2.2), (0, .ref (a 0)), (2, .ref (b 0)), (3, .int v3)]) hE dX7_read_61 (by decide) rfl ?_
          refine j_goto (tgt := 164) hE dX7_read_63 (by decide) ?_
          exact j_sub [1, 2, 3, 0] rfl (j_Reader_read_164 E g a b ru_y x1 res hE hq (fun re_z ta_z ro_z ki_z ru_z no_z v3 => f_Reader_read_24 x1 n re_z ta_z ro_z ki_z ru_z no_z v3) (fun re_z ta_z ro_z ki_z ru_z no_z v3 hf => ih re_z ta_z ro_z ki_z ru_z no_z v3 hf) q31.1 q31.2.1 ro_z q31.2.2.1 ru_z no_z v3 q31.2.2.2 hf)
set_option maxRecDepth 100000 in
theorem c_Reader_read (l : Launch) (g : jG) (a : Nat → Nat) (b : Nat → Nat) (re_z : jZ) (ta_z : jZ) (ro_z : jZ) (ki_z : jZ) (ru_z : jZ) (ru_y : jY) (no_z : jZ) (x1 : Int32) (res : jZ × jZ × jZ × jZ × jZ × jZ × Int32) (hf : f_Reader_read re_z ta_z ro_z ki_z ru_z no_z x1 = some res) : MC l g yX7_read cX7_read 5 (some .boolean) rm_Reader_read [.ref (a 0), .int x1, .ref (b 0)] (([n_Reader g a re_z, n_Tape g (fun i => a (i + 3)) ta_z, n_Road g b ro_z, n_Kinds g (fun i => b (i + 8)) ki_z, n_Rule g (fun i => b (i + 14)) ru_z ru_y, n_Notes g (fun i => b (i + 17)) no_z] : List va_W)) (some (.int res.2.2.2.2.2.2)) (([n_Reader g a res.1, n_Tape g (fun i => a (i + 3)) res.2.1, n_Road g b res.2.2.1, n_Kinds g (fun i => b (i + 8)) res.2.2.2.1, n_Rule g (fun i => b (i + 14)) res.2.2.2.2.1 ru_y, n_Notes g (fun i => b (i + 17)) res.2.2.2.2.2.1] : List va_W)) 0 0 := by
  refine MC_of (own := RX7) (lv := [(0, .ref (a 0)), (1, .int x1), (2, .ref (b 0))]) (by decide) rfl (Nat.le_of_ble_eq_true rfl) rfl rfl (fun E hE hq => ?_)
  unfold f_Reader_read at hf
  refine j_aload_n hE dX7_read_0 rfl 0 rfl ?_
  refine j_iconst (v := 0) hE dX7_read_1 (by decide) ?_
  refine j_put (v := .int 0) (ws' := ([n_Reader g a (up2 re_z 1 0 0), n_Tape g (fun i => a (i + 3)) ta_z, n_Road g b ro_z, n_Kinds g (fun i => b (i + 8)) ki_z, n_Rule g (fun i => b (i + 14)) ru_z ru_y, n_Notes g (fun i => b (i + 17)) no_z] : List va_W)) hE lp_Reader_18 0 rfl 0 (wg_Reader_0 g a re_z) rfl rfl (Nat.le_of_ble_eq_true rfl) (wp_Reader_1 g a re_z 0) rfl dX7_read_2 ?_
  refine j_aload_n hE dX7_read_5 rfl 0 rfl ?_
  refine j_iconst (v := (-1)) hE dX7_read_6 (by decide) ?_
  refine j_put (v := .int (-1)) (ws' := ([n_Reader g a (up2 (up2 re_z 1 0 0) 2 0 (-1)), n_Tape g (fun i => a (i + 3)) ta_z, n_Road g b ro_z, n_Kinds g (fun i => b (i + 8)) ki_z, n_Rule g (fun i => b (i + 14)) ru_z ru_y, n_Notes g (fun i => b (i + 17)) no_z] : List va_W)) hE lp_Reader_22 0 rfl 0 (wg_Reader_0 g a (up2 re_z 1 0 0)) rfl rfl (Nat.le_of_ble_eq_true rfl) (wp_Reader_2 g a (up2 re_z 1 0 0) (-1)) rfl dX7_read_7 ?_
  refine j_aload_n hE dX7_read_10 rfl 2 rfl ?_
  obtain ⟨q1, hc2, hf⟩ := bind_of hf
  refine j_callV (ws' := ([n_Reader g a (up2 (up2 re_z 1 0 0) 2 0 (-1)), n_Tape g (fun i => a (i + 3)) ta_z, n_Road g b q1.1, n_Kinds g (fun i => b (i + 8)) q1.2.1, n_Rule g (fun i => b (i + 14)) q1.2.2.1 ru_y, n_Notes g (fun i => b (i + 17)) q1.2.2.2] : List va_W)) (As := []) (rest := []) (st2 := []) hE (fun l => c_Road_clear l g b ro_z ki_z ru_z ru_y no_z q1 hc2) cd_X8_clear cv_X8_clear ml_Reader_49 rfl rfl rfl (wg_Road_0 _ _ _) ⟨⟨Nat.le_of_ble_eq_true rfl, Nat.le_of_ble_eq_true rfl⟩, ⟨Nat.zero_le _, Nat.zero_le _⟩, rfl, rfl⟩ [2, 3, 4, 5] rfl rfl rfl (Nat.le_of_ble_eq_true rfl) rfl dX7_read_11 ?_
  refine j_aload_n hE dX7_read_14 rfl 0 rfl ?_
  refine j_get (v := .ref (a 3)) hE lg_Reader_12 0 rfl 0 (wg_Reader_0 g a (up2 (up2 re_z 1 0 0) 2 0 (-1))) rfl dX7_read_15 ?_
  refine j_iload_n hE dX7_read_18 rfl 1 rfl ?_
  obtain ⟨q3, hc4, hf⟩ := bind_of hf
  refine j_callV (ws' := ([n_Reader g a (up2 (up2 re_z 1 0 0) 2 0 (-1)), n_Tape g (fun i => a (i + 3)) q3, n_Road g b q1.1, n_Kinds g (fun i => b (i + 8)) q1.2.1, n_Rule g (fun i => b (i + 14)) q1.2.2.1 ru_y, n_Notes g (fun i => b (i + 17)) q1.2.2.2] : List va_W)) (As := [.int x1]) (rest := []) (st2 := []) hE (fun l => c_Tape_begin l g (fun i => a (i + 3)) ta_z x1 q3 hc4) cd_X10_begin cv_X10_begin ml_Reader_54 rfl rfl rfl (wg_Tape_0 _ _ _) ⟨⟨Nat.le_of_ble_eq_true rfl, Nat.le_of_ble_eq_true rfl⟩, ⟨Nat.zero_le _, Nat.zero_le _⟩, rfl, rfl⟩ [1] rfl rfl rfl (Nat.le_of_ble_eq_true rfl) rfl dX7_read_19 ?_
  refine j_iconst (v := 0) hE dX7_read_22 (by decide) ?_
  refine j_istore_n (lv' := [(3, .int 0), (0, .ref (a 0)), (1, .int x1), (2, .ref (b 0))]) hE dX7_read_23 rfl (by decide) rfl ?_
  exact j_sub [1, 3, 0] rfl (j_Reader_read_24 E g a b ru_y x1 res hE hq FU (up2 (up2 re_z 1 0 0) 2 0 (-1)) q3 q1.1 q1.2.1 q1.2.2.1 q1.2.2.2 0 hf)
def rm_WP_feed : Room := { frames := 1, cells := 0, slots := 0, locals := 22 }
def f_WP_feed (ta_z : jZ) (x1 : Int32) (x2 : Int32) (x3 : Int32) (x4 : Int32) (x5 : Int32) : Option (jZ × Int32) := (if ((ta_z 1 0) + 20) ≤ 600 then (f_Tape_put ta_z x1).bind fun q2 => (f_Tape_put q2 x2).bind fun q4 => (f_Tape_put q4 x3).bind fun q6 => (f_Tape_put q6 x4).bind fun q8 => (f_Tape_put q8 x5).bind fun q10 => some (q10, (q10 1 0))
    else some (ta_z, (-1)))
set_option maxRecDepth 100000 in
theorem c_WP_feed (l : Launch) (g : jG) (a : Nat → Nat) (re_z : jZ) (ta_z : jZ) (ro_z : jZ) (ki_z : jZ) (ru_z : jZ) (ru_y : jY) (no_z : jZ) (sro_z : jZ) (ski_z : jZ) (sru_z : jZ) (sru_y : jY) (sno_z : jZ) (od_z : jZ) (od_y : jY) (lu_z : jZ) (lu_y : jY) (fa_z : jZ) (fod_z : jZ) (fod_y : jY) (ho_z : jZ) (po_z : jZ) (pod_z : jZ) (pod_y : jY) (x1 : Int32) (x2 : Int32) (x3 : Int32) (x4 : Int32) (x5 : Int32) (res : jZ × Int32) (hf : f_WP_feed ta_z x1 x2 x3 x4 x5 = some res) : MC l g yX11_feed cX11_feed 7 (some .int) rm_WP_feed [.ref (a 0), .int x1, .int x2, .int x3, .int x4, .int x5] (([n_WP g a , n_Reader g (fun i => a (i + 1)) re_z, n_Tape g (fun i => a (i + 4)) ta_z, n_Road g (fun i => a (i + 6)) ro_z, n_Kinds g (fun i => a (i + 14)) ki_z, n_Rule g (fun i => a (i + 20)) ru_z ru_y, n_Notes g (fun i => a (i + 23)) no_z, n_Road g (fun i => a (i + 30)) sro_z, n_Kinds g (fun i => a (i + 38)) ski_z, n_Rule g (fun i => a (i + 44)) sru_z sru_y, n_Notes g (fun i => a (i + 47)) sno_z, n_Odds g (fun i => a (i + 54)) od_z od_y, n_Luck g (fun i => a (i + 57)) lu_z lu_y, n_Falls g (fun i => a (i + 59)) fa_z, n_Odds g (fun i => a (i + 60)) fod_z fod_y, n_House g (fun i => a (i + 63)) ho_z, n_Poles g (fun i => a (i + 64)) po_z, n_Odds g (fun i => a (i + 69)) pod_z pod_y] : List va_W)) (some (.int res.2)) (([n_WP g a , n_Reader g (fun i => a (i + 1)) re_z, n_Tape g (fun i => a (i + 4)) res.1, n_Road g (fun i => a (i + 6)) ro_z, n_Kinds g (fun i => a (i + 14)) ki_z, n_Rule g (fun i => a (i + 20)) ru_z ru_y, n_Notes g (fun i => a (i + 23)) no_z, n_Road g (fun i => a (i + 30)) sro_z, n_Kinds g (fun i => a (i + 38)) ski_z, n_Rule g (fun i => a (i + 44)) sru_z sru_y, n_Notes g (fun i => a (i + 47)) sno_z, n_Odds g (fun i => a (i + 54)) od_z od_y, n_Luck g (fun i => a (i + 57)) lu_z lu_y, n_Falls g (fun i => a (i + 59)) fa_z, n_Odds g (fun i => a (i + 60)) fod_z fod_y, n_House g (fun i => a (i + 63)) ho_z, n_Poles g (fun i => a (i + 64)) po_z, n_Odds g (fun i => a (i + 69)) pod_z pod_y] : List va_W)) 0 0 := by
  refine MC_of (own := RX11) (lv := [(0, .ref (a 0)), (1, .int x1), (2, .int x2), (3, .int x3), (4, .int x4), (5, .int x5)]) (by decide) rfl (Nat.le_of_ble_eq_true rfl) rfl rfl (fun E hE hq => ?_)
  unfold f_WP_feed at hf
  refine j_aload_n hE dX11_feed_0 rfl 0 rfl ?_
  refine j_get (v := .ref (a 1)) hE lg_WP_12 0 rfl 0 (wg_WP_0 g a ) rfl dX11_feed_1 ?_
  refine j_get (v := .ref (a 4)) hE lg_WP_63 1 rfl 0 (wg_Reader_0 g (fun i => a (i + 1)) re_z) rfl dX11_feed_4 ?_
  refine j_astore (lv' := [(6, .ref (a 4)), (0, .ref (a 0)), (1, .int x1), (2, .int x2), (3, .int x3), (4, .int x4), (5, .int x5)]) hE dX11_feed_7 (by decide) rfl ?_
  refine j_aload hE dX11_feed_9 0 rfl ?_
  refine j_get (v := .int (ta_z 1 0)) hE lg_WP_67 2 rfl 0 (wg_Tape_0 g (fun i => a (i + 4)) ta_z) rfl dX11_feed_11 ?_
  refine j_bipush (v := 20) hE dX11_feed_14 (by decide) ?_
  refine j_iadd hE dX11_feed_16 ?_
  refine j_sipush (v := 600) hE dX11_feed_17 (by decide) ?_
  refine j_icmp_le (tgt := 25) hE hf dX11_feed_20 (by decide) (fun c1 hf => ?_) (fun c1 hf => ?_)
  · refine j_aload hE dX11_feed_25 0 rfl ?_
    refine j_iload_n hE dX11_feed_27 rfl 2 rfl ?_
    obtain ⟨q2, hc3, hf⟩ := bind_of hf
    refine j_callV (ws' := ([n_WP g a , n_Reader g (fun i => a (i + 1)) re_z, n_Tape g (fun i => a (i + 4)) q2, n_Road g (fun i => a (i + 6)) ro_z, n_Kinds g (fun i => a (i + 14)) ki_z, n_Rule g (fun i => a (i + 20)) ru_z ru_y, n_Notes g (fun i => a (i + 23)) no_z, n_Road g (fun i => a (i + 30)) sro_z, n_Kinds g (fun i => a (i + 38)) ski_z, n_Rule g (fun i => a (i + 44)) sru_z sru_y, n_Notes g (fun i => a (i + 47)) sno_z, n_Odds g (fun i => a (i + 54)) od_z od_y, n_Luck g (fun i => a (i + 57)) lu_z lu_y, n_Falls g (fun i => a (i + 59)) fa_z, n_Odds g (fun i => a (i + 60)) fod_z fod_y, n_House g (fun i => a (i + 63)) ho_z, n_Poles g (fun i => a (i + 64)) po_z, n_Odds g (fun i => a (i + 69)) pod_z pod_y] : List va_W)) (As := [.int x1]) (rest := []) (st2 := []) hE (fun l => c_Tape_put l g (fun i => a (i + 4)) ta_z x1 q2 hc3) cd_X10_put cv_X10_put ml_WP_73 rfl rfl rfl (wg_Tape_0 _ _ _) ⟨⟨Nat.le_of_ble_eq_true rfl, Nat.le_of_ble_eq_true rfl⟩, ⟨Nat.zero_le _, Nat.zero_le _⟩, rfl, rfl⟩ [2] rfl rfl rfl (Nat.le_of_ble_eq_true rfl) rfl dX11_feed_28 ?_
    refine j_aload hE dX11_feed_31 0 rfl ?_
    refine j_iload_n hE dX11_feed_33 rfl 3 rfl ?_
    obtain ⟨q4, hc5, hf⟩ := bind_of hf
    refine j_callV (ws' := ([n_WP g a , n_Reader g (fun i => a (i + 1)) re_z, n_Tape g (fun i => a (i + 4)) q4, n_Road g (fun i => a (i + 6)) ro_z, n_Kinds g (fun i => a (i + 14)) ki_z, n_Rule g (fun i => a (i + 20)) ru_z ru_y, n_Notes g (fun i => a (i + 23)) no_z, n_Road g (fun i => a (i + 30)) sro_z, n_Kinds g (fun i => a (i + 38)) ski_z, n_Rule g (fun i => a (i + 44)) sru_z sru_y, n_Notes g (fun i => a (i + 47)) sno_z, n_Odds g (fun i => a (i + 54)) od_z od_y, n_Luck g (fun i => a (i + 57)) lu_z lu_y, n_Falls g (fun i => a (i + 59)) fa_z, n_Odds g (fun i => a (i + 60)) fod_z fod_y, n_House g (fun i => a (i + 63)) ho_z, n_Poles g (fun i => a (i + 64)) po_z, n_Odds g (fun i => a (i + 69)) pod_z pod_y] : List va_W)) (As := [.int x2]) (rest := []) (st2 := []) hE (fun l => c_Tape_put l g (fun i => a (i + 4)) q2 x2 q4 hc5) cd_X10_put cv_X10_put ml_WP_73 rfl rfl rfl (wg_Tape_0 _ _ _) ⟨⟨Nat.le_of_ble_eq_true rfl, Nat.le_of_ble_eq_true rfl⟩, ⟨Nat.zero_le _, Nat.zero_le _⟩, rfl, rfl⟩ [2] rfl rfl rfl (Nat.le_of_ble_eq_true rfl) rfl dX11_feed_34 ?_
    refine j_aload hE dX11_feed_37 0 rfl ?_
    refine j_iload_n hE dX11_feed_39 rfl 4 rfl ?_
    obtain ⟨q6, hc7, hf⟩ := bind_of hf
    refine j_callV (ws' := ([n_WP g a , n_Reader g (fun i => a (i + 1)) re_z, n_Tape g (fun i => a (i + 4)) q6, n_Road g (fun i => a (i + 6)) ro_z, n_Kinds g (fun i => a (i + 14)) ki_z, n_Rule g (fun i => a (i + 20)) ru_z ru_y, n_Notes g (fun i => a (i + 23)) no_z, n_Road g (fun i => a (i + 30)) sro_z, n_Kinds g (fun i => a (i + 38)) ski_z, n_Rule g (fun i => a (i + 44)) sru_z sru_y, n_Notes g (fun i => a (i + 47)) sno_z, n_Odds g (fun i => a (i + 54)) od_z od_y, n_Luck g (fun i => a (i + 57)) lu_z lu_y, n_Falls g (fun i => a (i + 59)) fa_z, n_Odds g (fun i => a (i + 60)) fod_z fod_y, n_House g (fun i => a (i + 63)) ho_z, n_Poles g (fun i => a (i + 64)) po_z, n_Odds g (fun i => a (i + 69)) pod_z pod_y] : List va_W)) (As := [.int x3]) (rest := []) (st2 := []) hE (fun l => c_Tape_put l g (fun i => a (i + 4)) q4 x3 q6 hc7) cd_X10_put cv_X10_put ml_WP_73 rfl rfl rfl (wg_Tape_0 _ _ _) ⟨⟨Nat.le_of_ble_eq_true rfl, Nat.le_of_ble_eq_true rfl⟩, ⟨Nat.zero_le _, Nat.zero_le _⟩, rfl, rfl⟩ [2] rfl rfl rfl (Nat.le_of_ble_eq_true rfl) rfl dX11_feed_40 ?_
    refine j_aload hE dX11_feed_43 0 rfl ?_
    refine j_iload hE dX11_feed_45 5 rfl ?_
    obtain ⟨q8, hc9, hf⟩ := bind_of hf
    refine j_callV (ws' := ([n_WP g a , n_Reader g (fun i => a (i + 1)) re_z, n_Tape g (fun i => a (i + 4)) q8, n_Road g (fun i => a (i + 6)) ro_z, n_Kinds g (fun i => a (i + 14)) ki_z, n_Rule g (fun i => a (i + 20)) ru_z ru_y, n_Notes g (fun i => a (i + 23)) no_z, n_Road g (fun i => a (i + 30)) sro_z, n_Kinds g (fun i => a (i + 38)) ski_z, n_Rule g (fun i => a (i + 44)) sru_z sru_y, n_Notes g (fun i => a (i + 47)) sno_z, n_Odds g (fun i => a (i + 54)) od_z od_y, n_Luck g (fun i => a (i + 57)) lu_z lu_y, n_Falls g (fun i => a (i + 59)) fa_z, n_Odds g (fun i => a (i + 60)) fod_z fod_y, n_House g (fun i => a (i + 63)) ho_z, n_Poles g (fun i => a (i + 64)) po_z, n_Odds g (fun i => a (i + 69)) pod_z pod_y] : List va_W)) (As := [.int x4]) (rest := []) (st2 := []) hE (fun l => c_Tape_put l g (fun i => a (i + 4)) q6 x4 q8 hc9) cd_X10_put cv_X10_put ml_WP_73 rfl rfl rfl (wg_Tape_0 _ _ _) ⟨⟨Nat.le_of_ble_eq_true rfl, Nat.le_of_ble_eq_true rfl⟩, ⟨Nat.zero_le _, Nat.zero_le _⟩, rfl, rfl⟩ [2] rfl rfl rfl (Nat.le_of_ble_eq_true rfl) rfl dX11_feed_47 ?_
    refine j_aload hE dX11_feed_50 0 rfl ?_
    refine j_iload hE dX11_feed_52 6 rfl ?_
    obtain ⟨q10, hc11, hf⟩ := bind_of hf
    refine j_callV (ws' := ([n_WP g a , n_Reader g (fun i => a (i + 1)) re_z, n_Tape g (fun i => a (i + 4)) q10, n_Road g (fun i => a (i + 6)) ro_z, n_Kinds g (fun i => a (i + 14)) ki_z, n_Rule g (fun i => a (i + 20)) ru_z ru_y, n_Notes g (fun i => a (i + 23)) no_z, n_Road g (fun i => a (i + 30)) sro_z, n_Kinds g (fun i => a (i + 38)) ski_z, n_Rule g (fun i => a (i + 44)) sru_z sru_y, n_Notes g (fun i => a (i + 47)) sno_z, n_Odds g (fun i => a (i + 54)) od_z od_y, n_Luck g (fun i => a (i + 57)) lu_z lu_y, n_Falls g (fun i => a (i + 59)) fa_z, n_Odds g (fun i => a (i + 60)) fod_z fod_y, n_House g (fun i => a (i + 63)) ho_z, n_Poles g (fun i => a (i + 64)) po_z, n_Odds g (fun i => a (i + 69)) pod_z pod_y] : List va_W)) (As := [.int x5]) (rest := []) (st2 := []) hE (fun l => c_Tape_put l g (fun i => a (i + 4)) q8 x5 q10 hc11) cd_X10_put cv_X10_put ml_WP_73 rfl rfl rfl (wg_Tape_0 _ _ _) ⟨⟨Nat.le_of_ble_eq_true rfl, Nat.le_of_ble_eq_true rfl⟩, ⟨Nat.zero_le _, Nat.zero_le _⟩, rfl, rfl⟩ [2] rfl rfl rfl (Nat.le_of_ble_eq_true rfl) rfl dX11_feed_54 ?_
    refine j_aload hE dX11_feed_57 0 rfl ?_
    refine j_get (v := .int (q10 1 0)) hE lg_WP_67 2 rfl 0 (wg_Tape_0 g (fun i => a (i + 4)) q10) rfl dX11_feed_59 ?_
    obtain rfl := Option.some.inj hf
    exact j_iret hE hq rfl rfl dX11_feed_62
  · refine j_iconst (v := (-1)) hE dX11_feed_23 (by decide) ?_
    obtain rfl := Option.some.inj hf
    exact j_iret hE hq rfl rfl dX11_feed_24
def rm_WP_text : Room := { frames := 6, cells := 0, slots := 0, locals := 138 }
def f_WP_text (re_z : jZ) (ta_z : jZ) (sro_z : jZ) (ski_z : jZ) (sru_z : jZ) (sno_z : jZ) (lu_z : jZ) (x1 : Int32) : Option (jZ × jZ × jZ × jZ × jZ × jZ × jZ × Nat × Int32) := (if x1 < 0 then some (re_z, ta_z, sro_z, ski_z, sru_z, sno_z, lu_z, 0, (-2))
    else (if x1 ≤ (ta_z 1 0) then (f_Reader_read re_z ta_z sro_z ski_z sru_z sno_z x1).bind fun q3 => (if q3.2.2.2.2.2.2 = 0 then some (q3.1, q3.2.1, q3.2.2.1, q3.2.2.2.1, q3.2.2.2.2.1, q3.2.2.2.2.2.1, lu_z, 0, (-1))
    else (f_Luck_forget lu_z).bind fun q6 => some (q3.1, q3.2.1, q3.2.2.1, q3.2.2.2.1, q3.2.2.2.2.1, q3.2.2.2.2.2.1, q6, 1, (q3.2.2.1 3 0)))
    else some (re_z, ta_z, sro_z, ski_z, sru_z, sno_z, lu_z, 0, (-2))))
set_option maxRecDepth 100000 in
theorem c_WP_text (l : Launch) (g : jG) (a : Nat → Nat) (re_z : jZ) (ta_z : jZ) (ro_z : jZ) (ki_z : jZ) (ru_z : jZ) (ru_y : jY) (no_z : jZ) (sro_z : jZ) (ski_z : jZ) (sru_z : jZ) (sru_y : jY) (sno_z : jZ) (od_z : jZ) (od_y : jY) (lu_z : jZ) (lu_y : jY) (fa_z : jZ) (fod_z : jZ) (fod_y : jY) (ho_z : jZ) (po_z : jZ) (pod_z : jZ) (pod_y : jY) (x1 : Int32) (res : jZ × jZ × jZ × jZ × jZ × jZ × jZ × Nat × Int32) (hf : f_WP_text re_z ta_z sro_z ski_z sru_z sno_z lu_z x1 = some res) : MC l g yX11_text cX11_text 3 (some .int) rm_WP_text [.ref (a 0), .int x1] (([n_WP2 g a (a 6) (a 30), n_Reader g (fun i => a (i + 1)) re_z, n_Tape g (fun i => a (i + 4)) ta_z, n_Road g (fun i => a (i + 6)) ro_z, n_Kinds g (fun i => a (i + 14)) ki_z, n_Rule g (fun i => a (i + 20)) ru_z ru_y, n_Notes g (fun i => a (i + 23)) no_z, n_Road g (fun i => a (i + 30)) sro_z, n_Kinds g (fun i => a (i + 38)) ski_z, n_Rule g (fun i => a (i + 44)) sru_z sru_y, n_Notes g (fun i => a (i + 47)) sno_z, n_Odds g (fun i => a (i + 54)) od_z od_y, n_Luck g (fun i => a (i + 57)) lu_z lu_y, n_Falls g (fun i => a (i + 59)) fa_z, n_Odds g (fun i => a (i + 60)) fod_z fod_y, n_House g (fun i => a (i + 63)) ho_z, n_Poles g (fun i => a (i + 64)) po_z, n_Odds g (fun i => a (i + 69)) pod_z pod_y] : List va_W)) (some (.int res.2.2.2.2.2.2.2.2)) (([n_WP2 g a (rsw a res.2.2.2.2.2.2.2.1 6 30) (rsw a res.2.2.2.2.2.2.2.1 30 6), n_Reader g (fun i => a (i + 1)) res.1, n_Tape g (fun i => a (i + 4)) res.2.1, n_Road g (fun i => a (i + 6)) ro_z, n_Kinds g (fun i => a (i + 14)) ki_z, n_Rule g (fun i => a (i + 20)) ru_z ru_y, n_Notes g (fun i => a (i + 23)) no_z, n_Road g (fun i => a (i + 30)) res.2.2.1, n_Kinds g (fun i => a (i + 38)) res.2.2.2.1, n_Rule g (fun i => a (i + 44)) res.2.2.2.2.1 sru_y, n_Notes g (fun i => a (i + 47)) res.2.2.2.2.2.1, n_Odds g (fun i => a (i + 54)) od_z od_y, n_Luck g (fun i => a (i + 57)) res.2.2.2.2.2.2.1 lu_y, n_Falls g (fun i => a (i + 59)) fa_z, n_Odds g (fun i => a (i + 60)) fod_z fod_y, n_House g (fun i => a (i + 63)) ho_z, n_Poles g (fun i => a (i + 64)) po_z, n_Odds g (fun i => a (i + 69)) pod_z pod_y] : List va_W)) 0 0 := by
  refine MC_of (own := RX11) (lv := [(0, .ref (a 0)), (1, .int x1)]) (by decide) rfl (Nat.le_of_ble_eq_true rfl) rfl rfl (fun E hE hq => ?_)
  unfold f_WP_text at hf
  refine j_iload_n hE dX11_text_0 rfl 1 rfl ?_
  refine j_if_lt (tgt := 18) hE hf dX11_text_1 (by decide) (fun c1 hf => ?_) (fun c1 hf => ?_)
  · refine j_bipush (v := (-2)) hE dX11_text_18 (by decide) ?_
    obtain rfl := Option.some.inj hf
    exact j_iret hE hq rfl rfl dX11_text_20
  · refine j_iload_n hE dX11_text_4 rfl 1 rfl ?_
    refine j_aload_n hE dX11_text_5 rfl 0 rfl ?_
    refine j_get (v := .ref (a 1)) hE lg_WP_12 0 rfl 0 (wg_WP2_0 g a (a 6) (a 30)) rfl dX11_text_6 ?_
    refine j_get (v := .ref (a 4)) hE lg_WP_63 1 rfl 0 (wg_Reader_0 g (fun i => a (i + 1)) re_z) rfl dX11_text_9 ?_
    refine j_get (v := .int (ta_z 1 0)) hE lg_WP_67 2 rfl 0 (wg_Tape_0 g (fun i => a (i + 4)) ta_z) rfl dX11_text_12 ?_
    refine j_icmp_le (tgt := 21) hE hf dX11_text_15 (by decide) (fun c2 hf => ?_) (fun c2 hf => ?_)
    · refine j_aload_n hE dX11_text_21 rfl 0 rfl ?_
      refine j_get (v := .ref (a 1)) hE lg_WP_12 0 rfl 0 (wg_WP2_0 g a (a 6) (a 30)) rfl dX11_text_22 ?_
      refine j_iload_n hE dX11_text_25 rfl 1 rfl ?_
      refine j_aload_n hE dX11_text_26 rfl 0 rfl ?_
      refine j_get (v := .ref (a 30)) hE lg_WP_25 0 rfl 0 (wg_WP2_0 g a (a 6) (a 30)) rfl dX11_text_27 ?_
      obtain ⟨q3, hc4, hf⟩ := bind_of hf
      refine j_callV (ws' := ([n_WP2 g a (a 6) (a 30), n_Reader g (fun i => a (i + 1)) q3.1, n_Tape g (fun i => a (i + 4)) q3.2.1, n_Road g (fun i => a (i + 6)) ro_z, n_Kinds g (fun i => a (i + 14)) ki_z, n_Rule g (fun i => a (i + 20)) ru_z ru_y, n_Notes g (fun i => a (i + 23)) no_z, n_Road g (fun i => a (i + 30)) q3.2.2.1, n_Kinds g (fun i => a (i + 38)) q3.2.2.2.1, n_Rule g (fun i => a (i + 44)) q3.2.2.2.2.1 sru_y, n_Notes g (fun i => a (i + 47)) q3.2.2.2.2.2.1, n_Odds g (fun i => a (i + 54)) od_z od_y, n_Luck g (fun i => a (i + 57)) lu_z lu_y, n_Falls g (fun i => a (i + 59)) fa_z, n_Odds g (fun i => a (i + 60)) fod_z fod_y, n_House g (fun i => a (i + 63)) ho_z, n_Poles g (fun i => a (i + 64)) po_z, n_Odds g (fun i => a (i + 69)) pod_z pod_y] : List va_W)) (As := [.int x1, .ref (a 30)]) (rest := []) (st2 := [.int q3.2.2.2.2.2.2]) hE (fun l => c_Reader_read l g (fun i => a (i + 1)) (fun i => a (i + 30)) re_z ta_z sro_z ski_z sru_z sru_y sno_z x1 q3 hc4) cd_X7_read cv_X7_read ml_WP_77 rfl rfl rfl (wg_Reader_0 _ _ _) ⟨⟨Nat.le_of_ble_eq_true rfl, Nat.le_of_ble_eq_true rfl⟩, ⟨Nat.zero_le _, Nat.zero_le _⟩, rfl, rfl⟩ [1, 2, 7, 8, 9, 10] rfl rfl rfl (Nat.le_of_ble_eq_true rfl) rfl dX11_text_30 ?_
      refine j_if_ne (tgt := 38) hE hf dX11_text_33 (by decide) (fun c5 hf => ?_) (fun c5 hf => ?_)
      · refine j_aload_n hE dX11_text_38 rfl 0 rfl ?_
        refine j_get (v := .ref (a 6)) hE lg_WP_21 0 rfl 0 (wg_WP2_0 g a (a 6) (a 30)) rfl dX11_text_39 ?_
        refine j_astore_n (lv' := [(2, .ref (a 6)), (0, .ref (a 0)), (1, .int x1)]) hE dX11_text_42 rfl (by decide) rfl ?_
        refine j_aload_n hE dX11_text_43 rfl 1 rfl ?_
        refine j_aload_n hE dX11_text_44 rfl 1 rfl ?_
        refine j_get (v := .ref (a 30)) hE lg_WP_25 0 rfl 0 (wg_WP2_0 g a (a 6) (a 30)) rfl dX11_text_45 ?_
        refine j_put (v := .ref (a 30)) (ws' := ([n_WP2 g a (a 30) (a 30), n_Reader g (fun i => a (i + 1)) q3.1, n_Tape g (fun i => a (i + 4)) q3.2.1, n_Road g (fun i => a (i + 6)) ro_z, n_Kinds g (fun i => a (i + 14)) ki_z, n_Rule g (fun i => a (i + 20)) ru_z ru_y, n_Notes g (fun i => a (i + 23)) no_z, n_Road g (fun i => a (i + 30)) q3.2.2.1, n_Kinds g (fun i => a (i + 38)) q3.2.2.2.1, n_Rule g (fun i => a (i + 44)) q3.2.2.2.2.1 sru_y, n_Notes g (fun i => a (i + 47)) q3.2.2.2.2.2.1, n_Odds g (fun i => a (i + 54)) od_z od_y, n_Luck g (fun i => a (i + 57)) lu_z lu_y, n_Falls g (fun i => a (i + 59)) fa_z, n_Odds g (fun i => a (i + 60)) fod_z fod_y, n_House g (fun i => a (i + 63)) ho_z, n_Poles g (fun i => a (i + 64)) po_z, n_Odds g (fun i => a (i + 69)) pod_z pod_y] : List va_W)) hE lp_WP_21 0 rfl 0 (wg_WP2_0 g a (a 6) (a 30)) rfl rfl (Nat.le_of_ble_eq_true rfl) (wp_WP2_1 g a (a 6) (a 30) (a 30)) rfl dX11_text_48 ?_
        refine j_aload_n hE dX11_text_51 rfl 1 rfl ?_
        refine j_aload_n hE dX11_text_52 rfl 0 rfl ?_
        refine j_put (v := .ref (a 6)) (ws' := ([n_WP2 g a (a 30) (a 6), n_Reader g (fun i => a (i + 1)) q3.1, n_Tape g (fun i => a (i + 4)) q3.2.1, n_Road g (fun i => a (i + 6)) ro_z, n_Kinds g (fun i => a (i + 14)) ki_z, n_Rule g (fun i => a (i + 20)) ru_z ru_y, n_Notes g (fun i => a (i + 23)) no_z, n_Road g (fun i => a (i + 30)) q3.2.2.1, n_Kinds g (fun i => a (i + 38)) q3.2.2.2.1, n_Rule g (fun i => a (i + 44)) q3.2.2.2.2.1 sru_y, n_Notes g (fun i => a (i + 47)) q3.2.2.2.2.2.1, n_Odds g (fun i => a (i + 54)) od_z od_y, n_Luck g (fun i => a (i + 57)) lu_z lu_y, n_Falls g (fun i => a (i + 59)) fa_z, n_Odds g (fun i => a (i + 60)) fod_z fod_y, n_House g (fun i => a (i + 63)) ho_z, n_Poles g (fun i => a (i + 64)) po_z, n_Odds g (fun i => a (i + 69)) pod_z pod_y] : List va_W)) hE lp_WP_25 0 rfl 0 (wg_WP2_0 g a (a 30) (a 30)) rfl rfl (Nat.le_of_ble_eq_true rfl) (wp_WP2_2 g a (a 30) (a 30) (a 6)) rfl dX11_text_53 ?_
        refine j_aload_n hE dX11_text_56 rfl 1 rfl ?_
        refine j_get (v := .ref (a 57)) hE lg_WP_38 0 rfl 0 (wg_WP2_0 g a (a 30) (a 6)) rfl dX11_text_57 ?_
        obtain ⟨q6, hc7, hf⟩ := bind_of hf
        refine j_callV (ws' := ([n_WP2 g a (a 30) (a 6), n_Reader g (fun i => a (i + 1)) q3.1, n_Tape g (fun i => a (i + 4)) q3.2.1, n_Road g (fun i => a (i + 6)) ro_z, n_Kinds g (fun i => a (i + 14)) ki_z, n_Rule g (fun i => a (i + 20)) ru_z ru_y, n_Notes g (fun i => a (i + 23)) no_z, n_Road g (fun i => a (i + 30)) q3.2.2.1, n_Kinds g (fun i => a (i + 38)) q3.2.2.2.1, n_Rule g (fun i => a (i + 44)) q3.2.2.2.2.1 sru_y, n_Notes g (fun i => a (i + 47)) q3.2.2.2.2.2.1, n_Odds g (fun i => a (i + 54)) od_z od_y, n_Luck g (fun i => a (i + 57)) q6 lu_y, n_Falls g (fun i => a (i + 59)) fa_z, n_Odds g (fun i => a (i + 60)) fod_z fod_y, n_House g (fun i => a (i + 63)) ho_z, n_Poles g (fun i => a (i + 64)) po_z, n_Odds g (fun i => a (i + 69)) pod_z pod_y] : List va_W)) (As := []) (rest := []) (st2 := []) hE (fun l => c_Luck_forget l g (fun i => a (i + 57)) lu_z lu_y q6 hc7) cd_X3_forget cv_X3_forget ml_WP_81 rfl rfl rfl (wg_Luck_0 _ _ _ _) ⟨⟨Nat.le_of_ble_eq_true rfl, Nat.le_of_ble_eq_true rfl⟩, ⟨Nat.zero_le _, Nat.zero_le _⟩, rfl, rfl⟩ [12] rfl rfl rfl (Nat.le_of_ble_eq_true rfl) rfl dX11_text_60 ?_
        refine j_aload_n hE dX11_text_63 rfl 1 rfl ?_
        refine j_get (v := .ref (a 30)) hE lg_WP_21 0 rfl 0 (wg_WP2_0 g a (a 30) (a 6)) rfl dX11_text_64 ?_
        refine j_get (v := .int (q3.2.2.1 3 0)) hE lg_WP_84 7 rfl 0 (wg_Road_0 g (fun i => a (i + 30)) q3.2.2.1) rfl dX11_text_67 ?_
        obtain rfl := Option.some.inj hf
        exact j_iret hE hq rfl rfl dX11_text_70
      · refine j_iconst (v := (-1)) hE dX11_text_36 (by decide) ?_
        obtain rfl := Option.some.inj hf
        exact j_iret hE hq rfl rfl dX11_text_37
    · refine j_bipush (v := (-2)) hE dX11_text_18 (by decide) ?_
      obtain rfl := Option.some.inj hf
      exact j_iret hE hq rfl rfl dX11_text_20
def rm_WP_fault : Room := { frames := 0, cells := 0, slots := 0, locals := 0 }
def f_WP_fault (re_z : jZ) (x1 : Int32) : Option (Int32) := (if x1 = 0 then some (re_z 1 0)
    else (if x1 = 1 then some (re_z 2 0)
    else some (-1)))
set_option maxRecDepth 100000 in
theorem c_WP_fault (l : Launch) (g : jG) (a : Nat → Nat) (re_z : jZ) (ta_z : jZ) (ro_z : jZ) (ki_z : jZ) (ru_z : jZ) (ru_y : jY) (no_z : jZ) (sro_z : jZ) (ski_z : jZ) (sru_z : jZ) (sru_y : jY) (sno_z : jZ) (od_z : jZ) (od_y : jY) (lu_z : jZ) (lu_y : jY) (fa_z : jZ) (fod_z : jZ) (fod_y : jY) (ho_z : jZ) (po_z : jZ) (pod_z : jZ) (pod_y : jY) (x1 : Int32) (res : Int32) (hf : f_WP_fault re_z x1 = some res) : MC l g yX11_fault cX11_fault 2 (some .int) rm_WP_fault [.ref (a 0), .int x1] (([n_WP g a , n_Reader g (fun i => a (i + 1)) re_z, n_Tape g (fun i => a (i + 4)) ta_z, n_Road g (fun i => a (i + 6)) ro_z, n_Kinds g (fun i => a (i + 14)) ki_z, n_Rule g (fun i => a (i + 20)) ru_z ru_y, n_Notes g (fun i => a (i + 23)) no_z, n_Road g (fun i => a (i + 30)) sro_z, n_Kinds g (fun i => a (i + 38)) ski_z, n_Rule g (fun i => a (i + 44)) sru_z sru_y, n_Notes g (fun i => a (i + 47)) sno_z, n_Odds g (fun i => a (i + 54)) od_z od_y, n_Luck g (fun i => a (i + 57)) lu_z lu_y, n_Falls g (fun i => a (i + 59)) fa_z, n_Odds g (fun i => a (i + 60)) fod_z fod_y, n_House g (fun i => a (i + 63)) ho_z, n_Poles g (fun i => a (i + 64)) po_z, n_Odds g (fun i => a (i + 69)) pod_z pod_y] : List va_W)) (some (.int res)) (([n_WP g a , n_Reader g (fun i => a (i + 1)) re_z, n_Tape g (fun i => a (i + 4)) ta_z, n_Road g (fun i => a (i + 6)) ro_z, n_Kinds g (fun i => a (i + 14)) ki_z, n_Rule g (fun i => a (i + 20)) ru_z ru_y, n_Notes g (fun i => a (i + 23)) no_z, n_Road g (fun i => a (i + 30)) sro_z, n_Kinds g (fun i => a (i + 38)) ski_z, n_Rule g (fun i => a (i + 44)) sru_z sru_y, n_Notes g (fun i => a (i + 47)) sno_z, n_Odds g (fun i => a (i + 54)) od_z od_y, n_Luck g (fun i => a (i + 57)) lu_z lu_y, n_Falls g (fun i => a (i + 59)) fa_z, n_Odds g (fun i => a (i + 60)) fod_z fod_y, n_House g (fun i => a (i + 63)) ho_z, n_Poles g (fun i => a (i + 64)) po_z, n_Odds g (fun i => a (i + 69)) pod_z pod_y] : List va_W)) 0 0 := by
  refine MC_of (own := RX11) (lv := [(0, .ref (a 0)), (1, .int x1)]) (by decide) rfl (Nat.le_of_ble_eq_true rfl) rfl rfl (fun E hE hq => ?_)
  unfold f_WP_fault at hf
  refine j_iload_n hE dX11_fault_0 rfl 1 rfl ?_
  refine j_case hf (fun c1 hf => ?_) (fun c1 hf => ?_)
  · refine j_lookup (tgt := 28) hE dX11_fault_1 (by decide) (by rw [c1]; try rfl) (by decide) ?_
    refine j_aload_n hE dX11_fault_28 rfl 0 rfl ?_
    refine j_get (v := .ref (a 1)) hE lg_WP_12 0 rfl 0 (wg_WP_0 g a ) rfl dX11_fault_29 ?_
    refine j_get (v := .int (re_z 1 0)) hE lg_WP_87 1 rfl 0 (wg_Reader_0 g (fun i => a (i + 1)) re_z) rfl dX11_fault_32 ?_
    obtain rfl := Option.some.inj hf
    exact j_iret hE hq rfl rfl dX11_fault_35
  refine j_case hf (fun c2 hf => ?_) (fun c2 hf => ?_)
  · refine j_lookup (tgt := 36) hE dX11_fault_1 (by decide) (by rw [c2]; try rfl) (by decide) ?_
    refine j_aload_n hE dX11_fault_36 rfl 0 rfl ?_
    refine j_get (v := .ref (a 1)) hE lg_WP_12 0 rfl 0 (wg_WP_0 g a ) rfl dX11_fault_37 ?_
    refine j_get (v := .int (re_z 2 0)) hE lg_WP_90 1 rfl 0 (wg_Reader_0 g (fun i => a (i + 1)) re_z) rfl dX11_fault_40 ?_
    obtain rfl := Option.some.inj hf
    exact j_iret hE hq rfl rfl dX11_fault_43
  have t_c1 : 0 ≠ Int32.toInt x1 := fun h => c1 (Int32.toInt_inj.mp (h.symm.trans (by decide)))
  have t_c2 : 1 ≠ Int32.toInt x1 := fun h => c2 (Int32.toInt_inj.mp (h.symm.trans (by decide)))
  refine j_lookup (off := 43) (tgt := 44) hE dX11_fault_1 (by decide) (by simp [Op.lookupswitch.offset, t_c1, t_c2]) (by decide) ?_
  refine j_iconst (v := (-1)) hE dX11_fault_44 (by decide) ?_
  obtain rfl := Option.some.inj hf
  exact j_iret hE hq rfl rfl dX11_fault_45
def rm_WP_named : Room := { frames := 1, cells := 0, slots := 0, locals := 23 }
def f_WP_named (ro_z : jZ) (ki_z : jZ) (x1 : Int32) (x2 : Int32) : Option (Int32) := (if x1 = 0 then (f_WP_findKinds_names ki_z (ki_z 0 0) x2).bind fun q2 => some q2
    else (if x1 = 1 then (f_WP_findRoad_names ro_z (ro_z 7 0) x2).bind fun q5 => some q5
    else some (-1)))
set_option maxRecDepth 100000 in
theorem c_WP_named (l : Launch) (g : jG) (a : Nat → Nat) (re_z : jZ) (ta_z : jZ) (ro_z : jZ) (ki_z : jZ) (ru_z : jZ) (ru_y : jY) (no_z : jZ) (sro_z : jZ) (ski_z : jZ) (sru_z : jZ) (sru_y : jY) (sno_z : jZ) (od_z : jZ) (od_y : jY) (lu_z : jZ) (lu_y : jY) (fa_z : jZ) (fod_z : jZ) (fod_y : jY) (ho_z : jZ) (po_z : jZ) (pod_z : jZ) (pod_y : jY) (x1 : Int32) (x2 : Int32) (res : Int32) (hf : f_WP_named ro_z ki_z x1 x2 = some res) : MC l g yX11_named cX11_named 3 (some .int) rm_WP_named [.ref (a 0), .int x1, .int x2] (([n_WP g a , n_Reader g (fun i => a (i + 1)) re_z, n_Tape g (fun i => a (i + 4)) ta_z, n_Road g (fun i => a (i + 6)) ro_z, n_Kinds g (fun i => a (i + 14)) ki_z, n_Rule g (fun i => a (i + 20)) ru_z ru_y, n_Notes g (fun i => a (i + 23)) no_z, n_Road g (fun i => a (i + 30)) sro_z, n_Kinds g (fun i => a (i + 38)) ski_z, n_Rule g (fun i => a (i + 44)) sru_z sru_y, n_Notes g (fun i => a (i + 47)) sno_z, n_Odds g (fun i => a (i + 54)) od_z od_y, n_Luck g (fun i => a (i + 57)) lu_z lu_y, n_Falls g (fun i => a (i + 59)) fa_z, n_Odds g (fun i => a (i + 60)) fod_z fod_y, n_House g (fun i => a (i + 63)) ho_z, n_Poles g (fun i => a (i + 64)) po_z, n_Odds g (fun i => a (i + 69)) pod_z pod_y] : List va_W)) (some (.int res)) (([n_WP g a , n_Reader g (fun i => a (i + 1)) re_z, n_Tape g (fun i => a (i + 4)) ta_z, n_Road g (fun i => a (i + 6)) ro_z, n_Kinds g (fun i => a (i + 14)) ki_z, n_Rule g (fun i => a (i + 20)) ru_z ru_y, n_Notes g (fun i => a (i + 23)) no_z, n_Road g (fun i => a (i + 30)) sro_z, n_Kinds g (fun i => a (i + 38)) ski_z, n_Rule g (fun i => a (i + 44)) sru_z sru_y, n_Notes g (fun i => a (i + 47)) sno_z, n_Odds g (fun i => a (i + 54)) od_z od_y, n_Luck g (fun i => a (i + 57)) lu_z lu_y, n_Falls g (fun i => a (i + 59)) fa_z, n_Odds g (fun i => a (i + 60)) fod_z fod_y, n_House g (fun i => a (i + 63)) ho_z, n_Poles g (fun i => a (i + 64)) po_z, n_Odds g (fun i => a (i + 69)) pod_z pod_y] : List va_W)) 0 0 := by
  refine MC_of (own := RX11) (lv := [(0, .ref (a 0)), (1, .int x1), (2, .int x2)]) (by decide) rfl (Nat.le_of_ble_eq_true rfl) rfl rfl (fun E hE hq => ?_)
  unfold f_WP_named at hf
  refine j_iload_n hE dX11_named_0 rfl 1 rfl ?_
  refine j_case hf (fun c1 hf => ?_) (fun c1 hf => ?_)
  · refine j_lookup (tgt := 28) hE dX11_named_1 (by decide) (by rw [c1]; try rfl) (by decide) ?_
    refine j_aload_n hE dX11_named_28 rfl 0 rfl ?_
    refine j_get (v := .ref (a 6)) hE lg_WP_21 0 rfl 0 (wg_WP_0 g a ) rfl dX11_named_29 ?_
    refine j_get (v := .ref (a 14)) hE lg_WP_93 3 rfl 0 (wg_Road_0 g (fun i => a (i + 6)) ro_z) rfl dX11_named_32 ?_
    refine j_get (v := .ref (a 15)) hE lg_WP_97 4 rfl 0 (wg_Kinds_0 g (fun i => a (i + 14)) ki_z) rfl dX11_named_35 ?_
    refine j_aload_n hE dX11_named_38 rfl 0 rfl ?_
    refine j_get (v := .ref (a 6)) hE lg_WP_21 0 rfl 0 (wg_WP_0 g a ) rfl dX11_named_39 ?_
    refine j_get (v := .ref (a 14)) hE lg_WP_93 3 rfl 0 (wg_Road_0 g (fun i => a (i + 6)) ro_z) rfl dX11_named_42 ?_
    refine j_get (v := .int (ki_z 0 0)) hE lg_WP_103 4 rfl 0 (wg_Kinds_0 g (fun i => a (i + 14)) ki_z) rfl dX11_named_45 ?_
    refine j_iload_n hE dX11_named_48 rfl 2 rfl ?_
    obtain ⟨q2, hc3, hf⟩ := bind_of hf
    refine j_callS (ws' := ([n_WP g a , n_Reader g (fun i => a (i + 1)) re_z, n_Tape g (fun i => a (i + 4)) ta_z, n_Road g (fun i => a (i + 6)) ro_z, n_Kinds g (fun i => a (i + 14)) ki_z, n_Rule g (fun i => a (i + 20)) ru_z ru_y, n_Notes g (fun i => a (i + 23)) no_z, n_Road g (fun i => a (i + 30)) sro_z, n_Kinds g (fun i => a (i + 38)) ski_z, n_Rule g (fun i => a (i + 44)) sru_z sru_y, n_Notes g (fun i => a (i + 47)) sno_z, n_Odds g (fun i => a (i + 54)) od_z od_y, n_Luck g (fun i => a (i + 57)) lu_z lu_y, n_Falls g (fun i => a (i + 59)) fa_z, n_Odds g (fun i => a (i + 60)) fod_z fod_y, n_House g (fun i => a (i + 63)) ho_z, n_Poles g (fun i => a (i + 64)) po_z, n_Odds g (fun i => a (i + 69)) pod_z pod_y] : List va_W)) (As := [.ref (a 15), .int (ki_z 0 0), .int x2]) (rest := []) (st2 := [.int q2]) hE (fun l => c_WP_findKinds_names l g (fun i => a (i + 14)) ki_z (ki_z 0 0) x2 q2 hc3) cd_X11_find st_X11_find ml_WP_106 rfl rfl ⟨⟨Nat.le_of_ble_eq_true rfl, Nat.le_of_ble_eq_true rfl⟩, ⟨Nat.zero_le _, Nat.zero_le _⟩, rfl, rfl⟩ [4] rfl rfl rfl (Nat.le_of_ble_eq_true rfl) rfl dX11_named_49 ?_
    obtain rfl := Option.some.inj hf
    exact j_iret hE hq rfl rfl dX11_named_52
  refine j_case hf (fun c4 hf => ?_) (fun c4 hf => ?_)
  · refine j_lookup (tgt := 53) hE dX11_named_1 (by decide) (by rw [c4]; try rfl) (by decide) ?_
    refine j_aload_n hE dX11_named_53 rfl 0 rfl ?_
    refine j_get (v := .ref (a 6)) hE lg_WP_21 0 rfl 0 (wg_WP_0 g a ) rfl dX11_named_54 ?_
    refine j_get (v := .ref (a 7)) hE lg_WP_110 3 rfl 0 (wg_Road_0 g (fun i => a (i + 6)) ro_z) rfl dX11_named_57 ?_
    refine j_aload_n hE dX11_named_60 rfl 0 rfl ?_
    refine j_get (v := .ref (a 6)) hE lg_WP_21 0 rfl 0 (wg_WP_0 g a ) rfl dX11_named_61 ?_
    refine j_get (v := .int (ro_z 7 0)) hE lg_WP_111 3 rfl 0 (wg_Road_0 g (fun i => a (i + 6)) ro_z) rfl dX11_named_64 ?_
    refine j_iload_n hE dX11_named_67 rfl 2 rfl ?_
    obtain ⟨q5, hc6, hf⟩ := bind_of hf
    refine j_callS (ws' := ([n_WP g a , n_Reader g (fun i => a (i + 1)) re_z, n_Tape g (fun i => a (i + 4)) ta_z, n_Road g (fun i => a (i + 6)) ro_z, n_Kinds g (fun i => a (i + 14)) ki_z, n_Rule g (fun i => a (i + 20)) ru_z ru_y, n_Notes g (fun i => a (i + 23)) no_z, n_Road g (fun i => a (i + 30)) sro_z, n_Kinds g (fun i => a (i + 38)) ski_z, n_Rule g (fun i => a (i + 44)) sru_z sru_y, n_Notes g (fun i => a (i + 47)) sno_z, n_Odds g (fun i => a (i + 54)) od_z od_y, n_Luck g (fun i => a (i + 57)) lu_z lu_y, n_Falls g (fun i => a (i + 59)) fa_z, n_Odds g (fun i => a (i + 60)) fod_z fod_y, n_House g (fun i => a (i + 63)) ho_z, n_Poles g (fun i => a (i + 64)) po_z, n_Odds g (fun i => a (i + 69)) pod_z pod_y] : List va_W)) (As := [.ref (a 7), .int (ro_z 7 0), .int x2]) (rest := []) (st2 := [.int q5]) hE (fun l => c_WP_findRoad_names l g (fun i => a (i + 6)) ro_z (ro_z 7 0) x2 q5 hc6) cd_X11_find st_X11_find ml_WP_106 rfl rfl ⟨⟨Nat.le_of_ble_eq_true rfl, Nat.le_of_ble_eq_true rfl⟩, ⟨Nat.zero_le _, Nat.zero_le _⟩, rfl, rfl⟩ [3] rfl rfl rfl (Nat.le_of_ble_eq_true rfl) rfl dX11_named_68 ?_
    obtain rfl := Option.some.inj hf
    exact j_iret hE hq rfl rfl dX11_named_71
  have t_c1 : 0 ≠ Int32.toInt x1 := fun h => c1 (Int32.toInt_inj.mp (h.symm.trans (by decide)))
  have t_c4 : 1 ≠ Int32.toInt x1 := fun h => c4 (Int32.toInt_inj.mp (h.symm.trans (by decide)))
  refine j_lookup (off := 71) (tgt := 72) hE dX11_named_1 (by decide) (by simp [Op.lookupswitch.offset, t_c1, t_c4]) (by decide) ?_
  refine j_iconst (v := (-1)) hE dX11_named_72 (by decide) ?_
  obtain rfl := Option.some.inj hf
  exact j_iret hE hq rfl rfl dX11_named_73
def rm_WP_note : Room := { frames := 5, cells := 0, slots := 0, locals := 117 }
def f_WP_note (ro_z : jZ) (no_z : jZ) (x1 : Int32) (x2 : Int32) (x3 : Int32) : Option (jZ × Int32) := (f_Road_has ro_z x1).bind fun q1 => (if q1 = 0 then some (no_z, (-1))
    else (f_WP_isWithin x2 0 8).bind fun q4 => (if q4 = 0 then some (no_z, (-1))
    else (f_WP_isWithin x3 0 9).bind fun q7 => (if q7 = 0 then some (no_z, (-1))
    else (f_Notes_add no_z x1 x2 x3 (-1)).bind fun q10 => some (q10.1, q10.2))))
set_option maxRecDepth 100000 in
theorem c_WP_note (l : Launch) (g : jG) (a : Nat → Nat) (re_z : jZ) (ta_z : jZ) (ro_z : jZ) (ki_z : jZ) (ru_z : jZ) (ru_y : jY) (no_z : jZ) (sro_z : jZ) (ski_z : jZ) (sru_z : jZ) (sru_y : jY) (sno_z : jZ) (od_z : jZ) (od_y : jY) (lu_z : jZ) (lu_y : jY) (fa_z : jZ) (fod_z : jZ) (fod_y : jY) (ho_z : jZ) (po_z : jZ) (pod_z : jZ) (pod_y : jY) (x1 : Int32) (x2 : Int32) (x3 : Int32) (res : jZ × Int32) (hf : f_WP_note ro_z no_z x1 x2 x3 = some res) : MC l g yX11_note cX11_note 4 (some .int) rm_WP_note [.ref (a 0), .int x1, .int x2, .int x3] (([n_WP g a , n_Reader g (fun i => a (i + 1)) re_z, n_Tape g (fun i => a (i + 4)) ta_z, n_Road g (fun i => a (i + 6)) ro_z, n_Kinds g (fun i => a (i + 14)) ki_z, n_Rule g (fun i => a (i + 20)) ru_z ru_y, n_Notes g (fun i => a (i + 23)) no_z, n_Road g (fun i => a (i + 30)) sro_z, n_Kinds g (fun i => a (i + 38)) ski_z, n_Rule g (fun i => a (i + 44)) sru_z sru_y, n_Notes g (fun i => a (i + 47)) sno_z, n_Odds g (fun i => a (i + 54)) od_z od_y, n_Luck g (fun i => a (i + 57)) lu_z lu_y, n_Falls g (fun i => a (i + 59)) fa_z, n_Odds g (fun i => a (i + 60)) fod_z fod_y, n_House g (fun i => a (i + 63)) ho_z, n_Poles g (fun i => a (i + 64)) po_z, n_Odds g (fun i => a (i + 69)) pod_z pod_y] : List va_W)) (some (.int res.2)) (([n_WP g a , n_Reader g (fun i => a (i + 1)) re_z, n_Tape g (fun i => a (i + 4)) ta_z, n_Road g (fun i => a (i + 6)) ro_z, n_Kinds g (fun i => a (i + 14)) ki_z, n_Rule g (fun i => a (i + 20)) ru_z ru_y, n_Notes g (fun i => a (i + 23)) res.1, n_Road g (fun i => a (i + 30)) sro_z, n_Kinds g (fun i => a (i + 38)) ski_z, n_Rule g (fun i => a (i + 44)) sru_z sru_y, n_Notes g (fun i => a (i + 47)) sno_z, n_Odds g (fun i => a (i + 54)) od_z od_y, n_Luck g (fun i => a (i + 57)) lu_z lu_y, n_Falls g (fun i => a (i + 59)) fa_z, n_Odds g (fun i => a (i + 60)) fod_z fod_y, n_House g (fun i => a (i + 63)) ho_z, n_Poles g (fun i => a (i + 64)) po_z, n_Odds g (fun i => a (i + 69)) pod_z pod_y] : List va_W)) 0 0 := by
  refine MC_of (own := RX11) (lv := [(0, .ref (a 0)), (1, .int x1), (2, .int x2), (3, .int x3)]) (by decide) rfl (Nat.le_of_ble_eq_true rfl) rfl rfl (fun E hE hq => ?_)
  unfold f_WP_note at hf
  refine j_aload_n hE dX11_note_0 rfl 0 rfl ?_
  refine j_get (v := .ref (a 6)) hE lg_WP_21 0 rfl 0 (wg_WP_0 g a ) rfl dX11_note_1 ?_
  refine j_iload_n hE dX11_note_4 rfl 1 rfl ?_
  obtain ⟨q1, hc2, hf⟩ := bind_of hf
  refine j_callV (ws' := ([n_WP g a , n_Reader g (fun i => a (i + 1)) re_z, n_Tape g (fun i => a (i + 4)) ta_z, n_Road g (fun i => a (i + 6)) ro_z, n_Kinds g (fun i => a (i + 14)) ki_z, n_Rule g (fun i => a (i + 20)) ru_z ru_y, n_Notes g (fun i => a (i + 23)) no_z, n_Road g (fun i => a (i + 30)) sro_z, n_Kinds g (fun i => a (i + 38)) ski_z, n_Rule g (fun i => a (i + 44)) sru_z sru_y, n_Notes g (fun i => a (i + 47)) sno_z, n_Odds g (fun i => a (i + 54)) od_z od_y, n_Luck g (fun i => a (i + 57)) lu_z lu_y, n_Falls g (fun i => a (i + 59)) fa_z, n_Odds g (fun i => a (i + 60)) fod_z fod_y, n_House g (fun i => a (i + 63)) ho_z, n_Poles g (fun i => a (i + 64)) po_z, n_Odds g (fun i => a (i + 69)) pod_z pod_y] : List va_W)) (As := [.int x1]) (rest := []) (st2 := [.int q1]) hE (fun l => c_Road_has l g (fun i => a (i + 6)) ro_z ki_z ru_z ru_y no_z x1 q1 hc2) cd_X8_has cv_X8_has ml_WP_114 rfl rfl rfl (wg_Road_0 _ _ _) ⟨⟨Nat.le_of_ble_eq_true rfl, Nat.le_of_ble_eq_true rfl⟩, ⟨Nat.zero_le _, Nat.zero_le _⟩, rfl, rfl⟩ [3, 4, 5, 6] rfl rfl rfl (Nat.le_of_ble_eq_true rfl) rfl dX11_note_5 ?_
  refine j_if_eq (tgt := 31) hE hf dX11_note_8 (by decide) (fun c3 hf => ?_) (fun c3 hf => ?_)
  · refine j_iconst (v := (-1)) hE dX11_note_31 (by decide) ?_
    obtain rfl := Option.some.inj hf
    exact j_iret hE hq rfl rfl dX11_note_32
  · refine j_iload_n hE dX11_note_11 rfl 2 rfl ?_
    refine j_iconst (v := 0) hE dX11_note_12 (by decide) ?_
    refine j_bipush (v := 8) hE dX11_note_13 (by decide) ?_
    obtain ⟨q4, hc5, hf⟩ := bind_of hf
    refine j_callS (ws' := ([n_WP g a , n_Reader g (fun i => a (i + 1)) re_z, n_Tape g (fun i => a (i + 4)) ta_z, n_Road g (fun i => a (i + 6)) ro_z, n_Kinds g (fun i => a (i + 14)) ki_z, n_Rule g (fun i => a (i + 20)) ru_z ru_y, n_Notes g (fun i => a (i + 23)) no_z, n_Road g (fun i => a (i + 30)) sro_z, n_Kinds g (fun i => a (i + 38)) ski_z, n_Rule g (fun i => a (i + 44)) sru_z sru_y, n_Notes g (fun i => a (i + 47)) sno_z, n_Odds g (fun i => a (i + 54)) od_z od_y, n_Luck g (fun i => a (i + 57)) lu_z lu_y, n_Falls g (fun i => a (i + 59)) fa_z, n_Odds g (fun i => a (i + 60)) fod_z fod_y, n_House g (fun i => a (i + 63)) ho_z, n_Poles g (fun i => a (i + 64)) po_z, n_Odds g (fun i => a (i + 69)) pod_z pod_y] : List va_W)) (As := [.int x2, .int 0, .int 8]) (rest := []) (st2 := [.int q4]) hE (fun l => c_WP_isWithin l g x2 0 8 q4 hc5) cd_X11_isWithin st_X11_isWithin ml_WP_149 rfl rfl ⟨⟨Nat.le_of_ble_eq_true rfl, Nat.le_of_ble_eq_true rfl⟩, ⟨Nat.zero_le _, Nat.zero_le _⟩, rfl, rfl⟩ [] rfl rfl rfl (Nat.le_of_ble_eq_true rfl) rfl dX11_note_15 ?_
    refine j_if_eq (tgt := 31) hE hf dX11_note_18 (by decide) (fun c6 hf => ?_) (fun c6 hf => ?_)
    · refine j_iconst (v := (-1)) hE dX11_note_31 (by decide) ?_
      obtain rfl := Option.some.inj hf
      exact j_iret hE hq rfl rfl dX11_note_32
    · refine j_iload_n hE dX11_note_21 rfl 3 rfl ?_
      refine j_iconst (v := 0) hE dX11_note_22 (by decide) ?_
      refine j_bipush (v := 9) hE dX11_note_23 (by decide) ?_
      obtain ⟨q7, hc8, hf⟩ := bind_of hf
      refine j_callS (ws' := ([n_WP g a , n_Reader g (fun i => a (i + 1)) re_z, n_Tape g (fun i => a (i + 4)) ta_z, n_Road g (fun i => a (i + 6)) ro_z, n_Kinds g (fun i => a (i + 14)) ki_z, n_Rule g (fun i => a (i + 20)) ru_z ru_y, n_Notes g (fun i => a (i + 23)) no_z, n_Road g (fun i => a (i + 30)) sro_z, n_Kinds g (fun i => a (i + 38)) ski_z, n_Rule g (fun i => a (i + 44)) sru_z sru_y, n_Notes g (fun i => a (i + 47)) sno_z, n_Odds g (fun i => a (i + 54)) od_z od_y, n_Luck g (fun i => a (i + 57)) lu_z lu_y, n_Falls g (fun i => a (i + 59)) fa_z, n_Odds g (fun i => a (i + 60)) fod_z fod_y, n_House g (fun i => a (i + 63)) ho_z, n_Poles g (fun i => a (i + 64)) po_z, n_Odds g (fun i => a (i + 69)) pod_z pod_y] : List va_W)) (As := [.int x3, .int 0, .int 9]) (rest := []) (st2 := [.int q7]) hE (fun l => c_WP_isWithin l g x3 0 9 q7 hc8) cd_X11_isWithin st_X11_isWithin ml_WP_149 rfl rfl ⟨⟨Nat.le_of_ble_eq_true rfl, Nat.le_of_ble_eq_true rfl⟩, ⟨Nat.zero_le _, Nat.zero_le _⟩, rfl, rfl⟩ [] rfl rfl rfl (Nat.le_of_ble_eq_true rfl) rfl dX11_note_25 ?_
      refine j_if_ne (tgt := 33) hE hf dX11_note_28 (by decide) (fun c9 hf => ?_) (fun c9 hf => ?_)
      · refine j_aload_n hE dX11_note_33 rfl 0 rfl ?_
        refine j_get (v := .ref (a 6)) hE lg_WP_21 0 rfl 0 (wg_WP_0 g a ) rfl dX11_note_34 ?_
        refine j_get (v := .ref (a 23)) hE lg_WP_153 3 rfl 0 (wg_Road_0 g (fun i => a (i + 6)) ro_z) rfl dX11_note_37 ?_
        refine j_iload_n hE dX11_note_40 rfl 1 rfl ?_
        refine j_iload_n hE dX11_note_41 rfl 2 rfl ?_
        refine j_iload_n hE dX11_note_42 rfl 3 rfl ?_
        refine j_iconst (v := (-1)) hE dX11_note_43 (by decide) ?_
        obtain ⟨q10, hc11, hf⟩ := bind_of hf
        refine j_callV (ws' := ([n_WP g a , n_Reader g (fun i => a (i + 1)) re_z, n_Tape g (fun i => a (i + 4)) ta_z, n_Road g (fun i => a (i + 6)) ro_z, n_Kinds g (fun i => a (i + 14)) ki_z, n_Rule g (fun i => a (i + 20)) ru_z ru_y, n_Notes g (fun i => a (i + 23)) q10.1, n_Road g (fun i => a (i + 30)) sro_z, n_Kinds g (fun i => a (i + 38)) ski_z, n_Rule g (fun i => a (i + 44)) sru_z sru_y, n_Notes g (fun i => a (i + 47)) sno_z, n_Odds g (fun i => a (i + 54)) od_z od_y, n_Luck g (fun i => a (i + 57)) lu_z lu_y, n_Falls g (fun i => a (i + 59)) fa_z, n_Odds g (fun i => a (i + 60)) fod_z fod_y, n_House g (fun i => a (i + 63)) ho_z, n_Poles g (fun i => a (i + 64)) po_z, n_Odds g (fun i => a (i + 69)) pod_z pod_y] : List va_W)) (As := [.int x1, .int x2, .int x3, .int (-1)]) (rest := []) (st2 := [.int q10.2]) hE (fun l => c_Notes_add l g (fun i => a (i + 23)) no_z x1 x2 x3 (-1) q10 hc11) cd_X4_add cv_X4_add ml_WP_157 rfl rfl rfl (wg_Notes_0 _ _ _) ⟨⟨Nat.le_of_ble_eq_true rfl, Nat.le_of_ble_eq_true rfl⟩, ⟨Nat.zero_le _, Nat.zero_le _⟩, rfl, rfl⟩ [6] rfl rfl rfl (Nat.le_of_ble_eq_true rfl) rfl dX11_note_44 ?_
        obtain rfl := Option.some.inj hf
        exact j_iret hE hq rfl rfl dX11_note_47
      · refine j_iconst (v := (-1)) hE dX11_note_31 (by decide) ?_
        obtain rfl := Option.some.inj hf
        exact j_iret hE hq rfl rfl dX11_note_32
def rm_WP_strike : Room := { frames := 5, cells := 0, slots := 0, locals := 117 }
def f_WP_strike (no_z : jZ) (x1 : Int32) : Option (jZ × Int32) := (f_WP_isWithin x1 0 ((no_z 0 0) - 1)).bind fun q1 => (if q1 = 0 then some (no_z, (-1))
    else (f_Notes_add no_z (-1) (-1) (-1) x1).bind fun q4 => some (q4.1, q4.2))
set_option maxRecDepth 100000 in
theorem c_WP_strike (l : Launch) (g : jG) (a : Nat → Nat) (re_z : jZ) (ta_z : jZ) (ro_z : jZ) (ki_z : jZ) (ru_z : jZ) (ru_y : jY) (no_z : jZ) (sro_z : jZ) (ski_z : jZ) (sru_z : jZ) (sru_y : jY) (sno_z : jZ) (od_z : jZ) (od_y : jY) (lu_z : jZ) (lu_y : jY) (fa_z : jZ) (fod_z : jZ) (fod_y : jY) (ho_z : jZ) (po_z : jZ) (pod_z : jZ) (pod_y : jY) (x1 : Int32) (res : jZ × Int32) (hf : f_WP_strike no_z x1 = some res) : MC l g yX11_strike cX11_strike 2 (some .int) rm_WP_strike [.ref (a 0), .int x1] (([n_WP g a , n_Reader g (fun i => a (i + 1)) re_z, n_Tape g (fun i => a (i + 4)) ta_z, n_Road g (fun i => a (i + 6)) ro_z, n_Kinds g (fun i => a (i + 14)) ki_z, n_Rule g (fun i => a (i + 20)) ru_z ru_y, n_Notes g (fun i => a (i + 23)) no_z, n_Road g (fun i => a (i + 30)) sro_z, n_Kinds g (fun i => a (i + 38)) ski_z, n_Rule g (fun i => a (i + 44)) sru_z sru_y, n_Notes g (fun i => a (i + 47)) sno_z, n_Odds g (fun i => a (i + 54)) od_z od_y, n_Luck g (fun i => a (i + 57)) lu_z lu_y, n_Falls g (fun i => a (i + 59)) fa_z, n_Odds g (fun i => a (i + 60)) fod_z fod_y, n_House g (fun i => a (i + 63)) ho_z, n_Poles g (fun i => a (i + 64)) po_z, n_Odds g (fun i => a (i + 69)) pod_z pod_y] : List va_W)) (some (.int res.2)) (([n_WP g a , n_Reader g (fun i => a (i + 1)) re_z, n_Tape g (fun i => a (i + 4)) ta_z, n_Road g (fun i => a (i + 6)) ro_z, n_Kinds g (fun i => a (i + 14)) ki_z, n_Rule g (fun i => a (i + 20)) ru_z ru_y, n_Notes g (fun i => a (i + 23)) res.1, n_Road g (fun i => a (i + 30)) sro_z, n_Kinds g (fun i => a (i + 38)) ski_z, n_Rule g (fun i => a (i + 44)) sru_z sru_y, n_Notes g (fun i => a (i + 47)) sno_z, n_Odds g (fun i => a (i + 54)) od_z od_y, n_Luck g (fun i => a (i + 57)) lu_z lu_y, n_Falls g (fun i => a (i + 59)) fa_z, n_Odds g (fun i => a (i + 60)) fod_z fod_y, n_House g (fun i => a (i + 63)) ho_z, n_Poles g (fun i => a (i + 64)) po_z, n_Odds g (fun i => a (i + 69)) pod_z pod_y] : List va_W)) 0 0 := by
  refine MC_of (own := RX11) (lv := [(0, .ref (a 0)), (1, .int x1)]) (by decide) rfl (Nat.le_of_ble_eq_true rfl) rfl rfl (fun E hE hq => ?_)
  unfold f_WP_strike at hf
  refine j_iload_n hE dX11_strike_0 rfl 1 rfl ?_
  refine j_iconst (v := 0) hE dX11_strike_1 (by decide) ?_
  refine j_aload_n hE dX11_strike_2 rfl 0 rfl ?_
  refine j_get (v := .ref (a 6)) hE lg_WP_21 0 rfl 0 (wg_WP_0 g a ) rfl dX11_strike_3 ?_
  refine j_get (v := .ref (a 23)) hE lg_WP_153 3 rfl 0 (wg_Road_0 g (fun i => a (i + 6)) ro_z) rfl dX11_strike_6 ?_
  refine j_get (v := .int (no_z 0 0)) hE lg_WP_163 6 rfl 0 (wg_Notes_0 g (fun i => a (i + 23)) no_z) rfl dX11_strike_9 ?_
  refine j_iconst (v := 1) hE dX11_strike_12 (by decide) ?_
  refine j_isub hE dX11_strike_13 ?_
  obtain ⟨q1, hc2, hf⟩ := bind_of hf
  refine j_callS (ws' := ([n_WP g a , n_Reader g (fun i => a (i + 1)) re_z, n_Tape g (fun i => a (i + 4)) ta_z, n_Road g (fun i => a (i + 6)) ro_z, n_Kinds g (fun i => a (i + 14)) ki_z, n_Rule g (fun i => a (i + 20)) ru_z ru_y, n_Notes g (fun i => a (i + 23)) no_z, n_Road g (fun i => a (i + 30)) sro_z, n_Kinds g (fun i => a (i + 38)) ski_z, n_Rule g (fun i => a (i + 44)) sru_z sru_y, n_Notes g (fun i => a (i + 47)) sno_z, n_Odds g (fun i => a (i + 54)) od_z od_y, n_Luck g (fun i => a (i + 57)) lu_z lu_y, n_Falls g (fun i => a (i + 59)) fa_z, n_Odds g (fun i => a (i + 60)) fod_z fod_y, n_House g (fun i => a (i + 63)) ho_z, n_Poles g (fun i => a (i + 64)) po_z, n_Odds g (fun i => a (i + 69)) pod_z pod_y] : List va_W)) (As := [.int x1, .int 0, .int ((no_z 0 0) - 1)]) (rest := []) (st2 := [.int q1]) hE (fun l => c_WP_isWithin l g x1 0 ((no_z 0 0) - 1) q1 hc2) cd_X11_isWithin st_X11_isWithin ml_WP_149 rfl rfl ⟨⟨Nat.le_of_ble_eq_true rfl, Nat.le_of_ble_eq_true rfl⟩, ⟨Nat.zero_le _, Nat.zero_le _⟩, rfl, rfl⟩ [] rfl rfl rfl (Nat.le_of_ble_eq_true rfl) rfl dX11_strike_14 ?_
  refine j_if_ne (tgt := 22) hE hf dX11_strike_17 (by decide) (fun c3 hf => ?_) (fun c3 hf => ?_)
  · refine j_aload_n hE dX11_strike_22 rfl 0 rfl ?_
    refine j_get (v := .ref (a 6)) hE lg_WP_21 0 rfl 0 (wg_WP_0 g a ) rfl dX11_strike_23 ?_
    refine j_get (v := .ref (a 23)) hE lg_WP_153 3 rfl 0 (wg_Road_0 g (fun i => a (i + 6)) ro_z) rfl dX11_strike_26 ?_
    refine j_iconst (v := (-1)) hE dX11_strike_29 (by decide) ?_
    refine j_iconst (v := (-1)) hE dX11_strike_30 (by decide) ?_
    refine j_iconst (v := (-1)) hE dX11_strike_31 (by decide) ?_
    refine j_iload_n hE dX11_strike_32 rfl 1 rfl ?_
    obtain ⟨q4, hc5, hf⟩ := bind_of hf
    refine j_callV (ws' := ([n_WP g a , n_Reader g (fun i => a (i + 1)) re_z, n_Tape g (fun i => a (i + 4)) ta_z, n_Road g (fun i => a (i + 6)) ro_z, n_Kinds g (fun i => a (i + 14)) ki_z, n_Rule g (fun i => a (i + 20)) ru_z ru_y, n_Notes g (fun i => a (i + 23)) q4.1, n_Road g (fun i => a (i + 30)) sro_z, n_Kinds g (fun i => a (i + 38)) ski_z, n_Rule g (fun i => a (i + 44)) sru_z sru_y, n_Notes g (fun i => a (i + 47)) sno_z, n_Odds g (fun i => a (i + 54)) od_z od_y, n_Luck g (fun i => a (i + 57)) lu_z lu_y, n_Falls g (fun i => a (i + 59)) fa_z, n_Odds g (fun i => a (i + 60)) fod_z fod_y, n_House g (fun i => a (i + 63)) ho_z, n_Poles g (fun i => a (i + 64)) po_z, n_Odds g (fun i => a (i + 69)) pod_z pod_y] : List va_W)) (As := [.int (-1), .int (-1), .int (-1), .int x1]) (rest := []) (st2 := [.int q4.2]) hE (fun l => c_Notes_add l g (fun i => a (i + 23)) no_z (-1) (-1) (-1) x1 q4 hc5) cd_X4_add cv_X4_add ml_WP_157 rfl rfl rfl (wg_Notes_0 _ _ _) ⟨⟨Nat.le_of_ble_eq_true rfl, Nat.le_of_ble_eq_true rfl⟩, ⟨Nat.zero_le _, Nat.zero_le _⟩, rfl, rfl⟩ [6] rfl rfl rfl (Nat.le_of_ble_eq_true rfl) rfl dX11_strike_33 ?_
    obtain rfl := Option.some.inj hf
    exact j_iret hE hq rfl rfl dX11_strike_36
  · refine j_iconst (v := (-1)) hE dX11_strike_20 (by decide) ?_
    obtain rfl := Option.some.inj hf
    exact j_iret hE hq rfl rfl dX11_strike_21
def rm_WP_known : Room := { frames := 4, cells := 0, slots := 0, locals := 88 }
def f_WP_known (no_z : jZ) (x1 : Int32) : Option (jZ × Int32) := (f_WP_isWithin x1 (-1) (no_z 0 0)).bind fun q1 => (if q1 = 0 then some (no_z, 0)
    else (f_Notes_limitTo no_z x1).bind fun q4 => some (q4, 1))
set_option maxRecDepth 100000 in
theorem c_WP_known (l : Launch) (g : jG) (a : Nat → Nat) (re_z : jZ) (ta_z : jZ) (ro_z : jZ) (ki_z : jZ) (ru_z : jZ) (ru_y : jY) (no_z : jZ) (sro_z : jZ) (ski_z : jZ) (sru_z : jZ) (sru_y : jY) (sno_z : jZ) (od_z : jZ) (od_y : jY) (lu_z : jZ) (lu_y : jY) (fa_z : jZ) (fod_z : jZ) (fod_y : jY) (ho_z : jZ) (po_z : jZ) (pod_z : jZ) (pod_y : jY) (x1 : Int32) (res : jZ × Int32) (hf : f_WP_known no_z x1 = some res) : MC l g yX11_known cX11_known 2 (some .boolean) rm_WP_known [.ref (a 0), .int x1] (([n_WP g a , n_Reader g (fun i => a (i + 1)) re_z, n_Tape g (fun i => a (i + 4)) ta_z, n_Road g (fun i => a (i + 6)) ro_z, n_Kinds g (fun i => a (i + 14)) ki_z, n_Rule g (fun i => a (i + 20)) ru_z ru_y, n_Notes g (fun i => a (i + 23)) no_z, n_Road g (fun i => a (i + 30)) sro_z, n_Kinds g (fun i => a (i + 38)) ski_z, n_Rule g (fun i => a (i + 44)) sru_z sru_y, n_Notes g (fun i => a (i + 47)) sno_z, n_Odds g (fun i => a (i + 54)) od_z od_y, n_Luck g (fun i => a (i + 57)) lu_z lu_y, n_Falls g (fun i => a (i + 59)) fa_z, n_Odds g (fun i => a (i + 60)) fod_z fod_y, n_House g (fun i => a (i + 63)) ho_z, n_Poles g (fun i => a (i + 64)) po_z, n_Odds g (fun i => a (i + 69)) pod_z pod_y] : List va_W)) (some (.int res.2)) (([n_WP g a , n_Reader g (fun i => a (i + 1)) re_z, n_Tape g (fun i => a (i + 4)) ta_z, n_Road g (fun i => a (i + 6)) ro_z, n_Kinds g (fun i => a (i + 14)) ki_z, n_Rule g (fun i => a (i + 20)) ru_z ru_y, n_Notes g (fun i => a (i + 23)) res.1, n_Road g (fun i => a (i + 30)) sro_z, n_Kinds g (fun i => a (i + 38)) ski_z, n_Rule g (fun i => a (i + 44)) sru_z sru_y, n_Notes g (fun i => a (i + 47)) sno_z, n_Odds g (fun i => a (i + 54)) od_z od_y, n_Luck g (fun i => a (i + 57)) lu_z lu_y, n_Falls g (fun i => a (i + 59)) fa_z, n_Odds g (fun i => a (i + 60)) fod_z fod_y, n_House g (fun i => a (i + 63)) ho_z, n_Poles g (fun i => a (i + 64)) po_z, n_Odds g (fun i => a (i + 69)) pod_z pod_y] : List va_W)) 0 0 := by
  refine MC_of (own := RX11) (lv := [(0, .ref (a 0)), (1, .int x1)]) (by decide) rfl (Nat.le_of_ble_eq_true rfl) rfl rfl (fun E hE hq => ?_)
  unfold f_WP_known at hf
  refine j_iload_n hE dX11_known_0 rfl 1 rfl ?_
  refine j_iconst (v := (-1)) hE dX11_known_1 (by decide) ?_
  refine j_aload_n hE dX11_known_2 rfl 0 rfl ?_
  refine j_get (v := .ref (a 6)) hE lg_WP_21 0 rfl 0 (wg_WP_0 g a ) rfl dX11_known_3 ?_
  refine j_get (v := .ref (a 23)) hE lg_WP_153 3 rfl 0 (wg_Road_0 g (fun i => a (i + 6)) ro_z) rfl dX11_known_6 ?_
  refine j_get (v := .int (no_z 0 0)) hE lg_WP_163 6 rfl 0 (wg_Notes_0 g (fun i => a (i + 23)) no_z) rfl dX11_known_9 ?_
  obtain ⟨q1, hc2, hf⟩ := bind_of hf
  refine j_callS (ws' := ([n_WP g a , n_Reader g (fun i => a (i + 1)) re_z, n_Tape g (fun i => a (i + 4)) ta_z, n_Road g (fun i => a (i + 6)) ro_z, n_Kinds g (fun i => a (i + 14)) ki_z, n_Rule g (fun i => a (i + 20)) ru_z ru_y, n_Notes g (fun i => a (i + 23)) no_z, n_Road g (fun i => a (i + 30)) sro_z, n_Kinds g (fun i => a (i + 38)) ski_z, n_Rule g (fun i => a (i + 44)) sru_z sru_y, n_Notes g (fun i => a (i + 47)) sno_z, n_Odds g (fun i => a (i + 54)) od_z od_y, n_Luck g (fun i => a (i + 57)) lu_z lu_y, n_Falls g (fun i => a (i + 59)) fa_z, n_Odds g (fun i => a (i + 60)) fod_z fod_y, n_House g (fun i => a (i + 63)) ho_z, n_Poles g (fun i => a (i + 64)) po_z, n_Odds g (fun i => a (i + 69)) pod_z pod_y] : List va_W)) (As := [.int x1, .int (-1), .int (no_z 0 0)]) (rest := []) (st2 := [.int q1]) hE (fun l => c_WP_isWithin l g x1 (-1) (no_z 0 0) q1 hc2) cd_X11_isWithin st_X11_isWithin ml_WP_149 rfl rfl ⟨⟨Nat.le_of_ble_eq_true rfl, Nat.le_of_ble_eq_true rfl⟩, ⟨Nat.zero_le _, Nat.zero_le _⟩, rfl, rfl⟩ [] rfl rfl rfl (Nat.le_of_ble_eq_true rfl) rfl dX11_known_12 ?_
  refine j_if_ne (tgt := 20) hE hf dX11_known_15 (by decide) (fun c3 hf => ?_) (fun c3 hf => ?_)
  · refine j_aload_n hE dX11_known_20 rfl 0 rfl ?_
    refine j_get (v := .ref (a 6)) hE lg_WP_21 0 rfl 0 (wg_WP_0 g a ) rfl dX11_known_21 ?_
    refine j_get (v := .ref (a 23)) hE lg_WP_153 3 rfl 0 (wg_Road_0 g (fun i => a (i + 6)) ro_z) rfl dX11_known_24 ?_
    refine j_iload_n hE dX11_known_27 rfl 1 rfl ?_
    obtain ⟨q4, hc5, hf⟩ := bind_of hf
    refine j_callV (ws' := ([n_WP g a , n_Reader g (fun i => a (i + 1)) re_z, n_Tape g (fun i => a (i + 4)) ta_z, n_Road g (fun i => a (i + 6)) ro_z, n_Kinds g (fun i => a (i + 14)) ki_z, n_Rule g (fun i => a (i + 20)) ru_z ru_y, n_Notes g (fun i => a (i + 23)) q4, n_Road g (fun i => a (i + 30)) sro_z, n_Kinds g (fun i => a (i + 38)) ski_z, n_Rule g (fun i => a (i + 44)) sru_z sru_y, n_Notes g (fun i => a (i + 47)) sno_z, n_Odds g (fun i => a (i + 54)) od_z od_y, n_Luck g (fun i => a (i + 57)) lu_z lu_y, n_Falls g (fun i => a (i + 59)) fa_z, n_Odds g (fun i => a (i + 60)) fod_z fod_y, n_House g (fun i => a (i + 63)) ho_z, n_Poles g (fun i => a (i + 64)) po_z, n_Odds g (fun i => a (i + 69)) pod_z pod_y] : List va_W)) (As := [.int x1]) (rest := []) (st2 := []) hE (fun l => c_Notes_limitTo l g (fun i => a (i + 23)) no_z x1 q4 hc5) cd_X4_limitTo cv_X4_limitTo ml_WP_164 rfl rfl rfl (wg_Notes_0 _ _ _) ⟨⟨Nat.le_of_ble_eq_true rfl, Nat.le_of_ble_eq_true rfl⟩, ⟨Nat.zero_le _, Nat.zero_le _⟩, rfl, rfl⟩ [6] rfl rfl rfl (Nat.le_of_ble_eq_true rfl) rfl dX11_known_28 ?_
    refine j_iconst (v := 1) hE dX11_known_31 (by decide) ?_
    obtain rfl := Option.some.inj hf
    exact j_zret_c hE (Or.inr rfl) hq rfl rfl dX11_known_32
  · refine j_iconst (v := 0) hE dX11_known_18 (by decide) ?_
    obtain rfl := Option.some.inj hf
    exact j_zret_c hE (Or.inl rfl) hq rfl rfl dX11_known_19
def rm_WP_count : Room := { frames := 1, cells := 0, slots := 0, locals := 23 }
def f_WP_count (ro_z : jZ) (no_z : jZ) (x1 : Int32) (x2 : Int32) : Option (Int32) := (f_Road_has ro_z x1).bind fun q1 => (if q1 = 0 then some (-1)
    else (f_Notes_at no_z x1 x2).bind fun q4 => some q4)
set_option maxRecDepth 100000 in
theorem c_WP_count (l : Launch) (g : jG) (a : Nat → Nat) (re_z : jZ) (ta_z : jZ) (ro_z : jZ) (ki_z : jZ) (ru_z : jZ) (ru_y : jY) (no_z : jZ) (sro_z : jZ) (ski_z : jZ) (sru_z : jZ) (sru_y : jY) (sno_z : jZ) (od_z : jZ) (od_y : jY) (lu_z : jZ) (lu_y : jY) (fa_z : jZ) (fod_z : jZ) (fod_y : jY) (ho_z : jZ) (po_z : jZ) (pod_z : jZ) (pod_y : jY) (x1 : Int32) (x2 : Int32) (res : Int32) (hf : f_WP_count ro_z no_z x1 x2 = some res) : MC l g yX11_count cX11_count 3 (some .int) rm_WP_count [.ref (a 0), .int x1, .int x2] (([n_WP g a , n_Reader g (fun i => a (i + 1)) re_z, n_Tape g (fun i => a (i + 4)) ta_z, n_Road g (fun i => a (i + 6)) ro_z, n_Kinds g (fun i => a (i + 14)) ki_z, n_Rule g (fun i => a (i + 20)) ru_z ru_y, n_Notes g (fun i => a (i + 23)) no_z, n_Road g (fun i => a (i + 30)) sro_z, n_Kinds g (fun i => a (i + 38)) ski_z, n_Rule g (fun i => a (i + 44)) sru_z sru_y, n_Notes g (fun i => a (i + 47)) sno_z, n_Odds g (fun i => a (i + 54)) od_z od_y, n_Luck g (fun i => a (i + 57)) lu_z lu_y, n_Falls g (fun i => a (i + 59)) fa_z, n_Odds g (fun i => a (i + 60)) fod_z fod_y, n_House g (fun i => a (i + 63)) ho_z, n_Poles g (fun i => a (i + 64)) po_z, n_Odds g (fun i => a (i + 69)) pod_z pod_y] : List va_W)) (some (.int res)) (([n_WP g a , n_Reader g (fun i => a (i + 1)) re_z, n_Tape g (fun i => a (i + 4)) ta_z, n_Road g (fun i => a (i + 6)) ro_z, n_Kinds g (fun i => a (i + 14)) ki_z, n_Rule g (fun i => a (i + 20)) ru_z ru_y, n_Notes g (fun i => a (i + 23)) no_z, n_Road g (fun i => a (i + 30)) sro_z, n_Kinds g (fun i => a (i + 38)) ski_z, n_Rule g (fun i => a (i + 44)) sru_z sru_y, n_Notes g (fun i => a (i + 47)) sno_z, n_Odds g (fun i => a (i + 54)) od_z od_y, n_Luck g (fun i => a (i + 57)) lu_z lu_y, n_Falls g (fun i => a (i + 59)) fa_z, n_Odds g (fun i => a (i + 60)) fod_z fod_y, n_House g (fun i => a (i + 63)) ho_z, n_Poles g (fun i => a (i + 64)) po_z, n_Odds g (fun i => a (i + 69)) pod_z pod_y] : List va_W)) 0 0 := by
  refine MC_of (own := RX11) (lv := [(0, .ref (a 0)), (1, .int x1), (2, .int x2)]) (by decide) rfl (Nat.le_of_ble_eq_true rfl) rfl rfl (fun E hE hq => ?_)
  unfold f_WP_count at hf
  refine j_aload_n hE dX11_count_0 rfl 0 rfl ?_
  refine j_get (v := .ref (a 6)) hE lg_WP_21 0 rfl 0 (wg_WP_0 g a ) rfl dX11_count_1 ?_
  refine j_iload_n hE dX11_count_4 rfl 1 rfl ?_
  obtain ⟨q1, hc2, hf⟩ := bind_of hf
  refine j_callV (ws' := ([n_WP g a , n_Reader g (fun i => a (i + 1)) re_z, n_Tape g (fun i => a (i + 4)) ta_z, n_Road g (fun i => a (i + 6)) ro_z, n_Kinds g (fun i => a (i + 14)) ki_z, n_Rule g (fun i => a (i + 20)) ru_z ru_y, n_Notes g (fun i => a (i + 23)) no_z, n_Road g (fun i => a (i + 30)) sro_z, n_Kinds g (fun i => a (i + 38)) ski_z, n_Rule g (fun i => a (i + 44)) sru_z sru_y, n_Notes g (fun i => a (i + 47)) sno_z, n_Odds g (fun i => a (i + 54)) od_z od_y, n_Luck g (fun i => a (i + 57)) lu_z lu_y, n_Falls g (fun i => a (i + 59)) fa_z, n_Odds g (fun i => a (i + 60)) fod_z fod_y, n_House g (fun i => a (i + 63)) ho_z, n_Poles g (fun i => a (i + 64)) po_z, n_Odds g (fun i => a (i + 69)) pod_z pod_y] : List va_W)) (As := [.int x1]) (rest := []) (st2 := [.int q1]) hE (fun l => c_Road_has l g (fun i => a (i + 6)) ro_z ki_z ru_z ru_y no_z x1 q1 hc2) cd_X8_has cv_X8_has ml_WP_114 rfl rfl rfl (wg_Road_0 _ _ _) ⟨⟨Nat.le_of_ble_eq_true rfl, Nat.le_of_ble_eq_true rfl⟩, ⟨Nat.zero_le _, Nat.zero_le _⟩, rfl, rfl⟩ [3, 4, 5, 6] rfl rfl rfl (Nat.le_of_ble_eq_true rfl) rfl dX11_count_5 ?_
  refine j_if_eq (tgt := 26) hE hf dX11_count_8 (by decide) (fun c3 hf => ?_) (fun c3 hf => ?_)
  · refine j_iconst (v := (-1)) hE dX11_count_26 (by decide) ?_
    obtain rfl := Option.some.inj hf
    exact j_iret hE hq rfl rfl dX11_count_27
  · refine j_aload_n hE dX11_count_11 rfl 0 rfl ?_
    refine j_get (v := .ref (a 6)) hE lg_WP_21 0 rfl 0 (wg_WP_0 g a ) rfl dX11_count_12 ?_
    refine j_get (v := .ref (a 23)) hE lg_WP_153 3 rfl 0 (wg_Road_0 g (fun i => a (i + 6)) ro_z) rfl dX11_count_15 ?_
    refine j_iload_n hE dX11_count_18 rfl 1 rfl ?_
    refine j_iload_n hE dX11_count_19 rfl 2 rfl ?_
    obtain ⟨q4, hc5, hf⟩ := bind_of hf
    refine j_callV (ws' := ([n_WP g a , n_Reader g (fun i => a (i + 1)) re_z, n_Tape g (fun i => a (i + 4)) ta_z, n_Road g (fun i => a (i + 6)) ro_z, n_Kinds g (fun i => a (i + 14)) ki_z, n_Rule g (fun i => a (i + 20)) ru_z ru_y, n_Notes g (fun i => a (i + 23)) no_z, n_Road g (fun i => a (i + 30)) sro_z, n_Kinds g (fun i => a (i + 38)) ski_z, n_Rule g (fun i => a (i + 44)) sru_z sru_y, n_Notes g (fun i => a (i + 47)) sno_z, n_Odds g (fun i => a (i + 54)) od_z od_y, n_Luck g (fun i => a (i + 57)) lu_z lu_y, n_Falls g (fun i => a (i + 59)) fa_z, n_Odds g (fun i => a (i + 60)) fod_z fod_y, n_House g (fun i => a (i + 63)) ho_z, n_Poles g (fun i => a (i + 64)) po_z, n_Odds g (fun i => a (i + 69)) pod_z pod_y] : List va_W)) (As := [.int x1, .int x2]) (rest := []) (st2 := [.int q4]) hE (fun l => c_Notes_at l g (fun i => a (i + 23)) no_z x1 x2 q4 hc5) cd_X4_at cv_X4_at ml_WP_167 rfl rfl rfl (wg_Notes_0 _ _ _) ⟨⟨Nat.le_of_ble_eq_true rfl, Nat.le_of_ble_eq_true rfl⟩, ⟨Nat.zero_le _, Nat.zero_le _⟩, rfl, rfl⟩ [6] rfl rfl rfl (Nat.le_of_ble_eq_true rfl) rfl dX11_count_20 ?_
    refine j_goto (tgt := 27) hE dX11_count_23 (by decide) ?_
    obtain rfl := Option.some.inj hf
    exact j_iret hE hq rfl rfl dX11_count_27
def rm_WP_areYears : Room := { frames := 0, cells := 0, slots := 0, locals := 0 }
def f_WP_areYears  (x0 : Int32) (x1 : Int32) : Option (Int32) := (if x0 < 0 then some 0
    else (if x1 < x0 then some 0
    else (if 9 ≤ x1 then some 0
    else (if 6 ≤ (x1 - x0) then some 0
    else some 1))))
set_option maxRecDepth 100000 in
theorem c_WP_areYears (l : Launch) (g : jG)   (x0 : Int32) (x1 : Int32) (res : Int32) (hf : f_WP_areYears x0 x1 = some res) : MC l g yX11_areYears cX11_areYears 2 (some .boolean) rm_WP_areYears [.int x0, .int x1] (([] : List va_W)) (some (.int res)) (([] : List va_W)) 0 0 := by
  refine MC_of (own := RX11) (lv := [(0, .int x0), (1, .int x1)]) (by decide) rfl (Nat.le_of_ble_eq_true rfl) rfl rfl (fun E hE hq => ?_)
  unfold f_WP_areYears at hf
  refine j_iload_n hE dX11_areYears_0 rfl 0 rfl ?_
  refine j_if_lt (tgt := 27) hE hf dX11_areYears_1 (by decide) (fun c1 hf => ?_) (fun c1 hf => ?_)
  · refine j_iconst (v := 0) hE dX11_areYears_27 (by decide) ?_
    obtain rfl := Option.some.inj hf
    exact j_zret_c hE (Or.inl rfl) hq rfl rfl dX11_areYears_28
  · refine j_iload_n hE dX11_areYears_4 rfl 0 rfl ?_
    refine j_iload_n hE dX11_areYears_5 rfl 1 rfl ?_
    refine j_icmp_gt (tgt := 27) hE hf dX11_areYears_6 (by decide) (fun c2 hf => ?_) (fun c2 hf => ?_)
    · refine j_iconst (v := 0) hE dX11_areYears_27 (by decide) ?_
      obtain rfl := Option.some.inj hf
      exact j_zret_c hE (Or.inl rfl) hq rfl rfl dX11_areYears_28
    · refine j_iload_n hE dX11_areYears_9 rfl 1 rfl ?_
      refine j_bipush (v := 9) hE dX11_areYears_10 (by decide) ?_
      refine j_icmp_ge (tgt := 27) hE hf dX11_areYears_12 (by decide) (fun c3 hf => ?_) (fun c3 hf => ?_)
      · refine j_iconst (v := 0) hE dX11_areYears_27 (by decide) ?_
        obtain rfl := Option.some.inj hf
        exact j_zret_c hE (Or.inl rfl) hq rfl rfl dX11_areYears_28
      · refine j_iload_n hE dX11_areYears_15 rfl 1 rfl ?_
        refine j_iload_n hE dX11_areYears_16 rfl 0 rfl ?_
        refine j_isub hE dX11_areYears_17 ?_
        refine j_bipush (v := 6) hE dX11_areYears_18 (by decide) ?_
        refine j_icmp_ge (tgt := 27) hE hf dX11_areYears_20 (by decide) (fun c4 hf => ?_) (fun c4 hf => ?_)
        · refine j_iconst (v := 0) hE dX11_areYears_27 (by decide) ?_
          obtain rfl := Option.some.inj hf
          exact j_zret_c hE (Or.inl rfl) hq rfl rfl dX11_areYears_28
        · refine j_iconst (v := 1) hE dX11_areYears_23 (by decide) ?_
          refine j_goto (tgt := 28) hE dX11_areYears_24 (by decide) ?_
          obtain rfl := Option.some.inj hf
          exact j_zret_c hE (Or.inr rfl) hq rfl rfl dX11_areYears_28
def rm_WP_likely : Room := { frames := 2, cells := 0, slots := 0, locals := 52 }
def f_WP_likely (ro_z : jZ) (ki_z : jZ) (no_z : jZ) (x1 : Int32) (x2 : Int32) (x3 : Int32) (x4 : Int32) : Option (Int64) := (f_WP_isWithin x1 0 ((ki_z 0 0) - 1)).bind fun q1 => (if q1 = 0 then some (-1)
    else (f_Road_has ro_z x2).bind fun q4 => (if q4 = 0 then some (-1)
    else (f_WP_areYears x3 x4).bind fun q7 => (if q7 = 0 then some (-1)
    else (f_Odds_weigh ki_z no_z x1 x2 x3 x4).bind fun q10 => some q10)))
set_option maxRecDepth 100000 in
theorem c_WP_likely (l : Launch) (g : jG) (a : Nat → Nat) (re_z : jZ) (ta_z : jZ) (ro_z : jZ) (ki_z : jZ) (ru_z : jZ) (ru_y : jY) (no_z : jZ) (sro_z : jZ) (ski_z : jZ) (sru_z : jZ) (sru_y : jY) (sno_z : jZ) (od_z : jZ) (od_y : jY) (lu_z : jZ) (lu_y : jY) (fa_z : jZ) (fod_z : jZ) (fod_y : jY) (ho_z : jZ) (po_z : jZ) (pod_z : jZ) (pod_y : jY) (x1 : Int32) (x2 : Int32) (x3 : Int32) (x4 : Int32) (res : Int64) (hf : f_WP_likely ro_z ki_z no_z x1 x2 x3 x4 = some res) : MC l g yX11_likely cX11_likely 5 (some .long) rm_WP_likely [.ref (a 0), .int x1, .int x2, .int x3, .int x4] (([n_WP g a , n_Reader g (fun i => a (i + 1)) re_z, n_Tape g (fun i => a (i + 4)) ta_z, n_Road g (fun i => a (i + 6)) ro_z, n_Kinds g (fun i => a (i + 14)) ki_z, n_Rule g (fun i => a (i + 20)) ru_z ru_y, n_Notes g (fun i => a (i + 23)) no_z, n_Road g (fun i => a (i + 30)) sro_z, n_Kinds g (fun i => a (i + 38)) ski_z, n_Rule g (fun i => a (i + 44)) sru_z sru_y, n_Notes g (fun i => a (i + 47)) sno_z, n_Odds g (fun i => a (i + 54)) od_z od_y, n_Luck g (fun i => a (i + 57)) lu_z lu_y, n_Falls g (fun i => a (i + 59)) fa_z, n_Odds g (fun i => a (i + 60)) fod_z fod_y, n_House g (fun i => a (i + 63)) ho_z, n_Poles g (fun i => a (i + 64)) po_z, n_Odds g (fun i => a (i + 69)) pod_z pod_y] : List va_W)) (some (.long res)) (([n_WP g a , n_Reader g (fun i => a (i + 1)) re_z, n_Tape g (fun i => a (i + 4)) ta_z, n_Road g (fun i => a (i + 6)) ro_z, n_Kinds g (fun i => a (i + 14)) ki_z, n_Rule g (fun i => a (i + 20)) ru_z ru_y, n_Notes g (fun i => a (i + 23)) no_z, n_Road g (fun i => a (i + 30)) sro_z, n_Kinds g (fun i => a (i + 38)) ski_z, n_Rule g (fun i => a (i + 44)) sru_z sru_y, n_Notes g (fun i => a (i + 47)) sno_z, n_Odds g (fun i => a (i + 54)) od_z od_y, n_Luck g (fun i => a (i + 57)) lu_z lu_y, n_Falls g (fun i => a (i + 59)) fa_z, n_Odds g (fun i => a (i + 60)) fod_z fod_y, n_House g (fun i => a (i + 63)) ho_z, n_Poles g (fun i => a (i + 64)) po_z, n_Odds g (fun i => a (i + 69)) pod_z pod_y] : List va_W)) 0 0 := by
  refine MC_of (own := RX11) (lv := [(0, .ref (a 0)), (1, .int x1), (2, .int x2), (3, .int x3), (4, .int x4)]) (by decide) rfl (Nat.le_of_ble_eq_true rfl) rfl rfl (fun E hE hq => ?_)
  unfold f_WP_likely at hf
  refine j_iload_n hE dX11_likely_0 rfl 1 rfl ?_
  refine j_iconst (v := 0) hE dX11_likely_1 (by decide) ?_
  refine j_aload_n hE dX11_likely_2 rfl 0 rfl ?_
  refine j_get (v := .ref (a 6)) hE lg_WP_21 0 rfl 0 (wg_WP_0 g a ) rfl dX11_likely_3 ?_
  refine j_get (v := .ref (a 14)) hE lg_WP_93 3 rfl 0 (wg_Road_0 g (fun i => a (i + 6)) ro_z) rfl dX11_likely_6 ?_
  refine j_get (v := .int (ki_z 0 0)) hE lg_WP_103 4 rfl 0 (wg_Kinds_0 g (fun i => a (i + 14)) ki_z) rfl dX11_likely_9 ?_
  refine j_iconst (v := 1) hE dX11_likely_12 (by decide) ?_
  refine j_isub hE dX11_likely_13 ?_
  obtain ⟨q1, hc2, hf⟩ := bind_of hf
  refine j_callS (ws' := ([n_WP g a , n_Reader g (fun i => a (i + 1)) re_z, n_Tape g (fun i => a (i + 4)) ta_z, n_Road g (fun i => a (i + 6)) ro_z, n_Kinds g (fun i => a (i + 14)) ki_z, n_Rule g (fun i => a (i + 20)) ru_z ru_y, n_Notes g (fun i => a (i + 23)) no_z, n_Road g (fun i => a (i + 30)) sro_z, n_Kinds g (fun i => a (i + 38)) ski_z, n_Rule g (fun i => a (i + 44)) sru_z sru_y, n_Notes g (fun i => a (i + 47)) sno_z, n_Odds g (fun i => a (i + 54)) od_z od_y, n_Luck g (fun i => a (i + 57)) lu_z lu_y, n_Falls g (fun i => a (i + 59)) fa_z, n_Odds g (fun i => a (i + 60)) fod_z fod_y, n_House g (fun i => a (i + 63)) ho_z, n_Poles g (fun i => a (i + 64)) po_z, n_Odds g (fun i => a (i + 69)) pod_z pod_y] : List va_W)) (As := [.int x1, .int 0, .int ((ki_z 0 0) - 1)]) (rest := []) (st2 := [.int q1]) hE (fun l => c_WP_isWithin l g x1 0 ((ki_z 0 0) - 1) q1 hc2) cd_X11_isWithin st_X11_isWithin ml_WP_149 rfl rfl ⟨⟨Nat.le_of_ble_eq_true rfl, Nat.le_of_ble_eq_true rfl⟩, ⟨Nat.zero_le _, Nat.zero_le _⟩, rfl, rfl⟩ [] rfl rfl rfl (Nat.le_of_ble_eq_true rfl) rfl dX11_likely_14 ?_
  refine j_if_eq (tgt := 40) hE hf dX11_likely_17 (by decide) (fun c3 hf => ?_) (fun c3 hf => ?_)
  · refine j_ldc2 hE co_WP_175 dX11_likely_40 ?_
    obtain rfl := Option.some.inj hf
    exact j_lret hE hq rfl rfl dX11_likely_43
  · refine j_aload_n hE dX11_likely_20 rfl 0 rfl ?_
    refine j_get (v := .ref (a 6)) hE lg_WP_21 0 rfl 0 (wg_WP_0 g a ) rfl dX11_likely_21 ?_
    refine j_iload_n hE dX11_likely_24 rfl 2 rfl ?_
    obtain ⟨q4, hc5, hf⟩ := bind_of hf
    refine j_callV (ws' := ([n_WP g a , n_Reader g (fun i => a (i + 1)) re_z, n_Tape g (fun i => a (i + 4)) ta_z, n_Road g (fun i => a (i + 6)) ro_z, n_Kinds g (fun i => a (i + 14)) ki_z, n_Rule g (fun i => a (i + 20)) ru_z ru_y, n_Notes g (fun i => a (i + 23)) no_z, n_Road g (fun i => a (i + 30)) sro_z, n_Kinds g (fun i => a (i + 38)) ski_z, n_Rule g (fun i => a (i + 44)) sru_z sru_y, n_Notes g (fun i => a (i + 47)) sno_z, n_Odds g (fun i => a (i + 54)) od_z od_y, n_Luck g (fun i => a (i + 57)) lu_z lu_y, n_Falls g (fun i => a (i + 59)) fa_z, n_Odds g (fun i => a (i + 60)) fod_z fod_y, n_House g (fun i => a (i + 63)) ho_z, n_Poles g (fun i => a (i + 64)) po_z, n_Odds g (fun i => a (i + 69)) pod_z pod_y] : List va_W)) (As := [.int x2]) (rest := []) (st2 := [.int q4]) hE (fun l => c_Road_has l g (fun i => a (i + 6)) ro_z ki_z ru_z ru_y no_z x2 q4 hc5) cd_X8_has cv_X8_has ml_WP_114 rfl rfl rfl (wg_Road_0 _ _ _) ⟨⟨Nat.le_of_ble_eq_true rfl, Nat.le_of_ble_eq_true rfl⟩, ⟨Nat.zero_le _, Nat.zero_le _⟩, rfl, rfl⟩ [3, 4, 5, 6] rfl rfl rfl (Nat.le_of_ble_eq_true rfl) rfl dX11_likely_25 ?_
    refine j_if_eq (tgt := 40) hE hf dX11_likely_28 (by decide) (fun c6 hf => ?_) (fun c6 hf => ?_)
    · refine j_ldc2 hE co_WP_175 dX11_likely_40 ?_
      obtain rfl := Option.some.inj hf
      exact j_lret hE hq rfl rfl dX11_likely_43
    · refine j_iload_n hE dX11_likely_31 rfl 3 rfl ?_
      refine j_iload hE dX11_likely_32 4 rfl ?_
      obtain ⟨q7, hc8, hf⟩ := bind_of hf
      refine j_callS (ws' := ([n_WP g a , n_Reader g (fun i => a (i + 1)) re_z, n_Tape g (fun i => a (i + 4)) ta_z, n_Road g (fun i => a (i + 6)) ro_z, n_Kinds g (fun i => a (i + 14)) ki_z, n_Rule g (fun i => a (i + 20)) ru_z ru_y, n_Notes g (fun i => a (i + 23)) no_z, n_Road g (fun i => a (i + 30)) sro_z, n_Kinds g (fun i => a (i + 38)) ski_z, n_Rule g (fun i => a (i + 44)) sru_z sru_y, n_Notes g (fun i => a (i + 47)) sno_z, n_Odds g (fun i => a (i + 54)) od_z od_y, n_Luck g (fun i => a (i + 57)) lu_z lu_y, n_Falls g (fun i => a (i + 59)) fa_z, n_Odds g (fun i => a (i + 60)) fod_z fod_y, n_House g (fun i => a (i + 63)) ho_z, n_Poles g (fun i => a (i + 64)) po_z, n_Odds g (fun i => a (i + 69)) pod_z pod_y] : List va_W)) (As := [.int x3, .int x4]) (rest := []) (st2 := [.int q7]) hE (fun l => c_WP_areYears l g x3 x4 q7 hc8) cd_X11_areYears st_X11_areYears ml_WP_171 rfl rfl ⟨⟨Nat.le_of_ble_eq_true rfl, Nat.le_of_ble_eq_true rfl⟩, ⟨Nat.zero_le _, Nat.zero_le _⟩, rfl, rfl⟩ [] rfl rfl rfl (Nat.le_of_ble_eq_true rfl) rfl dX11_likely_34 ?_
      refine j_if_ne (tgt := 44) hE hf dX11_likely_37 (by decide) (fun c9 hf => ?_) (fun c9 hf => ?_)
      · refine j_aload_n hE dX11_likely_44 rfl 0 rfl ?_
        refine j_get (v := .ref (a 54)) hE lg_WP_31 0 rfl 0 (wg_WP_0 g a ) rfl dX11_likely_45 ?_
        refine j_aload_n hE dX11_likely_48 rfl 0 rfl ?_
        refine j_get (v := .ref (a 6)) hE lg_WP_21 0 rfl 0 (wg_WP_0 g a ) rfl dX11_likely_49 ?_
        refine j_iload_n hE dX11_likely_52 rfl 1 rfl ?_
        refine j_iload_n hE dX11_likely_53 rfl 2 rfl ?_
        refine j_iload_n hE dX11_likely_54 rfl 3 rfl ?_
        refine j_iload hE dX11_likely_55 4 rfl ?_
        obtain ⟨q10, hc11, hf⟩ := bind_of hf
        refine j_callV (ws' := ([n_WP g a , n_Reader g (fun i => a (i + 1)) re_z, n_Tape g (fun i => a (i + 4)) ta_z, n_Road g (fun i => a (i + 6)) ro_z, n_Kinds g (fun i => a (i + 14)) ki_z, n_Rule g (fun i => a (i + 20)) ru_z ru_y, n_Notes g (fun i => a (i + 23)) no_z, n_Road g (fun i => a (i + 30)) sro_z, n_Kinds g (fun i => a (i + 38)) ski_z, n_Rule g (fun i => a (i + 44)) sru_z sru_y, n_Notes g (fun i => a (i + 47)) sno_z, n_Odds g (fun i => a (i + 54)) od_z od_y, n_Luck g (fun i => a (i + 57)) lu_z lu_y, n_Falls g (fun i => a (i + 59)) fa_z, n_Odds g (fun i => a (i + 60)) fod_z fod_y, n_House g (fun i => a (i + 63)) ho_z, n_Poles g (fun i => a (i + 64)) po_z, n_Odds g (fun i => a (i + 69)) pod_z pod_y] : List va_W)) (As := [.ref (a 6), .int x1, .int x2, .int x3, .int x4]) (rest := []) (st2 := [.long q10]) hE (fun l => c_Odds_weigh l g (fun i => a (i + 54)) (fun i => a (i + 6)) od_z od_y ro_z ki_z ru_z ru_y no_z x1 x2 x3 x4 q10 hc11) cd_X5_weigh cv_X5_weigh ml_WP_177 rfl rfl rfl (wg_Odds_0 _ _ _ _) ⟨⟨Nat.le_of_ble_eq_true rfl, Nat.le_of_ble_eq_true rfl⟩, ⟨Nat.zero_le _, Nat.zero_le _⟩, rfl, rfl⟩ [11, 3, 4, 5, 6] rfl rfl rfl (Nat.le_of_ble_eq_true rfl) rfl dX11_likely_57 ?_
        obtain rfl := Option.some.inj hf
        exact j_lret hE hq rfl rfl dX11_likely_60
      · refine j_ldc2 hE co_WP_175 dX11_likely_40 ?_
        obtain rfl := Option.some.inj hf
        exact j_lret hE hq rfl rfl dX11_likely_43
def rm_WP_rate : Room := { frames := 4, cells := 0, slots := 0, locals := 109 }
def f_WP_rate (ro_z : jZ) (ki_z : jZ) (no_z : jZ) (od_y : jY) (x1 : Int32) (x2 : Int32) (x3 : Int32) (x4 : Int32) : Option (jY × Int64) := (f_Road_has ro_z x1).bind fun q1 => (if q1 = 0 then some (od_y, (-1))
    else (f_WP_areYears x2 x3).bind fun q4 => (if q4 = 0 then some (od_y, (-1))
    else (f_WP_isWithin x4 0 1).bind fun q7 => (if q7 = 0 then some (od_y, (-1))
    else (f_Odds_seekRate od_y ki_z no_z x1 x2 x3).bind fun q10 => (if x4 = 0 then some (q10, (q10 2 0))
    else some (q10, (q10 3 0))))))
set_option maxRecDepth 100000 in
theorem c_WP_rate (l : Launch) (g : jG) (a : Nat → Nat) (re_z : jZ) (ta_z : jZ) (ro_z : jZ) (ki_z : jZ) (ru_z : jZ) (ru_y : jY) (no_z : jZ) (sro_z : jZ) (ski_z : jZ) (sru_z : jZ) (sru_y : jY) (sno_z : jZ) (od_z : jZ) (od_y : jY) (lu_z : jZ) (lu_y : jY) (fa_z : jZ) (fod_z : jZ) (fod_y : jY) (ho_z : jZ) (po_z : jZ) (pod_z : jZ) (pod_y : jY) (x1 : Int32) (x2 : Int32) (x3 : Int32) (x4 : Int32) (res : jY × Int64) (hf : f_WP_rate ro_z ki_z no_z od_y x1 x2 x3 x4 = some res) : MC l g yX11_rate cX11_rate 5 (some .long) rm_WP_rate [.ref (a 0), .int x1, .int x2, .int x3, .int x4] (([n_WP g a , n_Reader g (fun i => a (i + 1)) re_z, n_Tape g (fun i => a (i + 4)) ta_z, n_Road g (fun i => a (i + 6)) ro_z, n_Kinds g (fun i => a (i + 14)) ki_z, n_Rule g (fun i => a (i + 20)) ru_z ru_y, n_Notes g (fun i => a (i + 23)) no_z, n_Road g (fun i => a (i + 30)) sro_z, n_Kinds g (fun i => a (i + 38)) ski_z, n_Rule g (fun i => a (i + 44)) sru_z sru_y, n_Notes g (fun i => a (i + 47)) sno_z, n_Odds g (fun i => a (i + 54)) od_z od_y, n_Luck g (fun i => a (i + 57)) lu_z lu_y, n_Falls g (fun i => a (i + 59)) fa_z, n_Odds g (fun i => a (i + 60)) fod_z fod_y, n_House g (fun i => a (i + 63)) ho_z, n_Poles g (fun i => a (i + 64)) po_z, n_Odds g (fun i => a (i + 69)) pod_z pod_y] : List va_W)) (some (.long res.2)) (([n_WP g a , n_Reader g (fun i => a (i + 1)) re_z, n_Tape g (fun i => a (i + 4)) ta_z, n_Road g (fun i => a (i + 6)) ro_z, n_Kinds g (fun i => a (i + 14)) ki_z, n_Rule g (fun i => a (i + 20)) ru_z ru_y, n_Notes g (fun i => a (i + 23)) no_z, n_Road g (fun i => a (i + 30)) sro_z, n_Kinds g (fun i => a (i + 38)) ski_z, n_Rule g (fun i => a (i + 44)) sru_z sru_y, n_Notes g (fun i => a (i + 47)) sno_z, n_Odds g (fun i => a (i + 54)) od_z res.1, n_Luck g (fun i => a (i + 57)) lu_z lu_y, n_Falls g (fun i => a (i + 59)) fa_z, n_Odds g (fun i => a (i + 60)) fod_z fod_y, n_House g (fun i => a (i + 63)) ho_z, n_Poles g (fun i => a (i + 64)) po_z, n_Odds g (fun i => a (i + 69)) pod_z pod_y] : List va_W)) 0 0 := by
  refine MC_of (own := RX11) (lv := [(0, .ref (a 0)), (1, .int x1), (2, .int x2), (3, .int x3), (4, .int x4)]) (by decide) rfl (Nat.le_of_ble_eq_true rfl) rfl rfl (fun E hE hq => ?_)
  unfold f_WP_rate at hf
  refine j_aload_n hE dX11_rate_0 rfl 0 rfl ?_
  refine j_get (v := .ref (a 6)) hE lg_WP_21 0 rfl 0 (wg_WP_0 g a ) rfl dX11_rate_1 ?_
  refine j_iload_n hE dX11_rate_4 rfl 1 rfl ?_
  obtain ⟨q1, hc2, hf⟩ := bind_of hf
  refine j_callV (ws' := ([n_WP g a , n_Reader g (fun i => a (i + 1)) re_z, n_Tape g (fun i => a (i + 4)) ta_z, n_Road g (fun i => a (i + 6)) ro_z, n_Kinds g (fun i => a (i + 14)) ki_z, n_Rule g (fun i => a (i + 20)) ru_z ru_y, n_Notes g (fun i => a (i + 23)) no_z, n_Road g (fun i => a (i + 30)) sro_z, n_Kinds g (fun i => a (i + 38)) ski_z, n_Rule g (fun i => a (i + 44)) sru_z sru_y, n_Notes g (fun i => a (i + 47)) sno_z, n_Odds g (fun i => a (i + 54)) od_z od_y, n_Luck g (fun i => a (i + 57)) lu_z lu_y, n_Falls g (fun i => a (i + 59)) fa_z, n_Odds g (fun i => a (i + 60)) fod_z fod_y, n_House g (fun i => a (i + 63)) ho_z, n_Poles g (fun i => a (i + 64)) po_z, n_Odds g (fun i => a (i + 69)) pod_z pod_y] : List va_W)) (As := [.int x1]) (rest := []) (st2 := [.int q1]) hE (fun l => c_Road_has l g (fun i => a (i + 6)) ro_z ki_z ru_z ru_y no_z x1 q1 hc2) cd_X8_has cv_X8_has ml_WP_114 rfl rfl rfl (wg_Road_0 _ _ _) ⟨⟨Nat.le_of_ble_eq_true rfl, Nat.le_of_ble_eq_true rfl⟩, ⟨Nat.zero_le _, Nat.zero_le _⟩, rfl, rfl⟩ [3, 4, 5, 6] rfl rfl rfl (Nat.le_of_ble_eq_true rfl) rfl dX11_rate_5 ?_
  refine j_if_eq (tgt := 29) hE hf dX11_rate_8 (by decide) (fun c3 hf => ?_) (fun c3 hf => ?_)
  · refine j_ldc2 hE co_WP_175 dX11_rate_29 ?_
    obtain rfl := Option.some.inj hf
    exact j_lret hE hq rfl rfl dX11_rate_32
  · refine j_iload_n hE dX11_rate_11 rfl 2 rfl ?_
    refine j_iload_n hE dX11_rate_12 rfl 3 rfl ?_
    obtain ⟨q4, hc5, hf⟩ := bind_of hf
    refine j_callS (ws' := ([n_WP g a , n_Reader g (fun i => a (i + 1)) re_z, n_Tape g (fun i => a (i + 4)) ta_z, n_Road g (fun i => a (i + 6)) ro_z, n_Kinds g (fun i => a (i + 14)) ki_z, n_Rule g (fun i => a (i + 20)) ru_z ru_y, n_Notes g (fun i => a (i + 23)) no_z, n_Road g (fun i => a (i + 30)) sro_z, n_Kinds g (fun i => a (i + 38)) ski_z, n_Rule g (fun i => a (i + 44)) sru_z sru_y, n_Notes g (fun i => a (i + 47)) sno_z, n_Odds g (fun i => a (i + 54)) od_z od_y, n_Luck g (fun i => a (i + 57)) lu_z lu_y, n_Falls g (fun i => a (i + 59)) fa_z, n_Odds g (fun i => a (i + 60)) fod_z fod_y, n_House g (fun i => a (i + 63)) ho_z, n_Poles g (fun i => a (i + 64)) po_z, n_Odds g (fun i => a (i + 69)) pod_z pod_y] : List va_W)) (As := [.int x2, .int x3]) (rest := []) (st2 := [.int q4]) hE (fun l => c_WP_areYears l g x2 x3 q4 hc5) cd_X11_areYears st_X11_areYears ml_WP_171 rfl rfl ⟨⟨Nat.le_of_ble_eq_true rfl, Nat.le_of_ble_eq_true rfl⟩, ⟨Nat.zero_le _, Nat.zero_le _⟩, rfl, rfl⟩ [] rfl rfl rfl (Nat.le_of_ble_eq_true rfl) rfl dX11_rate_13 ?_
    refine j_if_eq (tgt := 29) hE hf dX11_rate_16 (by decide) (fun c6 hf => ?_) (fun c6 hf => ?_)
    · refine j_ldc2 hE co_WP_175 dX11_rate_29 ?_
      obtain rfl := Option.some.inj hf
      exact j_lret hE hq rfl rfl dX11_rate_32
    · refine j_iload hE dX11_rate_19 4 rfl ?_
      refine j_iconst (v := 0) hE dX11_rate_21 (by decide) ?_
      refine j_iconst (v := 1) hE dX11_rate_22 (by decide) ?_
      obtain ⟨q7, hc8, hf⟩ := bind_of hf
      refine j_callS (ws' := ([n_WP g a , n_Reader g (fun i => a (i + 1)) re_z, n_Tape g (fun i => a (i + 4)) ta_z, n_Road g (fun i => a (i + 6)) ro_z, n_Kinds g (fun i => a (i + 14)) ki_z, n_Rule g (fun i => a (i + 20)) ru_z ru_y, n_Notes g (fun i => a (i + 23)) no_z, n_Road g (fun i => a (i + 30)) sro_z, n_Kinds g (fun i => a (i + 38)) ski_z, n_Rule g (fun i => a (i + 44)) sru_z sru_y, n_Notes g (fun i => a (i + 47)) sno_z, n_Odds g (fun i => a (i + 54)) od_z od_y, n_Luck g (fun i => a (i + 57)) lu_z lu_y, n_Falls g (fun i => a (i + 59)) fa_z, n_Odds g (fun i => a (i + 60)) fod_z fod_y, n_House g (fun i => a (i + 63)) ho_z, n_Poles g (fun i => a (i + 64)) po_z, n_Odds g (fun i => a (i + 69)) pod_z pod_y] : List va_W)) (As := [.int x4, .int 0, .int 1]) (rest := []) (st2 := [.int q7]) hE (fun l => c_WP_isWithin l g x4 0 1 q7 hc8) cd_X11_isWithin st_X11_isWithin ml_WP_149 rfl rfl ⟨⟨Nat.le_of_ble_eq_true rfl, Nat.le_of_ble_eq_true rfl⟩, ⟨Nat.zero_le _, Nat.zero_le _⟩, rfl, rfl⟩ [] rfl rfl rfl (Nat.le_of_ble_eq_true rfl) rfl dX11_rate_23 ?_
      refine j_if_ne (tgt := 33) hE hf dX11_rate_26 (by decide) (fun c9 hf => ?_) (fun c9 hf => ?_)
      · refine j_aload_n hE dX11_rate_33 rfl 0 rfl ?_
        refine j_get (v := .ref (a 54)) hE lg_WP_31 0 rfl 0 (wg_WP_0 g a ) rfl dX11_rate_34 ?_
        refine j_aload_n hE dX11_rate_37 rfl 0 rfl ?_
        refine j_get (v := .ref (a 6)) hE lg_WP_21 0 rfl 0 (wg_WP_0 g a ) rfl dX11_rate_38 ?_
        refine j_iload_n hE dX11_rate_41 rfl 1 rfl ?_
        refine j_iload_n hE dX11_rate_42 rfl 2 rfl ?_
        refine j_iload_n hE dX11_rate_43 rfl 3 rfl ?_
        obtain ⟨q10, hc11, hf⟩ := bind_of hf
        refine j_callV (ws' := ([n_WP g a , n_Reader g (fun i => a (i + 1)) re_z, n_Tape g (fun i => a (i + 4)) ta_z, n_Road g (fun i => a (i + 6)) ro_z, n_Kinds g (fun i => a (i + 14)) ki_z, n_Rule g (fun i => a (i + 20)) ru_z ru_y, n_Notes g (fun i => a (i + 23)) no_z, n_Road g (fun i => a (i + 30)) sro_z, n_Kinds g (fun i => a (i + 38)) ski_z, n_Rule g (fun i => a (i + 44)) sru_z sru_y, n_Notes g (fun i => a (i + 47)) sno_z, n_Odds g (fun i => a (i + 54)) od_z q10, n_Luck g (fun i => a (i + 57)) lu_z lu_y, n_Falls g (fun i => a (i + 59)) fa_z, n_Odds g (fun i => a (i + 60)) fod_z fod_y, n_House g (fun i => a (i + 63)) ho_z, n_Poles g (fun i => a (i + 64)) po_z, n_Odds g (fun i => a (i + 69)) pod_z pod_y] : List va_W)) (As := [.ref (a 6), .int x1, .int x2, .int x3]) (rest := []) (st2 := []) hE (fun l => c_Odds_seekRate l g (fun i => a (i + 54)) (fun i => a (i + 6)) od_z od_y ro_z ki_z ru_z ru_y no_z x1 x2 x3 q10 hc11) cd_X5_seekRate cv_X5_seekRate ml_WP_181 rfl rfl rfl (wg_Odds_0 _ _ _ _) ⟨⟨Nat.le_of_ble_eq_true rfl, Nat.le_of_ble_eq_true rfl⟩, ⟨Nat.zero_le _, Nat.zero_le _⟩, rfl, rfl⟩ [11, 3, 4, 5, 6] rfl rfl rfl (Nat.le_of_ble_eq_true rfl) rfl dX11_rate_44 ?_
        refine j_iload hE dX11_rate_47 4 rfl ?_
        refine j_if_ne (tgt := 62) hE hf dX11_rate_49 (by decide) (fun c12 hf => ?_) (fun c12 hf => ?_)
        · refine j_aload_n hE dX11_rate_62 rfl 0 rfl ?_
          refine j_get (v := .ref (a 54)) hE lg_WP_31 0 rfl 0 (wg_WP_0 g a ) rfl dX11_rate_63 ?_
          refine j_get (v := .long (q10 3 0)) hE lg_WP_189 11 rfl 0 (wg_Odds_0 g (fun i => a (i + 54)) od_z q10) rfl dX11_rate_66 ?_
          obtain rfl := Option.some.inj hf
          exact j_lret hE hq rfl rfl dX11_rate_69
        · refine j_aload_n hE dX11_rate_52 rfl 0 rfl ?_
          refine j_get (v := .ref (a 54)) hE lg_WP_31 0 rfl 0 (wg_WP_0 g a ) rfl dX11_rate_53 ?_
          refine j_get (v := .long (q10 2 0)) hE lg_WP_185 11 rfl 0 (wg_Odds_0 g (fun i => a (i + 54)) od_z q10) rfl dX11_rate_56 ?_
          refine j_goto (tgt := 69) hE dX11_rate_59 (by decide) ?_
          obtain rfl := Option.some.inj hf
          exact j_lret hE hq rfl rfl dX11_rate_69
      · refine j_ldc2 hE co_WP_175 dX11_rate_29 ?_
        obtain rfl := Option.some.inj hf
        exact j_lret hE hq rfl rfl dX11_rate_32
def rm_WP_span : Room := { frames := 4, cells := 0, slots := 0, locals := 112 }
def f_WP_span (ro_z : jZ) (ki_z : jZ) (no_z : jZ) (od_z : jZ) (od_y : jY) (x1 : Int32) (x2 : Int32) (x3 : Int32) (x4 : Int32) : Option (jZ × jY × Int32) := (f_Road_has ro_z x1).bind fun q1 => (if q1 = 0 then some (od_z, od_y, (-1))
    else (f_WP_areYears x2 x3).bind fun q4 => (if q4 = 0 then some (od_z, od_y, (-1))
    else (f_WP_isWithin x4 0 1).bind fun q7 => (if q7 = 0 then some (od_z, od_y, (-1))
    else (f_Odds_seekSpan od_z od_y ki_z no_z x1 x2 x3).bind fun q10 => (if q10.2.2 = 0 then some (q10.1, q10.2.1, (-2))
    else (if x4 = 0 then some (q10.1, q10.2.1, (q10.1 4 0))
    else some (q10.1, q10.2.1, (q10.1 5 0)))))))
set_option maxRecDepth 100000 in
theorem c_WP_span (l : Launch) (g : jG) (a : Nat → Nat) (re_z : jZ) (ta_z : jZ) (ro_z : jZ) (ki_z : jZ) (ru_z : jZ) (ru_y : jY) (no_z : jZ) (sro_z : jZ) (ski_z : jZ) (sru_z : jZ) (sru_y : jY) (sno_z : jZ) (od_z : jZ) (od_y : jY) (lu_z : jZ) (lu_y : jY) (fa_z : jZ) (fod_z : jZ) (fod_y : jY) (ho_z : jZ) (po_z : jZ) (pod_z : jZ) (pod_y : jY) (x1 : Int32) (x2 : Int32) (x3 : Int32) (x4 : Int32) (res : jZ × jY × Int32) (hf : f_WP_span ro_z ki_z no_z od_z od_y x1 x2 x3 x4 = some res) : MC l g yX11_span cX11_span 5 (some .int) rm_WP_span [.ref (a 0), .int x1, .int x2, .int x3, .int x4] (([n_WP g a , n_Reader g (fun i => a (i + 1)) re_z, n_Tape g (fun i => a (i + 4)) ta_z, n_Road g (fun i => a (i + 6)) ro_z, n_Kinds g (fun i => a (i + 14)) ki_z, n_Rule g (fun i => a (i + 20)) ru_z ru_y, n_Notes g (fun i => a (i + 23)) no_z, n_Road g (fun i => a (i + 30)) sro_z, n_Kinds g (fun i => a (i + 38)) ski_z, n_Rule g (fun i => a (i + 44)) sru_z sru_y, n_Notes g (fun i => a (i + 47)) sno_z, n_Odds g (fun i => a (i + 54)) od_z od_y, n_Luck g (fun i => a (i + 57)) lu_z lu_y, n_Falls g (fun i => a (i + 59)) fa_z, n_Odds g (fun i => a (i + 60)) fod_z fod_y, n_House g (fun i => a (i + 63)) ho_z, n_Poles g (fun i => a (i + 64)) po_z, n_Odds g (fun i => a (i + 69)) pod_z pod_y] : List va_W)) (some (.int res.2.2)) (([n_WP g a , n_Reader g (fun i => a (i + 1)) re_z, n_Tape g (fun i => a (i + 4)) ta_z, n_Road g (fun i => a (i + 6)) ro_z, n_Kinds g (fun i => a (i + 14)) ki_z, n_Rule g (fun i => a (i + 20)) ru_z ru_y, n_Notes g (fun i => a (i + 23)) no_z, n_Road g (fun i => a (i + 30)) sro_z, n_Kinds g (fun i => a (i + 38)) ski_z, n_Rule g (fun i => a (i + 44)) sru_z sru_y, n_Notes g (fun i => a (i + 47)) sno_z, n_Odds g (fun i => a (i + 54)) res.1 res.2.1, n_Luck g (fun i => a (i + 57)) lu_z lu_y, n_Falls g (fun i => a (i + 59)) fa_z, n_Odds g (fun i => a (i + 60)) fod_z fod_y, n_House g (fun i => a (i + 63)) ho_z, n_Poles g (fun i => a (i + 64)) po_z, n_Odds g (fun i => a (i + 69)) pod_z pod_y] : List va_W)) 0 0 := by
  refine MC_of (own := RX11) (lv := [(0, .ref (a 0)), (1, .int x1), (2, .int x2), (3, .int x3), (4, .int x4)]) (by decide) rfl (Nat.le_of_ble_eq_true rfl) rfl rfl (fun E hE hq => ?_)
  unfold f_WP_span at hf
  refine j_aload_n hE dX11_span_0 rfl 0 rfl ?_
  refine j_get (v := .ref (a 6)) hE lg_WP_21 0 rfl 0 (wg_WP_0 g a ) rfl dX11_span_1 ?_
  refine j_iload_n hE dX11_span_4 rfl 1 rfl ?_
  obtain ⟨q1, hc2, hf⟩ := bind_of hf
  refine j_callV (ws' := ([n_WP g a , n_Reader g (fun i => a (i + 1)) re_z, n_Tape g (fun i => a (i + 4)) ta_z, n_Road g (fun i => a (i + 6)) ro_z, n_Kinds g (fun i => a (i + 14)) ki_z, n_Rule g (fun i => a (i + 20)) ru_z ru_y, n_Notes g (fun i => a (i + 23)) no_z, n_Road g (fun i => a (i + 30)) sro_z, n_Kinds g (fun i => a (i + 38)) ski_z, n_Rule g (fun i => a (i + 44)) sru_z sru_y, n_Notes g (fun i => a (i + 47)) sno_z, n_Odds g (fun i => a (i + 54)) od_z od_y, n_Luck g (fun i => a (i + 57)) lu_z lu_y, n_Falls g (fun i => a (i + 59)) fa_z, n_Odds g (fun i => a (i + 60)) fod_z fod_y, n_House g (fun i => a (i + 63)) ho_z, n_Poles g (fun i => a (i + 64)) po_z, n_Odds g (fun i => a (i + 69)) pod_z pod_y] : List va_W)) (As := [.int x1]) (rest := []) (st2 := [.int q1]) hE (fun l => c_Road_has l g (fun i => a (i + 6)) ro_z ki_z ru_z ru_y no_z x1 q1 hc2) cd_X8_has cv_X8_has ml_WP_114 rfl rfl rfl (wg_Road_0 _ _ _) ⟨⟨Nat.le_of_ble_eq_true rfl, Nat.le_of_ble_eq_true rfl⟩, ⟨Nat.zero_le _, Nat.zero_le _⟩, rfl, rfl⟩ [3, 4, 5, 6] rfl rfl rfl (Nat.le_of_ble_eq_true rfl) rfl dX11_span_5 ?_
  refine j_if_eq (tgt := 29) hE hf dX11_span_8 (by decide) (fun c3 hf => ?_) (fun c3 hf => ?_)
  · refine j_iconst (v := (-1)) hE dX11_span_29 (by decide) ?_
    obtain rfl := Option.some.inj hf
    exact j_iret hE hq rfl rfl dX11_span_30
  · refine j_iload_n hE dX11_span_11 rfl 2 rfl ?_
    refine j_iload_n hE dX11_span_12 rfl 3 rfl ?_
    obtain ⟨q4, hc5, hf⟩ := bind_of hf
    refine j_callS (ws' := ([n_WP g a , n_Reader g (fun i => a (i + 1)) re_z, n_Tape g (fun i => a (i + 4)) ta_z, n_Road g (fun i => a (i + 6)) ro_z, n_Kinds g (fun i => a (i + 14)) ki_z, n_Rule g (fun i => a (i + 20)) ru_z ru_y, n_Notes g (fun i => a (i + 23)) no_z, n_Road g (fun i => a (i + 30)) sro_z, n_Kinds g (fun i => a (i + 38)) ski_z, n_Rule g (fun i => a (i + 44)) sru_z sru_y, n_Notes g (fun i => a (i + 47)) sno_z, n_Odds g (fun i => a (i + 54)) od_z od_y, n_Luck g (fun i => a (i + 57)) lu_z lu_y, n_Falls g (fun i => a (i + 59)) fa_z, n_Odds g (fun i => a (i + 60)) fod_z fod_y, n_House g (fun i => a (i + 63)) ho_z, n_Poles g (fun i => a (i + 64)) po_z, n_Odds g (fun i => a (i + 69)) pod_z pod_y] : List va_W)) (As := [.int x2, .int x3]) (rest := []) (st2 := [.int q4]) hE (fun l => c_WP_areYears l g x2 x3 q4 hc5) cd_X11_areYears st_X11_areYears ml_WP_171 rfl rfl ⟨⟨Nat.le_of_ble_eq_true rfl, Nat.le_of_ble_eq_true rfl⟩, ⟨Nat.zero_le _, Nat.zero_le _⟩, rfl, rfl⟩ [] rfl rfl rfl (Nat.le_of_ble_eq_true rfl) rfl dX11_span_13 ?_
    refine j_if_eq (tgt := 29) hE hf dX11_span_16 (by decide) (fun c6 hf => ?_) (fun c6 hf => ?_)
    · refine j_iconst (v := (-1)) hE dX11_span_29 (by decide) ?_
      obtain rfl := Option.some.inj hf
      exact j_iret hE hq rfl rfl dX11_span_30
    · refine j_iload hE dX11_span_19 4 rfl ?_
      refine j_iconst (v := 0) hE dX11_span_21 (by decide) ?_
      refine j_iconst (v := 1) hE dX11_span_22 (by decide) ?_
      obtain ⟨q7, hc8, hf⟩ := bind_of hf
      refine j_callS (ws' := ([n_WP g a , n_Reader g (fun i => a (i + 1)) re_z, n_Tape g (fun i => a (i + 4)) ta_z, n_Road g (fun i => a (i + 6)) ro_z, n_Kinds g (fun i => a (i + 14)) ki_z, n_Rule g (fun i => a (i + 20)) ru_z ru_y, n_Notes g (fun i => a (i + 23)) no_z, n_Road g (fun i => a (i + 30)) sro_z, n_Kinds g (fun i => a (i + 38)) ski_z, n_Rule g (fun i => a (i + 44)) sru_z sru_y, n_Notes g (fun i => a (i + 47)) sno_z, n_Odds g (fun i => a (i + 54)) od_z od_y, n_Luck g (fun i => a (i + 57)) lu_z lu_y, n_Falls g (fun i => a (i + 59)) fa_z, n_Odds g (fun i => a (i + 60)) fod_z fod_y, n_House g (fun i => a (i + 63)) ho_z, n_Poles g (fun i => a (i + 64)) po_z, n_Odds g (fun i => a (i + 69)) pod_z pod_y] : List va_W)) (As := [.int x4, .int 0, .int 1]) (rest := []) (st2 := [.int q7]) hE (fun l => c_WP_isWithin l g x4 0 1 q7 hc8) cd_X11_isWithin st_X11_isWithin ml_WP_149 rfl rfl ⟨⟨Nat.le_of_ble_eq_true rfl, Nat.le_of_ble_eq_true rfl⟩, ⟨Nat.zero_le _, Nat.zero_le _⟩, rfl, rfl⟩ [] rfl rfl rfl (Nat.le_of_ble_eq_true rfl) rfl dX11_span_23 ?_
      refine j_if_ne (tgt := 31) hE hf dX11_span_26 (by decide) (fun c9 hf => ?_) (fun c9 hf => ?_)
      · refine j_aload_n hE dX11_span_31 rfl 0 rfl ?_
        refine j_get (v := .ref (a 54)) hE lg_WP_31 0 rfl 0 (wg_WP_0 g a ) rfl dX11_span_32 ?_
        refine j_aload_n hE dX11_span_35 rfl 0 rfl ?_
        refine j_get (v := .ref (a 6)) hE lg_WP_21 0 rfl 0 (wg_WP_0 g a ) rfl dX11_span_36 ?_
        refine j_iload_n hE dX11_span_39 rfl 1 rfl ?_
        refine j_iload_n hE dX11_span_40 rfl 2 rfl ?_
        refine j_iload_n hE dX11_span_41 rfl 3 rfl ?_
        obtain ⟨q10, hc11, hf⟩ := bind_of hf
        refine j_callV (ws' := ([n_WP g a , n_Reader g (fun i => a (i + 1)) re_z, n_Tape g (fun i => a (i + 4)) ta_z, n_Road g (fun i => a (i + 6)) ro_z, n_Kinds g (fun i => a (i + 14)) ki_z, n_Rule g (fun i => a (i + 20)) ru_z ru_y, n_Notes g (fun i => a (i + 23)) no_z, n_Road g (fun i => a (i + 30)) sro_z, n_Kinds g (fun i => a (i + 38)) ski_z, n_Rule g (fun i => a (i + 44)) sru_z sru_y, n_Notes g (fun i => a (i + 47)) sno_z, n_Odds g (fun i => a (i + 54)) q10.1 q10.2.1, n_Luck g (fun i => a (i + 57)) lu_z lu_y, n_Falls g (fun i => a (i + 59)) fa_z, n_Odds g (fun i => a (i + 60)) fod_z fod_y, n_House g (fun i => a (i + 63)) ho_z, n_Poles g (fun i => a (i + 64)) po_z, n_Odds g (fun i => a (i + 69)) pod_z pod_y] : List va_W)) (As := [.ref (a 6), .int x1, .int x2, .int x3]) (rest := []) (st2 := [.int q10.2.2]) hE (fun l => c_Odds_seekSpan l g (fun i => a (i + 54)) (fun i => a (i + 6)) od_z od_y ro_z ki_z ru_z ru_y no_z x1 x2 x3 q10 hc11) cd_X5_seekSpan cv_X5_seekSpan ml_WP_192 rfl rfl rfl (wg_Odds_0 _ _ _ _) ⟨⟨Nat.le_of_ble_eq_true rfl, Nat.le_of_ble_eq_true rfl⟩, ⟨Nat.zero_le _, Nat.zero_le _⟩, rfl, rfl⟩ [11, 3, 4, 5, 6] rfl rfl rfl (Nat.le_of_ble_eq_true rfl) rfl dX11_span_42 ?_
        refine j_if_ne (tgt := 51) hE hf dX11_span_45 (by decide) (fun c12 hf => ?_) (fun c12 hf => ?_)
        · refine j_iload hE dX11_span_51 4 rfl ?_
          refine j_if_ne (tgt := 66) hE hf dX11_span_53 (by decide) (fun c13 hf => ?_) (fun c13 hf => ?_)
          · refine j_aload_n hE dX11_span_66 rfl 0 rfl ?_
            refine j_get (v := .ref (a 54)) hE lg_WP_31 0 rfl 0 (wg_WP_0 g a ) rfl dX11_span_67 ?_
            refine j_get (v := .int (q10.1 5 0)) hE lg_WP_199 11 rfl 0 (wg_Odds_0 g (fun i => a (i + 54)) q10.1 q10.2.1) rfl dX11_span_70 ?_
            obtain rfl := Option.some.inj hf
            exact j_iret hE hq rfl rfl dX11_span_73
          · refine j_aload_n hE dX11_span_56 rfl 0 rfl ?_
            refine j_get (v := .ref (a 54)) hE lg_WP_31 0 rfl 0 (wg_WP_0 g a ) rfl dX11_span_57 ?_
            refine j_get (v := .int (q10.1 4 0)) hE lg_WP_196 11 rfl 0 (wg_Odds_0 g (fun i => a (i + 54)) q10.1 q10.2.1) rfl dX11_span_60 ?_
            refine j_goto (tgt := 73) hE dX11_span_63 (by decide) ?_
            obtain rfl := Option.some.inj hf
            exact j_iret hE hq rfl rfl dX11_span_73
        · refine j_bipush (v := (-2)) hE dX11_span_48 (by decide) ?_
          obtain rfl := Option.some.inj hf
          exact j_iret hE hq rfl rfl dX11_span_50
      · refine j_iconst (v := (-1)) hE dX11_span_29 (by decide) ?_
        obtain rfl := Option.some.inj hf
        exact j_iret hE hq rfl rfl dX11_span_30
def rm_WP_worse : Room := { frames := 4, cells := 0, slots := 0, locals := 113 }
def f_WP_worse (ro_z : jZ) (ki_z : jZ) (no_z : jZ) (od_y : jY) (x1 : Int32) (x2 : Int32) (x3 : Int32) (x4 : Int32) (x5 : Int32) : Option (jY × Int64) := (f_Road_has ro_z x1).bind fun q1 => (if q1 = 0 then some (od_y, (-1))
    else (f_Road_has ro_z x2).bind fun q4 => (if q4 = 0 then some (od_y, (-1))
    else (if x1 = x2 then some (od_y, (-1))
    else (f_WP_areYears x3 x4).bind fun q8 => (if q8 = 0 then some (od_y, (-1))
    else (f_WP_isWithin x5 0 1).bind fun q11 => (if q11 = 0 then some (od_y, (-1))
    else (f_Odds_compare od_y ki_z no_z x1 x2 x3 x4).bind fun q14 => (if x5 = 0 then some (q14, (q14 2 0))
    else some (q14, (q14 3 0))))))))
set_option maxRecDepth 100000 in
theorem c_WP_worse (l : Launch) (g : jG) (a : Nat → Nat) (re_z : jZ) (ta_z : jZ) (ro_z : jZ) (ki_z : jZ) (ru_z : jZ) (ru_y : jY) (no_z : jZ) (sro_z : jZ) (ski_z : jZ) (sru_z : jZ) (sru_y : jY) (sno_z : jZ) (od_z : jZ) (od_y : jY) (lu_z : jZ) (lu_y : jY) (fa_z : jZ) (fod_z : jZ) (fod_y : jY) (ho_z : jZ) (po_z : jZ) (pod_z : jZ) (pod_y : jY) (x1 : Int32) (x2 : Int32) (x3 : Int32) (x4 : Int32) (x5 : Int32) (res : jY × Int64) (hf : f_WP_worse ro_z ki_z no_z od_y x1 x2 x3 x4 x5 = some res) : MC l g yX11_worse cX11_worse 6 (some .long) rm_WP_worse [.ref (a 0), .int x1, .int x2, .int x3, .int x4, .int x5] (([n_WP g a , n_Reader g (fun i => a (i + 1)) re_z, n_Tape g (fun i => a (i + 4)) ta_z, n_Road g (fun i => a (i + 6)) ro_z, n_Kinds g (fun i => a (i + 14)) ki_z, n_Rule g (fun i => a (i + 20)) ru_z ru_y, n_Notes g (fun i => a (i + 23)) no_z, n_Road g (fun i => a (i + 30)) sro_z, n_Kinds g (fun i => a (i + 38)) ski_z, n_Rule g (fun i => a (i + 44)) sru_z sru_y, n_Notes g (fun i => a (i + 47)) sno_z, n_Odds g (fun i => a (i + 54)) od_z od_y, n_Luck g (fun i => a (i + 57)) lu_z lu_y, n_Falls g (fun i => a (i + 59)) fa_z, n_Odds g (fun i => a (i + 60)) fod_z fod_y, n_House g (fun i => a (i + 63)) ho_z, n_Poles g (fun i => a (i + 64)) po_z, n_Odds g (fun i => a (i + 69)) pod_z pod_y] : List va_W)) (some (.long res.2)) (([n_WP g a , n_Reader g (fun i => a (i + 1)) re_z, n_Tape g (fun i => a (i + 4)) ta_z, n_Road g (fun i => a (i + 6)) ro_z, n_Kinds g (fun i => a (i + 14)) ki_z, n_Rule g (fun i => a (i + 20)) ru_z ru_y, n_Notes g (fun i => a (i + 23)) no_z, n_Road g (fun i => a (i + 30)) sro_z, n_Kinds g (fun i => a (i + 38)) ski_z, n_Rule g (fun i => a (i + 44)) sru_z sru_y, n_Notes g (fun i => a (i + 47)) sno_z, n_Odds g (fun i => a (i + 54)) od_z res.1, n_Luck g (fun i => a (i + 57)) lu_z lu_y, n_Falls g (fun i => a (i + 59)) fa_z, n_Odds g (fun i => a (i + 60)) fod_z fod_y, n_House g (fun i => a (i + 63)) ho_z, n_Poles g (fun i => a (i + 64)) po_z, n_Odds g (fun i => a (i + 69)) pod_z pod_y] : List va_W)) 0 0 := by
  refine MC_of (own := RX11) (lv := [(0, .ref (a 0)), (1, .int x1), (2, .int x2), (3, .int x3), (4, .int x4), (5, .int x5)]) (by decide) rfl (Nat.le_of_ble_eq_true rfl) rfl rfl (fun E hE hq => ?_)
  unfold f_WP_worse at hf
  refine j_aload_n hE dX11_worse_0 rfl 0 rfl ?_
  refine j_get (v := .ref (a 6)) hE lg_WP_21 0 rfl 0 (wg_WP_0 g a ) rfl dX11_worse_1 ?_
  refine j_iload_n hE dX11_worse_4 rfl 1 rfl ?_
  obtain ⟨q1, hc2, hf⟩ := bind_of hf
  refine j_callV (ws' := ([n_WP g a , n_Reader g (fun i => a (i + 1)) re_z, n_Tape g (fun i => a (i + 4)) ta_z, n_Road g (fun i => a (i + 6)) ro_z, n_Kinds g (fun i => a (i + 14)) ki_z, n_Rule g (fun i => a (i + 20)) ru_z ru_y, n_Notes g (fun i => a (i + 23)) no_z, n_Road g (fun i => a (i + 30)) sro_z, n_Kinds g (fun i => a (i + 38)) ski_z, n_Rule g (fun i => a (i + 44)) sru_z sru_y, n_Notes g (fun i => a (i + 47)) sno_z, n_Odds g (fun i => a (i + 54)) od_z od_y, n_Luck g (fun i => a (i + 57)) lu_z lu_y, n_Falls g (fun i => a (i + 59)) fa_z, n_Odds g (fun i => a (i + 60)) fod_z fod_y, n_House g (fun i => a (i + 63)) ho_z, n_Poles g (fun i => a (i + 64)) po_z, n_Odds g (fun i => a (i + 69)) pod_z pod_y] : List va_W)) (As := [.int x1]) (rest := []) (st2 := [.int q1]) hE (fun l => c_Road_has l g (fun i => a (i + 6)) ro_z ki_z ru_z ru_y no_z x1 q1 hc2) cd_X8_has cv_X8_has ml_WP_114 rfl rfl rfl (wg_Road_0 _ _ _) ⟨⟨Nat.le_of_ble_eq_true rfl, Nat.le_of_ble_eq_true rfl⟩, ⟨Nat.zero_le _, Nat.zero_le _⟩, rfl, rfl⟩ [3, 4, 5, 6] rfl rfl rfl (Nat.le_of_ble_eq_true rfl) rfl dX11_worse_5 ?_
  refine j_if_eq (tgt := 46) hE hf dX11_worse_8 (by decide) (fun c3 hf => ?_) (fun c3 hf => ?_)
  · refine j_ldc2 hE co_WP_175 dX11_worse_46 ?_
    obtain rfl := Option.some.inj hf
    exact j_lret hE hq rfl rfl dX11_worse_49
  · refine j_aload_n hE dX11_worse_11 rfl 0 rfl ?_
    refine j_get (v := .ref (a 6)) hE lg_WP_21 0 rfl 0 (wg_WP_0 g a ) rfl dX11_worse_12 ?_
    refine j_iload_n hE dX11_worse_15 rfl 2 rfl ?_
    obtain ⟨q4, hc5, hf⟩ := bind_of hf
    refine j_callV (ws' := ([n_WP g a , n_Reader g (fun i => a (i + 1)) re_z, n_Tape g (fun i => a (i + 4)) ta_z, n_Road g (fun i => a (i + 6)) ro_z, n_Kinds g (fun i => a (i + 14)) ki_z, n_Rule g (fun i => a (i + 20)) ru_z ru_y, n_Notes g (fun i => a (i + 23)) no_z, n_Road g (fun i => a (i + 30)) sro_z, n_Kinds g (fun i => a (i + 38)) ski_z, n_Rule g (fun i => a (i + 44)) sru_z sru_y, n_Notes g (fun i => a (i + 47)) sno_z, n_Odds g (fun i => a (i + 54)) od_z od_y, n_Luck g (fun i => a (i + 57)) lu_z lu_y, n_Falls g (fun i => a (i + 59)) fa_z, n_Odds g (fun i => a (i + 60)) fod_z fod_y, n_House g (fun i => a (i + 63)) ho_z, n_Poles g (fun i => a (i + 64)) po_z, n_Odds g (fun i => a (i + 69)) pod_z pod_y] : List va_W)) (As := [.int x2]) (rest := []) (st2 := [.int q4]) hE (fun l => c_Road_has l g (fun i => a (i + 6)) ro_z ki_z ru_z ru_y no_z x2 q4 hc5) cd_X8_has cv_X8_has ml_WP_114 rfl rfl rfl (wg_Road_0 _ _ _) ⟨⟨Nat.le_of_ble_eq_true rfl, Nat.le_of_ble_eq_true rfl⟩, ⟨Nat.zero_le _, Nat.zero_le _⟩, rfl, rfl⟩ [3, 4, 5, 6] rfl rfl rfl (Nat.le_of_ble_eq_true rfl) rfl dX11_worse_16 ?_
    refine j_if_eq (tgt := 46) hE hf dX11_worse_19 (by decide) (fun c6 hf => ?_) (fun c6 hf => ?_)
    · refine j_ldc2 hE co_WP_175 dX11_worse_46 ?_
      obtain rfl := Option.some.inj hf
      exact j_lret hE hq rfl rfl dX11_worse_49
    · refine j_iload_n hE dX11_worse_22 rfl 1 rfl ?_
      refine j_iload_n hE dX11_worse_23 rfl 2 rfl ?_
      refine j_icmp_eq (tgt := 46) hE hf dX11_worse_24 (by decide) (fun c7 hf => ?_) (fun c7 hf => ?_)
      · refine j_ldc2 hE co_WP_175 dX11_worse_46 ?_
        obtain rfl := Option.some.inj hf
        exact j_lret hE hq rfl rfl dX11_worse_49
      · refine j_iload_n hE dX11_worse_27 rfl 3 rfl ?_
        refine j_iload hE dX11_worse_28 4 rfl ?_
        obtain ⟨q8, hc9, hf⟩ := bind_of hf
        refine j_callS (ws' := ([n_WP g a , n_Reader g (fun i => a (i + 1)) re_z, n_Tape g (fun i => a (i + 4)) ta_z, n_Road g (fun i => a (i + 6)) ro_z, n_Kinds g (fun i => a (i + 14)) ki_z, n_Rule g (fun i => a (i + 20)) ru_z ru_y, n_Notes g (fun i => a (i + 23)) no_z, n_Road g (fun i => a (i + 30)) sro_z, n_Kinds g (fun i => a (i + 38)) ski_z, n_Rule g (fun i => a (i + 44)) sru_z sru_y, n_Notes g (fun i => a (i + 47)) sno_z, n_Odds g (fun i => a (i + 54)) od_z od_y, n_Luck g (fun i => a (i + 57)) lu_z lu_y, n_Falls g (fun i => a (i + 59)) fa_z, n_Odds g (fun i => a (i + 60)) fod_z fod_y, n_House g (fun i => a (i + 63)) ho_z, n_Poles g (fun i => a (i + 64)) po_z, n_Odds g (fun i => a (i + 69)) pod_z pod_y] : List va_W)) (As := [.int x3, .int x4]) (rest := []) (st2 := [.int q8]) hE (fun l => c_WP_areYears l g x3 x4 q8 hc9) cd_X11_areYears st_X11_areYears ml_WP_171 rfl rfl ⟨⟨Nat.le_of_ble_eq_true rfl, Nat.le_of_ble_eq_true rfl⟩, ⟨Nat.zero_le _, Nat.zero_le _⟩, rfl, rfl⟩ [] rfl rfl rfl (Nat.le_of_ble_eq_true rfl) rfl dX11_worse_30 ?_
        refine j_if_eq (tgt := 46) hE hf dX11_worse_33 (by decide) (fun c10 hf => ?_) (fun c10 hf => ?_)
        · refine j_ldc2 hE co_WP_175 dX11_worse_46 ?_
          obtain rfl := Option.some.inj hf
          exact j_lret hE hq rfl rfl dX11_worse_49
        · refine j_iload hE dX11_worse_36 5 rfl ?_
          refine j_iconst (v := 0) hE dX11_worse_38 (by decide) ?_
          refine j_iconst (v := 1) hE dX11_worse_39 (by decide) ?_
          obtain ⟨q11, hc12, hf⟩ := bind_of hf
          refine j_callS (ws' := ([n_WP g a , n_Reader g (fun i => a (i + 1)) re_z, n_Tape g (fun i => a (i + 4)) ta_z, n_Road g (fun i => a (i + 6)) ro_z, n_Kinds g (fun i => a (i + 14)) ki_z, n_Rule g (fun i => a (i + 20)) ru_z ru_y, n_Notes g (fun i => a (i + 23)) no_z, n_Road g (fun i => a (i + 30)) sro_z, n_Kinds g (fun i => a (i + 38)) ski_z, n_Rule g (fun i => a (i + 44)) sru_z sru_y, n_Notes g (fun i => a (i + 47)) sno_z, n_Odds g (fun i => a (i + 54)) od_z od_y, n_Luck g (fun i => a (i + 57)) lu_z lu_y, n_Falls g (fun i => a (i + 59)) fa_z, n_Odds g (fun i => a (i + 60)) fod_z fod_y, n_House g (fun i => a (i + 63)) ho_z, n_Poles g (fun i => a (i + 64)) po_z, n_Odds g (fun i => a (i + 69)) pod_z pod_y] : List va_W)) (As := [.int x5, .int 0, .int 1]) (rest := []) (st2 := [.int q11]) hE (fun l => c_WP_isWithin l g x5 0 1 q11 hc12) cd_X11_isWithin st_X11_isWithin ml_WP_149 rfl rfl ⟨⟨Nat.le_of_ble_eq_true rfl, Nat.le_of_ble_eq_true rfl⟩, ⟨Nat.zero_le _, Nat.zero_le _⟩, rfl, rfl⟩ [] rfl rfl rfl (Nat.le_of_ble_eq_true rfl) rfl dX11_worse_40 ?_
          refine j_if_ne (tgt := 50) hE hf dX11_worse_43 (by decide) (fun c13 hf => ?_) (fun c13 hf => ?_)
          · refine j_aload_n hE dX11_worse_50 rfl 0 rfl ?_
            refine j_get (v := .ref (a 54)) hE lg_WP_31 0 rfl 0 (wg_WP_0 g a ) rfl dX11_worse_51 ?_
            refine j_aload_n hE dX11_worse_54 rfl 0 rfl ?_
            refine j_get (v := .ref (a 6)) hE lg_WP_21 0 rfl 0 (wg_WP_0 g a ) rfl dX11_worse_55 ?_
            refine j_iload_n hE dX11_worse_58 rfl 1 rfl ?_
            refine j_iload_n hE dX11_worse_59 rfl 2 rfl ?_
            refine j_iload_n hE dX11_worse_60 rfl 3 rfl ?_
            refine j_iload hE dX11_worse_61 4 rfl ?_
            obtain ⟨q14, hc15, hf⟩ := bind_of hf
            refine j_callV (ws' := ([n_WP g a , n_Reader g (fun i => a (i + 1)) re_z, n_Tape g (fun i => a (i + 4)) ta_z, n_Road g (fun i => a (i + 6)) ro_z, n_Kinds g (fun i => a (i + 14)) ki_z, n_Rule g (fun i => a (i + 20)) ru_z ru_y, n_Notes g (fun i => a (i + 23)) no_z, n_Road g (fun i => a (i + 30)) sro_z, n_Kinds g (fun i => a (i + 38)) ski_z, n_Rule g (fun i => a (i + 44)) sru_z sru_y, n_Notes g (fun i => a (i + 47)) sno_z, n_Odds g (fun i => a (i + 54)) od_z q14, n_Luck g (fun i => a (i + 57)) lu_z lu_y, n_Falls g (fun i => a (i + 59)) fa_z, n_Odds g (fun i => a (i + 60)) fod_z fod_y, n_House g (fun i => a (i + 63)) ho_z, n_Poles g (fun i => a (i + 64)) po_z, n_Odds g (fun i => a (i + 69)) pod_z pod_y] : List va_W)) (As := [.ref (a 6), .int x1, .int x2, .int x3, .int x4]) (rest := []) (st2 := []) hE (fun l => c_Odds_compare l g (fun i => a (i + 54)) (fun i => a (i + 6)) od_z od_y ro_z ki_z ru_z ru_y no_z x1 x2 x3 x4 q14 hc15) cd_X5_compare cv_X5_compare ml_WP_202 rfl rfl rfl (wg_Odds_0 _ _ _ _) ⟨⟨Nat.le_of_ble_eq_true rfl, Nat.le_of_ble_eq_true rfl⟩, ⟨Nat.zero_le _, Nat.zero_le _⟩, rfl, rfl⟩ [11, 3, 4, 5, 6] rfl rfl rfl (Nat.le_of_ble_eq_true rfl) rfl dX11_worse_63 ?_
            refine j_iload hE dX11_worse_66 5 rfl ?_
            refine j_if_ne (tgt := 81) hE hf dX11_worse_68 (by decide) (fun c16 hf => ?_) (fun c16 hf => ?_)
            · refine j_aload_n hE dX11_worse_81 rfl 0 rfl ?_
              refine j_get (v := .ref (a 54)) hE lg_WP_31 0 rfl 0 (wg_WP_0 g a ) rfl dX11_worse_82 ?_
              refine j_get (v := .long (q14 3 0)) hE lg_WP_189 11 rfl 0 (wg_Odds_0 g (fun i => a (i + 54)) od_z q14) rfl dX11_worse_85 ?_
              obtain rfl := Option.some.inj hf
              exact j_lret hE hq rfl rfl dX11_worse_88
            · refine j_aload_n hE dX11_worse_71 rfl 0 rfl ?_
              refine j_get (v := .ref (a 54)) hE lg_WP_31 0 rfl 0 (wg_WP_0 g a ) rfl dX11_worse_72 ?_
              refine j_get (v := .long (q14 2 0)) hE lg_WP_185 11 rfl 0 (wg_Odds_0 g (fun i => a (i + 54)) od_z q14) rfl dX11_worse_75 ?_
              refine j_goto (tgt := 88) hE dX11_worse_78 (by decide) ?_
              obtain rfl := Option.some.inj hf
              exact j_lret hE hq rfl rfl dX11_worse_88
          · refine j_ldc2 hE co_WP_175 dX11_worse_46 ?_
            obtain rfl := Option.some.inj hf
            exact j_lret hE hq rfl rfl dX11_worse_49
def rm_WP_taken : Room := { frames := 5, cells := 0, slots := 0, locals := 130 }
def f_WP_taken (ro_z : jZ) (ru_z : jZ) (ru_y : jY) (no_z : jZ) (x1 : Int32) : Option (jZ × jY × Int32) := (f_WP_isWithin x1 3 9).bind fun q1 => (if q1 = 0 then some (ru_z, ru_y, (-1))
    else (f_Road_takenIn ro_z ru_z ru_y no_z x1).bind fun q4 => some (q4.1, q4.2.1, q4.2.2))
set_option maxRecDepth 100000 in
theorem c_WP_taken (l : Launch) (g : jG) (a : Nat → Nat) (re_z : jZ) (ta_z : jZ) (ro_z : jZ) (ki_z : jZ) (ru_z : jZ) (ru_y : jY) (no_z : jZ) (sro_z : jZ) (ski_z : jZ) (sru_z : jZ) (sru_y : jY) (sno_z : jZ) (od_z : jZ) (od_y : jY) (lu_z : jZ) (lu_y : jY) (fa_z : jZ) (fod_z : jZ) (fod_y : jY) (ho_z : jZ) (po_z : jZ) (pod_z : jZ) (pod_y : jY) (x1 : Int32) (res : jZ × jY × Int32) (hf : f_WP_taken ro_z ru_z ru_y no_z x1 = some res) : MC l g yX11_taken cX11_taken 2 (some .int) rm_WP_taken [.ref (a 0), .int x1] (([n_WP g a , n_Reader g (fun i => a (i + 1)) re_z, n_Tape g (fun i => a (i + 4)) ta_z, n_Road g (fun i => a (i + 6)) ro_z, n_Kinds g (fun i => a (i + 14)) ki_z, n_Rule g (fun i => a (i + 20)) ru_z ru_y, n_Notes g (fun i => a (i + 23)) no_z, n_Road g (fun i => a (i + 30)) sro_z, n_Kinds g (fun i => a (i + 38)) ski_z, n_Rule g (fun i => a (i + 44)) sru_z sru_y, n_Notes g (fun i => a (i + 47)) sno_z, n_Odds g (fun i => a (i + 54)) od_z od_y, n_Luck g (fun i => a (i + 57)) lu_z lu_y, n_Falls g (fun i => a (i + 59)) fa_z, n_Odds g (fun i => a (i + 60)) fod_z fod_y, n_House g (fun i => a (i + 63)) ho_z, n_Poles g (fun i => a (i + 64)) po_z, n_Odds g (fun i => a (i + 69)) pod_z pod_y] : List va_W)) (some (.int res.2.2)) (([n_WP g a , n_Reader g (fun i => a (i + 1)) re_z, n_Tape g (fun i => a (i + 4)) ta_z, n_Road g (fun i => a (i + 6)) ro_z, n_Kinds g (fun i => a (i + 14)) ki_z, n_Rule g (fun i => a (i + 20)) res.1 res.2.1, n_Notes g (fun i => a (i + 23)) no_z, n_Road g (fun i => a (i + 30)) sro_z, n_Kinds g (fun i => a (i + 38)) ski_z, n_Rule g (fun i => a (i + 44)) sru_z sru_y, n_Notes g (fun i => a (i + 47)) sno_z, n_Odds g (fun i => a (i + 54)) od_z od_y, n_Luck g (fun i => a (i + 57)) lu_z lu_y, n_Falls g (fun i => a (i + 59)) fa_z, n_Odds g (fun i => a (i + 60)) fod_z fod_y, n_House g (fun i => a (i + 63)) ho_z, n_Poles g (fun i => a (i + 64)) po_z, n_Odds g (fun i => a (i + 69)) pod_z pod_y] : List va_W)) 0 0 := by
  refine MC_of (own := RX11) (lv := [(0, .ref (a 0)), (1, .int x1)]) (by decide) rfl (Nat.le_of_ble_eq_true rfl) rfl rfl (fun E hE hq => ?_)
  unfold f_WP_taken at hf
  refine j_iload_n hE dX11_taken_0 rfl 1 rfl ?_
  refine j_iconst (v := 3) hE dX11_taken_1 (by decide) ?_
  refine j_bipush (v := 9) hE dX11_taken_2 (by decide) ?_
  obtain ⟨q1, hc2, hf⟩ := bind_of hf
  refine j_callS (ws' := ([n_WP g a , n_Reader g (fun i => a (i + 1)) re_z, n_Tape g (fun i => a (i + 4)) ta_z, n_Road g (fun i => a (i + 6)) ro_z, n_Kinds g (fun i => a (i + 14)) ki_z, n_Rule g (fun i => a (i + 20)) ru_z ru_y, n_Notes g (fun i => a (i + 23)) no_z, n_Road g (fun i => a (i + 30)) sro_z, n_Kinds g (fun i => a (i + 38)) ski_z, n_Rule g (fun i => a (i + 44)) sru_z sru_y, n_Notes g (fun i => a (i + 47)) sno_z, n_Odds g (fun i => a (i + 54)) od_z od_y, n_Luck g (fun i => a (i + 57)) lu_z lu_y, n_Falls g (fun i => a (i + 59)) fa_z, n_Odds g (fun i => a (i + 60)) fod_z fod_y, n_House g (fun i => a (i + 63)) ho_z, n_Poles g (fun i => a (i + 64)) po_z, n_Odds g (fun i => a (i + 69)) pod_z pod_y] : List va_W)) (As := [.int x1, .int 3, .int 9]) (rest := []) (st2 := [.int q1]) hE (fun l => c_WP_isWithin l g x1 3 9 q1 hc2) cd_X11_isWithin st_X11_isWithin ml_WP_149 rfl rfl ⟨⟨Nat.le_of_ble_eq_true rfl, Nat.le_of_ble_eq_true rfl⟩, ⟨Nat.zero_le _, Nat.zero_le _⟩, rfl, rfl⟩ [] rfl rfl rfl (Nat.le_of_ble_eq_true rfl) rfl dX11_taken_4 ?_
  refine j_if_eq (tgt := 21) hE hf dX11_taken_7 (by decide) (fun c3 hf => ?_) (fun c3 hf => ?_)
  · refine j_iconst (v := (-1)) hE dX11_taken_21 (by decide) ?_
    obtain rfl := Option.some.inj hf
    exact j_iret hE hq rfl rfl dX11_taken_22
  · refine j_aload_n hE dX11_taken_10 rfl 0 rfl ?_
    refine j_get (v := .ref (a 6)) hE lg_WP_21 0 rfl 0 (wg_WP_0 g a ) rfl dX11_taken_11 ?_
    refine j_iload_n hE dX11_taken_14 rfl 1 rfl ?_
    obtain ⟨q4, hc5, hf⟩ := bind_of hf
    refine j_callV (ws' := ([n_WP g a , n_Reader g (fun i => a (i + 1)) re_z, n_Tape g (fun i => a (i + 4)) ta_z, n_Road g (fun i => a (i + 6)) ro_z, n_Kinds g (fun i => a (i + 14)) ki_z, n_Rule g (fun i => a (i + 20)) q4.1 q4.2.1, n_Notes g (fun i => a (i + 23)) no_z, n_Road g (fun i => a (i + 30)) sro_z, n_Kinds g (fun i => a (i + 38)) ski_z, n_Rule g (fun i => a (i + 44)) sru_z sru_y, n_Notes g (fun i => a (i + 47)) sno_z, n_Odds g (fun i => a (i + 54)) od_z od_y, n_Luck g (fun i => a (i + 57)) lu_z lu_y, n_Falls g (fun i => a (i + 59)) fa_z, n_Odds g (fun i => a (i + 60)) fod_z fod_y, n_House g (fun i => a (i + 63)) ho_z, n_Poles g (fun i => a (i + 64)) po_z, n_Odds g (fun i => a (i + 69)) pod_z pod_y] : List va_W)) (As := [.int x1]) (rest := []) (st2 := [.int q4.2.2]) hE (fun l => c_Road_takenIn l g (fun i => a (i + 6)) ro_z ki_z ru_z ru_y no_z x1 q4 hc5) cd_X8_takenIn cv_X8_takenIn ml_WP_206 rfl rfl rfl (wg_Road_0 _ _ _) ⟨⟨Nat.le_of_ble_eq_true rfl, Nat.le_of_ble_eq_true rfl⟩, ⟨Nat.zero_le _, Nat.zero_le _⟩, rfl, rfl⟩ [3, 4, 5, 6] rfl rfl rfl (Nat.le_of_ble_eq_true rfl) rfl dX11_taken_15 ?_
    refine j_goto (tgt := 22) hE dX11_taken_18 (by decide) ?_
    obtain rfl := Option.some.inj hf
    exact j_iret hE hq rfl rfl dX11_taken_22
def rm_WP_law : Room := { frames := 6, cells := 0, slots := 0, locals := 158 }
def f_WP_law (ki_z : jZ) (ru_z : jZ) (ru_y : jY) (lu_z : jZ) (lu_y : jY) (x1 : Int32) (x2 : Int32) : Option (jZ × jY × jZ × jY × Int64) := (f_WP_isWithin x1 0 9).bind fun q1 => (if q1 = 0 then some (ru_z, ru_y, lu_z, lu_y, (-1))
    else (f_Luck_applyLaw lu_z lu_y ki_z ru_z ru_y x1).bind fun q4 => (if x2 = 0 then some (q4.2.2.1, q4.2.2.2, q4.1, q4.2.1, (q4.2.1 1 0))
    else (if x2 = 1 then some (q4.2.2.1, q4.2.2.2, q4.1, q4.2.1, (1000 * (Int32.toInt64 (ki_z 1 0))))
    else (if x2 = 2 then some (q4.2.2.1, q4.2.2.2, q4.1, q4.2.1, (q4.2.1 2 0))
    else (if x2 = 3 then some (q4.2.2.1, q4.2.2.2, q4.1, q4.2.1, (q4.2.1 3 0))
    else (if x2 = 4 then (f_Luck_ofHundred q4.2.1).bind fun q11 => some (q4.2.2.1, q4.2.2.2, q4.1, q4.2.1, q11)
    else some (q4.2.2.1, q4.2.2.2, q4.1, q4.2.1, (-1))))))))
set_option maxRecDepth 100000 in
theorem c_WP_law (l : Launch) (g : jG) (a : Nat → Nat) (re_z : jZ) (ta_z : jZ) (ro_z : jZ) (ki_z : jZ) (ru_z : jZ) (ru_y : jY) (no_z : jZ) (sro_z : jZ) (ski_z : jZ) (sru_z : jZ) (sru_y : jY) (sno_z : jZ) (od_z : jZ) (od_y : jY) (lu_z : jZ) (lu_y : jY) (fa_z : jZ) (fod_z : jZ) (fod_y : jY) (ho_z : jZ) (po_z : jZ) (pod_z : jZ) (pod_y : jY) (x1 : Int32) (x2 : Int32) (res : jZ × jY × jZ × jY × Int64) (hf : f_WP_law ki_z ru_z ru_y lu_z lu_y x1 x2 = some res) : MC l g yX11_law cX11_law 3 (some .long) rm_WP_law [.ref (a 0), .int x1, .int x2] (([n_WP g a , n_Reader g (fun i => a (i + 1)) re_z, n_Tape g (fun i => a (i + 4)) ta_z, n_Road g (fun i => a (i + 6)) ro_z, n_Kinds g (fun i => a (i + 14)) ki_z, n_Rule g (fun i => a (i + 20)) ru_z ru_y, n_Notes g (fun i => a (i + 23)) no_z, n_Road g (fun i => a (i + 30)) sro_z, n_Kinds g (fun i => a (i + 38)) ski_z, n_Rule g (fun i => a (i + 44)) sru_z sru_y, n_Notes g (fun i => a (i + 47)) sno_z, n_Odds g (fun i => a (i + 54)) od_z od_y, n_Luck g (fun i => a (i + 57)) lu_z lu_y, n_Falls g (fun i => a (i + 59)) fa_z, n_Odds g (fun i => a (i + 60)) fod_z fod_y, n_House g (fun i => a (i + 63)) ho_z, n_Poles g (fun i => a (i + 64)) po_z, n_Odds g (fun i => a (i + 69)) pod_z pod_y] : List va_W)) (some (.long res.2.2.2.2)) (([n_WP g a , n_Reader g (fun i => a (i + 1)) re_z, n_Tape g (fun i => a (i + 4)) ta_z, n_Road g (fun i => a (i + 6)) ro_z, n_Kinds g (fun i => a (i + 14)) ki_z, n_Rule g (fun i => a (i + 20)) res.1 res.2.1, n_Notes g (fun i => a (i + 23)) no_z, n_Road g (fun i => a (i + 30)) sro_z, n_Kinds g (fun i => a (i + 38)) ski_z, n_Rule g (fun i => a (i + 44)) sru_z sru_y, n_Notes g (fun i => a (i + 47)) sno_z, n_Odds g (fun i => a (i + 54)) od_z od_y, n_Luck g (fun i => a (i + 57)) res.2.2.1 res.2.2.2.1, n_Falls g (fun i => a (i + 59)) fa_z, n_Odds g (fun i => a (i + 60)) fod_z fod_y, n_House g (fun i => a (i + 63)) ho_z, n_Poles g (fun i => a (i + 64)) po_z, n_Odds g (fun i => a (i + 69)) pod_z pod_y] : List va_W)) 0 0 := by
  refine MC_of (own := RX11) (lv := [(0, .ref (a 0)), (1, .int x1), (2, .int x2)]) (by decide) rfl (Nat.le_of_ble_eq_true rfl) rfl rfl (fun E hE hq => ?_)
  unfold f_WP_law at hf
  refine j_iload_n hE dX11_law_0 rfl 1 rfl ?_
  refine j_iconst (v := 0) hE dX11_law_1 (by decide) ?_
  refine j_bipush (v := 9) hE dX11_law_2 (by decide) ?_
  obtain ⟨q1, hc2, hf⟩ := bind_of hf
  refine j_callS (ws' := ([n_WP g a , n_Reader g (fun i => a (i + 1)) re_z, n_Tape g (fun i => a (i + 4)) ta_z, n_Road g (fun i => a (i + 6)) ro_z, n_Kinds g (fun i => a (i + 14)) ki_z, n_Rule g (fun i => a (i + 20)) ru_z ru_y, n_Notes g (fun i => a (i + 23)) no_z, n_Road g (fun i => a (i + 30)) sro_z, n_Kinds g (fun i => a (i + 38)) ski_z, n_Rule g (fun i => a (i + 44)) sru_z sru_y, n_Notes g (fun i => a (i + 47)) sno_z, n_Odds g (fun i => a (i + 54)) od_z od_y, n_Luck g (fun i => a (i + 57)) lu_z lu_y, n_Falls g (fun i => a (i + 59)) fa_z, n_Odds g (fun i => a (i + 60)) fod_z fod_y, n_House g (fun i => a (i + 63)) ho_z, n_Poles g (fun i => a (i + 64)) po_z, n_Odds g (fun i => a (i + 69)) pod_z pod_y] : List va_W)) (As := [.int x1, .int 0, .int 9]) (rest := []) (st2 := [.int q1]) hE (fun l => c_WP_isWithin l g x1 0 9 q1 hc2) cd_X11_isWithin st_X11_isWithin ml_WP_149 rfl rfl ⟨⟨Nat.le_of_ble_eq_true rfl, Nat.le_of_ble_eq_true rfl⟩, ⟨Nat.zero_le _, Nat.zero_le _⟩, rfl, rfl⟩ [] rfl rfl rfl (Nat.le_of_ble_eq_true rfl) rfl dX11_law_4 ?_
  refine j_if_ne (tgt := 14) hE hf dX11_law_7 (by decide) (fun c3 hf => ?_) (fun c3 hf => ?_)
  · refine j_aload_n hE dX11_law_14 rfl 0 rfl ?_
    refine j_get (v := .ref (a 57)) hE lg_WP_38 0 rfl 0 (wg_WP_0 g a ) rfl dX11_law_15 ?_
    refine j_aload_n hE dX11_law_18 rfl 0 rfl ?_
    refine j_get (v := .ref (a 6)) hE lg_WP_21 0 rfl 0 (wg_WP_0 g a ) rfl dX11_law_19 ?_
    refine j_iload_n hE dX11_law_22 rfl 1 rfl ?_
    obtain ⟨q4, hc5, hf⟩ := bind_of hf
    refine j_callV (ws' := ([n_WP g a , n_Reader g (fun i => a (i + 1)) re_z, n_Tape g (fun i => a (i + 4)) ta_z, n_Road g (fun i => a (i + 6)) ro_z, n_Kinds g (fun i => a (i + 14)) ki_z, n_Rule g (fun i => a (i + 20)) q4.2.2.1 q4.2.2.2, n_Notes g (fun i => a (i + 23)) no_z, n_Road g (fun i => a (i + 30)) sro_z, n_Kinds g (fun i => a (i + 38)) ski_z, n_Rule g (fun i => a (i + 44)) sru_z sru_y, n_Notes g (fun i => a (i + 47)) sno_z, n_Odds g (fun i => a (i + 54)) od_z od_y, n_Luck g (fun i => a (i + 57)) q4.1 q4.2.1, n_Falls g (fun i => a (i + 59)) fa_z, n_Odds g (fun i => a (i + 60)) fod_z fod_y, n_House g (fun i => a (i + 63)) ho_z, n_Poles g (fun i => a (i + 64)) po_z, n_Odds g (fun i => a (i + 69)) pod_z pod_y] : List va_W)) (As := [.ref (a 6), .int x1]) (rest := []) (st2 := []) hE (fun l => c_Luck_applyLaw l g (fun i => a (i + 57)) (fun i => a (i + 6)) lu_z lu_y ro_z ki_z ru_z ru_y no_z x1 q4 hc5) cd_X3_applyLaw cv_X3_applyLaw ml_WP_210 rfl rfl rfl (wg_Luck_0 _ _ _ _) ⟨⟨Nat.le_of_ble_eq_true rfl, Nat.le_of_ble_eq_true rfl⟩, ⟨Nat.zero_le _, Nat.zero_le _⟩, rfl, rfl⟩ [12, 3, 4, 5, 6] rfl rfl rfl (Nat.le_of_ble_eq_true rfl) rfl dX11_law_23 ?_
    refine j_iload_n hE dX11_law_26 rfl 2 rfl ?_
    refine j_case hf (fun c6 hf => ?_) (fun c6 hf => ?_)
    · refine j_tableIn (tgt := 60) hE dX11_law_27 (by rw [c6]; decide) (by rw [c6]; decide) (by rw [c6]; try rfl) (by decide) ?_
      refine j_aload_n hE dX11_law_60 rfl 0 rfl ?_
      refine j_get (v := .ref (a 57)) hE lg_WP_38 0 rfl 0 (wg_WP_0 g a ) rfl dX11_law_61 ?_
      refine j_get (v := .long (q4.2.1 1 0)) hE lg_WP_214 12 rfl 0 (wg_Luck_0 g (fun i => a (i + 57)) q4.1 q4.2.1) rfl dX11_law_64 ?_
      obtain rfl := Option.some.inj hf
      exact j_lret hE hq rfl rfl dX11_law_67
    refine j_case hf (fun c7 hf => ?_) (fun c7 hf => ?_)
    · refine j_tableIn (tgt := 68) hE dX11_law_27 (by rw [c7]; decide) (by rw [c7]; decide) (by rw [c7]; try rfl) (by decide) ?_
      refine j_ldc2 hE co_WP_217 dX11_law_68 ?_
      refine j_aload_n hE dX11_law_71 rfl 0 rfl ?_
      refine j_get (v := .ref (a 6)) hE lg_WP_21 0 rfl 0 (wg_WP_0 g a ) rfl dX11_law_72 ?_
      refine j_get (v := .ref (a 14)) hE lg_WP_93 3 rfl 0 (wg_Road_0 g (fun i => a (i + 6)) ro_z) rfl dX11_law_75 ?_
      refine j_get (v := .int (ki_z 1 0)) hE lg_WP_219 4 rfl 0 (wg_Kinds_0 g (fun i => a (i + 14)) ki_z) rfl dX11_law_78 ?_
      refine j_i2l hE dX11_law_81 ?_
      refine j_lmul hE dX11_law_82 ?_
      obtain rfl := Option.some.inj hf
      exact j_lret hE hq rfl rfl dX11_law_83
    refine j_case hf (fun c8 hf => ?_) (fun c8 hf => ?_)
    · refine j_tableIn (tgt := 84) hE dX11_law_27 (by rw [c8]; decide) (by rw [c8]; decide) (by rw [c8]; try rfl) (by decide) ?_
      refine j_aload_n hE dX11_law_84 rfl 0 rfl ?_
      refine j_get (v := .ref (a 57)) hE lg_WP_38 0 rfl 0 (wg_WP_0 g a ) rfl dX11_law_85 ?_
      refine j_get (v := .long (q4.2.1 2 0)) hE lg_WP_222 12 rfl 0 (wg_Luck_0 g (fun i => a (i + 57)) q4.1 q4.2.1) rfl dX11_law_88 ?_
      obtain rfl := Option.some.inj hf
      exact j_lret hE hq rfl rfl dX11_law_91
    refine j_case hf (fun c9 hf => ?_) (fun c9 hf => ?_)
    · refine j_tableIn (tgt := 92) hE dX11_law_27 (by rw [c9]; decide) (by rw [c9]; decide) (by rw [c9]; try rfl) (by decide) ?_
      refine j_aload_n hE dX11_law_92 rfl 0 rfl ?_
      refine j_get (v := .ref (a 57)) hE lg_WP_38 0 rfl 0 (wg_WP_0 g a ) rfl dX11_law_93 ?_
      refine j_get (v := .long (q4.2.1 3 0)) hE lg_WP_225 12 rfl 0 (wg_Luck_0 g (fun i => a (i + 57)) q4.1 q4.2.1) rfl dX11_law_96 ?_
      obtain rfl := Option.some.inj hf
      exact j_lret hE hq rfl rfl dX11_law_99
    refine j_case hf (fun c10 hf => ?_) (fun c10 hf => ?_)
    · refine j_tableIn (tgt := 100) hE dX11_law_27 (by rw [c10]; decide) (by rw [c10]; decide) (by rw [c10]; try rfl) (by decide) ?_
      refine j_aload_n hE dX11_law_100 rfl 0 rfl ?_
      refine j_get (v := .ref (a 57)) hE lg_WP_38 0 rfl 0 (wg_WP_0 g a ) rfl dX11_law_101 ?_
      obtain ⟨q11, hc12, hf⟩ := bind_of hf
      refine j_callV (ws' := ([n_WP g a , n_Reader g (fun i => a (i + 1)) re_z, n_Tape g (fun i => a (i + 4)) ta_z, n_Road g (fun i => a (i + 6)) ro_z, n_Kinds g (fun i => a (i + 14)) ki_z, n_Rule g (fun i => a (i + 20)) q4.2.2.1 q4.2.2.2, n_Notes g (fun i => a (i + 23)) no_z, n_Road g (fun i => a (i + 30)) sro_z, n_Kinds g (fun i => a (i + 38)) ski_z, n_Rule g (fun i => a (i + 44)) sru_z sru_y, n_Notes g (fun i => a (i + 47)) sno_z, n_Odds g (fun i => a (i + 54)) od_z od_y, n_Luck g (fun i => a (i + 57)) q4.1 q4.2.1, n_Falls g (fun i => a (i + 59)) fa_z, n_Odds g (fun i => a (i + 60)) fod_z fod_y, n_House g (fun i => a (i + 63)) ho_z, n_Poles g (fun i => a (i + 64)) po_z, n_Odds g (fun i => a (i + 69)) pod_z pod_y] : List va_W)) (As := []) (rest := []) (st2 := [.long q11]) hE (fun l => c_Luck_ofHundred l g (fun i => a (i + 57)) q4.1 q4.2.1 q11 hc12) cd_X3_ofHundred cv_X3_ofHundred ml_WP_228 rfl rfl rfl (wg_Luck_0 _ _ _ _) ⟨⟨Nat.le_of_ble_eq_true rfl, Nat.le_of_ble_eq_true rfl⟩, ⟨Nat.zero_le _, Nat.zero_le _⟩, rfl, rfl⟩ [12] rfl rfl rfl (Nat.le_of_ble_eq_true rfl) rfl dX11_law_104 ?_
      obtain rfl := Option.some.inj hf
      exact j_lret hE hq rfl rfl dX11_law_107
    have t_c6 : 0 ≠ Int32.toInt x2 := fun h => c6 (Int32.toInt_inj.mp (h.symm.trans (by decide)))
    have t_c7 : 1 ≠ Int32.toInt x2 := fun h => c7 (Int32.toInt_inj.mp (h.symm.trans (by decide)))
    have t_c8 : 2 ≠ Int32.toInt x2 := fun h => c8 (Int32.toInt_inj.mp (h.symm.trans (by decide)))
    have t_c9 : 3 ≠ Int32.toInt x2 := fun h => c9 (Int32.toInt_inj.mp (h.symm.trans (by decide)))
    have t_c10 : 4 ≠ Int32.toInt x2 := fun h => c10 (Int32.toInt_inj.mp (h.symm.trans (by decide)))
    refine j_tableOut (tgt := 108) hE dX11_law_27 (by omega) (by decide) ?_
    refine j_ldc2 hE co_WP_175 dX11_law_108 ?_
    obtain rfl := Option.some.inj hf
    exact j_lret hE hq rfl rfl dX11_law_111
  · refine j_ldc2 hE co_WP_175 dX11_law_10 ?_
    obtain rfl := Option.some.inj hf
    exact j_lret hE hq rfl rfl dX11_law_13
