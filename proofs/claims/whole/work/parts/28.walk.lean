def rm_Mo_takes : Room := { frames := 2, cells := 0, slots := 0, locals := 48 }
def f_Mo_takes_16  (x1 : Int32)  : Nat → jZ → jY → Int32 → Option (jZ × jY × Int32)
  | 0, _, _, _ => none
  | n + 1, mo_z, mo_y, v2 => (if (mo_z 17 0) ≤ v2 then (ix 0 64).bind fun _ => (if (lg_cmp (mo_y 47 (Int32.toNatClampNeg 0)) 0) = 0 then some (mo_z, mo_y, 0)
    else some (mo_z, mo_y, 1))
    else (ix v2 128).bind fun _ => (if (mo_z 15 (Int32.toNatClampNeg v2)) = 2 then (ix v2 128).bind fun _ => (f_Mo_works mo_z mo_y (mo_z 16 (Int32.toNatClampNeg v2))).bind fun q14 => (if q14.2.2 = 0 then some (q14.1, q14.2.1, 0)
    else f_Mo_takes_16 x1 n q14.1 q14.2.1 (v2 + 1))
    else (ix v2 128).bind fun _ => (if (mo_z 15 (Int32.toNatClampNeg v2)) = 0 then (ix v2 128).bind fun _ => (ix (mo_z 48 0) 64).bind fun _ => f_Mo_takes_16 x1 n (up2 mo_z 48 0 ((mo_z 48 0) + 1)) (up2 mo_y 47 (Int32.toNatClampNeg (mo_z 48 0)) (Int32.toInt64 (mo_z 16 (Int32.toNatClampNeg v2)))) (v2 + 1)
    else (ix v2 128).bind fun _ => (f_Mo_nameOf mo_z (mo_z 16 (Int32.toNatClampNeg v2)) x1).bind fun q10 => (ix (mo_z 48 0) 64).bind fun _ => f_Mo_takes_16 x1 n (up2 mo_z 48 0 ((mo_z 48 0) + 1)) (up2 mo_y 47 (Int32.toNatClampNeg (mo_z 48 0)) q10) (v2 + 1))))
def f_Mo_takes (mo_z : jZ) (mo_y : jY) (x1 : Int32) : Option (jZ × jY × Int32) := (if (mo_z 17 0) = 0 then some (mo_z, mo_y, 0)
    else f_Mo_takes_16 x1 FU (up2 mo_z 48 0 0) mo_y 0)
set_option maxRecDepth 100000 in
theorem j_Mo_takes_16 (E : jT) (g : jG) (a : Nat → Nat)  (x1 : Int32) (res : jZ × jY × Int32) (hE : jOk E g RX12 cX12_takes 3 (some .boolean) rm_Mo_takes) (hq : jEnd E g (some (.int res.2.2)) (([n_Mo g a res.1 res.2.1] : List va_W)) 0 0)  : ∀ (n : Nat) (mo_z : jZ) (mo_y : jY) (v2 : Int32), f_Mo_takes_16 x1 n mo_z mo_y v2 = some res → J E g 0 0 (([n_Mo g a mo_z mo_y] : List va_W)) [(0, .ref (a 0)), (1, .int x1), (2, .int v2)] 16 [] := by
  intro n
  induction n with
  | zero =>
    intro mo_z mo_y v2 hf
    rw [f_Mo_takes_16] at hf
    cases hf
  | succ n ih =>
    intro mo_z mo_y v2 hf
    rw [f_Mo_takes_16] at hf
    refine j_iload_n hE dX12_takes_16 rfl 2 rfl ?_
    refine j_aload_n hE dX12_takes_17 rfl 0 rfl ?_
    refine j_get (v := .int (mo_z 17 0)) hE lg_Mo_243 0 rfl 0 (wg_Mo_0 g a mo_z mo_y) rfl dX12_takes_18 ?_
    refine j_icmp_ge (tgt := 104) hE hf dX12_takes_21 (by decide) (fun c2 hf => ?_) (fun c2 hf => ?_)
    · refine j_aload_n hE dX12_takes_104 rfl 0 rfl ?_
      refine j_get (v := .ref (a 19)) hE lg_Mo_77 0 rfl 0 (wg_Mo_0 g a mo_z mo_y) rfl dX12_takes_105 ?_
      refine j_iconst (v := 0) hE dX12_takes_108 (by decide) ?_
      refine j_lald hE hf 0 rfl 19 (wg_Mo_19 g a mo_z mo_y) dX12_takes_109 (fun hf => ?_)
      refine j_lconst (v := 0) hE dX12_takes_110 (by decide) ?_
      refine j_lcmp hE dX12_takes_111 ?_
      refine j_if_eq (tgt := 119) hE hf dX12_takes_112 (by decide) (fun c4 hf => ?_) (fun c4 hf => ?_)
      · refine j_iconst (v := 0) hE dX12_takes_119 (by decide) ?_
        obtain rfl := Option.some.inj hf
        exact j_zret_c hE (Or.inl rfl) hq rfl rfl dX12_takes_120
      · refine j_iconst (v := 1) hE dX12_takes_115 (by decide) ?_
        refine j_goto (tgt := 120) hE dX12_takes_116 (by decide) ?_
        obtain rfl := Option.some.inj hf
        exact j_zret_c hE (Or.inr rfl) hq rfl rfl dX12_takes_120
    · refine j_aload_n hE dX12_takes_24 rfl 0 rfl ?_
      refine j_get (v := .ref (a 12)) hE lg_Mo_46 0 rfl 0 (wg_Mo_0 g a mo_z mo_y) rfl dX12_takes_25 ?_
      refine j_iload_n hE dX12_takes_28 rfl 2 rfl ?_
      refine j_iald hE hf 0 rfl 12 (wg_Mo_12 g a mo_z mo_y) dX12_takes_29 (fun hf => ?_)
      refine j_iconst (v := 2) hE dX12_takes_30 (by decide) ?_
      refine j_icmp_ne (tgt := 49) hE hf dX12_takes_31 (by decide) (fun c6 hf => ?_) (fun c6 hf => ?_)
      · refine j_aload_n hE dX12_takes_49 rfl 0 rfl ?_
        refine j_get (v := .ref (a 19)) hE lg_Mo_77 0 rfl 0 (wg_Mo_0 g a mo_z mo_y) rfl dX12_takes_50 ?_
        refine j_aload_n hE dX12_takes_53 rfl 0 rfl ?_
        refine j_get (v := .int (mo_z 48 0)) hE lg_Mo_309 0 rfl 0 (wg_Mo_0 g a mo_z mo_y) rfl dX12_takes_54 ?_
        refine j_aload_n hE dX12_takes_57 rfl 0 rfl ?_
        refine j_get (v := .ref (a 12)) hE lg_Mo_46 0 rfl 0 (wg_Mo_0 g a mo_z mo_y) rfl dX12_takes_58 ?_
        refine j_iload_n hE dX12_takes_61 rfl 2 rfl ?_
        refine j_iald hE hf 0 rfl 12 (wg_Mo_12 g a mo_z mo_y) dX12_takes_62 (fun hf => ?_)
        refine j_if_ne (tgt := 76) hE hf dX12_takes_63 (by decide) (fun c8 hf => ?_) (fun c8 hf => ?_)
        · refine j_aload_n hE dX12_takes_76 rfl 0 rfl ?_
          refine j_aload_n hE dX12_takes_77 rfl 0 rfl ?_
          refine j_get (v := .ref (a 13)) hE lg_Mo_49 0 rfl 0 (wg_Mo_0 g a mo_z mo_y) rfl dX12_takes_78 ?_
          refine j_iload_n hE dX12_takes_81 rfl 2 rfl ?_
          refine j_iald hE hf 0 rfl 13 (wg_Mo_13 g a mo_z mo_y) dX12_takes_82 (fun hf => ?_)
          refine j_iload_n hE dX12_takes_83 rfl 1 rfl ?_
          obtain ⟨q10, hc11, hf⟩ := bind_of hf
          refine j_callV (ws' := ([n_Mo g a mo_z mo_y] : List va_W)) (As := [.int (mo_z 16 (Int32.toNatClampNeg v2)), .int x1]) (rest := [.int (mo_z 48 0), .ref (a 19)]) (st2 := [.long q10, .int (mo_z 48 0), .ref (a 19)]) hE (fun l => c_Mo_nameOf l g a mo_z mo_y (mo_z 16 (Int32.toNatClampNeg v2)) x1 q10 hc11) cd_X12_nameOf cv_X12_nameOf ml_Mo_323 rfl rfl rfl (wg_Mo_0 _ _ _ _) ⟨⟨Nat.le_of_ble_eq_true rfl, Nat.le_of_ble_eq_true rfl⟩, ⟨Nat.zero_le _, Nat.zero_le _⟩, rfl, rfl⟩ [0] rfl rfl rfl (Nat.le_of_ble_eq_true rfl) rfl dX12_takes_84 ?_
          refine j_last (ws' := ([n_Mo g a mo_z (up2 mo_y 47 (Int32.toNatClampNeg (mo_z 48 0)) q10)] : List va_W)) hE hf 0 rfl 19 (wg_Mo_19 g a mo_z mo_y) (wa_Mo_19 g a mo_z mo_y (Int32.toNatClampNeg (mo_z 48 0)) q10) rfl dX12_takes_87 (fun hf => ?_)
          refine j_aload_n hE dX12_takes_88 rfl 0 rfl ?_
          refine j_dup hE dX12_takes_89 rfl ?_
          refine j_get (v := .int (mo_z 48 0)) hE lg_Mo_309 0 rfl 0 (wg_Mo_0 g a mo_z (up2 mo_y 47 (Int32.toNatClampNeg (mo_z 48 0)) q10)) rfl dX12_takes_90 ?_
          refine j_iconst (v := 1) hE dX12_takes_93 (by decide) ?_
          refine j_iadd hE dX12_takes_94 ?_
          refine j_put (v := .int ((mo_z 48 0) + 1)) (ws' := ([n_Mo g a (up2 mo_z 48 0 ((mo_z 48 0) + 1)) (up2 mo_y 47 (Int32.toNatClampNeg (mo_z 48 0)) q10)] : List va_W)) hE lp_Mo_309 0 rfl 0 (wg_Mo_0 g a mo_z (up2 mo_y 47 (Int32.toNatClampNeg (mo_z 48 0)) q10)) rfl rfl (Nat.le_of_ble_eq_true rfl) (wp_Mo_48 g a mo_z (up2 mo_y 47 (Int32.toNatClampNeg (mo_z 48 0)) q10) ((mo_z 48 0) + 1)) rfl dX12_takes_95 ?_
          refine j_iinc (v := (v2 + 1)) (lv' := [(2, .int (v2 + 1)), (0, .ref (a 0)), (1, .int x1)]) hE dX12_takes_98 2 rfl rfl (by decide) rfl ?_
          refine j_goto (tgt := 16) hE dX12_takes_101 (by decide) ?_
          exact j_sub [1, 2, 0] rfl (ih (up2 mo_z 48 0 ((mo_z 48 0) + 1)) (up2 mo_y 47 (Int32.toNatClampNeg (mo_z 48 0)) q10) (v2 + 1) hf)
        · refine j_aload_n hE dX12_takes_66 rfl 0 rfl ?_
          refine j_get (v := .ref (a 13)) hE lg_Mo_49 0 rfl 0 (wg_Mo_0 g a mo_z mo_y) rfl dX12_takes_67 ?_
          refine j_iload_n hE dX12_takes_70 rfl 2 rfl ?_
          refine j_iald hE hf 0 rfl 13 (wg_Mo_13 g a mo_z mo_y) dX12_takes_71 (fun hf => ?_)
          refine j_i2l hE dX12_takes_72 ?_
          refine j_goto (tgt := 87) hE dX12_takes_73 (by decide) ?_
          refine j_last (ws' := ([n_Mo g a mo_z (up2 mo_y 47 (Int32.toNatClampNeg (mo_z 48 0)) (Int32.toInt64 (mo_z 16 (Int32.toNatClampNeg v2))))] : List va_W)) hE hf 0 rfl 19 (wg_Mo_19 g a mo_z mo_y) (wa_Mo_19 g a mo_z mo_y (Int32.toNatClampNeg (mo_z 48 0)) (Int32.toInt64 (mo_z 16 (Int32.toNatClampNeg v2)))) rfl dX12_takes_87 (fun hf => ?_)
          refine j_aload_n hE dX12_takes_88 rfl 0 rfl ?_
          refine j_dup hE dX12_takes_89 rfl ?_
          refine j_get (v := .int (mo_z 48 0)) hE lg_Mo_309 0 rfl 0 (wg_Mo_0 g a mo_z (up2 mo_y 47 (Int32.toNatClampNeg (mo_z 48 0)) (Int32.toInt64 (mo_z 16 (Int32.toNatClampNeg v2))))) rfl dX12_takes_90 ?_
          refine j_iconst (v := 1) hE dX12_takes_93 (by decide) ?_
          refine j_iadd hE dX12_takes_94 ?_
          refine j_put (v := .int ((mo_z 48 0) + 1)) (ws' := ([n_Mo g a (up2 mo_z 48 0 ((mo_z 48 0) + 1)) (up2 mo_y 47 (Int32.toNatClampNeg (mo_z 48 0)) (Int32.toInt64 (mo_z 16 (Int32.toNatClampNeg v2))))] : List va_W)) hE lp_Mo_309 0 rfl 0 (wg_Mo_0 g a mo_z (up2 mo_y 47 (Int32.toNatClampNeg (mo_z 48 0)) (Int32.toInt64 (mo_z 16 (Int32.toNatClampNeg v2))))) rfl rfl (Nat.le_of_ble_eq_true rfl) (wp_Mo_48 g a mo_z (up2 mo_y 47 (Int32.toNatClampNeg (mo_z 48 0)) (Int32.toInt64 (mo_z 16 (Int32.toNatClampNeg v2)))) ((mo_z 48 0) + 1)) rfl dX12_takes_95 ?_
          refine j_iinc (v := (v2 + 1)) (lv' := [(2, .int (v2 + 1)), (0, .ref (a 0)), (1, .int x1)]) hE dX12_takes_98 2 rfl rfl (by decide) rfl ?_
          refine j_goto (tgt := 16) hE dX12_takes_101 (by decide) ?_
          exact j_sub [1, 2, 0] rfl (ih (up2 mo_z 48 0 ((mo_z 48 0) + 1)) (up2 mo_y 47 (Int32.toNatClampNeg (mo_z 48 0)) (Int32.toInt64 (mo_z 16 (Int32.toNatClampNeg v2)))) (v2 + 1) hf)
      · refine j_aload_n hE dX12_takes_34 rfl 0 rfl ?_
        refine j_aload_n hE dX12_takes_35 rfl 0 rfl ?_
        refine j_get (v := .ref (a 13)) hE lg_Mo_49 0 rfl 0 (wg_Mo_0 g a mo_z mo_y) rfl dX12_takes_36 ?_
        refine j_iload_n hE dX12_takes_39 rfl 2 rfl ?_
        refine j_iald hE hf 0 rfl 13 (wg_Mo_13 g a mo_z mo_y) dX12_takes_40 (fun hf => ?_)
        obtain ⟨q14, hc15, hf⟩ := bind_of hf
        refine j_callV (ws' := ([n_Mo g a q14.1 q14.2.1] : List va_W)) (As := [.int (mo_z 16 (Int32.toNatClampNeg v2))]) (rest := []) (st2 := [.int q14.2.2]) hE (fun l => c_Mo_works l g a mo_z mo_y (mo_z 16 (Int32.toNatClampNeg v2)) q14 hc15) cd_X12_works cv_X12_works ml_Mo_320 rfl rfl rfl (wg_Mo_0 _ _ _ _) ⟨⟨Nat.le_of_ble_eq_true rfl, Nat.le_of_ble_eq_true rfl⟩, ⟨Nat.zero_le _, Nat.zero_le _⟩, rfl, rfl⟩ [0] rfl rfl rfl (Nat.le_of_ble_eq_true rfl) rfl dX12_takes_41 ?_
        refine j_if_ne (tgt := 98) hE hf dX12_takes_44 (by decide) (fun c16 hf => ?_) (fun c16 hf => ?_)
        · refine j_iinc (v := (v2 + 1)) (lv' := [(2, .int (v2 + 1)), (0, .ref (a 0)), (1, .int x1)]) hE dX12_takes_98 2 rfl rfl (by decide) rfl ?_
          refine j_goto (tgt := 16) hE dX12_takes_101 (by decide) ?_
          exact j_sub [1, 2, 0] rfl (ih q14.1 q14.2.1 (v2 + 1) hf)
        · refine j_iconst (v := 0) hE dX12_takes_47 (by decide) ?_
          obtain rfl := Option.some.inj hf
          exact j_zret_c hE (Or.inl rfl) hq rfl rfl dX12_takes_48
set_option maxRecDepth 100000 in
theorem c_Mo_takes (l : Launch) (g : jG) (a : Nat → Nat) (mo_z : jZ) (mo_y : jY) (x1 : Int32) (res : jZ × jY × Int32) (hf : f_Mo_takes mo_z mo_y x1 = some res) : MC l g yX12_takes cX12_takes 3 (some .boolean) rm_Mo_takes [.ref (a 0), .int x1] (([n_Mo g a mo_z mo_y] : List va_W)) (some (.int res.2.2)) (([n_Mo g a res.1 res.2.1] : List va_W)) 0 0 := by
  refine MC_of (own := RX12) (lv := [(0, .ref (a 0)), (1, .int x1)]) (by decide) rfl (Nat.le_of_ble_eq_true rfl) rfl rfl (fun E hE hq => ?_)
  unfold f_Mo_takes at hf
  refine j_aload_n hE dX12_takes_0 rfl 0 rfl ?_
  refine j_get (v := .int (mo_z 17 0)) hE lg_Mo_243 0 rfl 0 (wg_Mo_0 g a mo_z mo_y) rfl dX12_takes_1 ?_
  refine j_if_ne (tgt := 9) hE hf dX12_takes_4 (by decide) (fun c1 hf => ?_) (fun c1 hf => ?_)
  · refine j_aload_n hE dX12_takes_9 rfl 0 rfl ?_
    refine j_iconst (v := 0) hE dX12_takes_10 (by decide) ?_
    refine j_put (v := .int 0) (ws' := ([n_Mo g a (up2 mo_z 48 0 0) mo_y] : List va_W)) hE lp_Mo_309 0 rfl 0 (wg_Mo_0 g a mo_z mo_y) rfl rfl (Nat.le_of_ble_eq_true rfl) (wp_Mo_48 g a mo_z mo_y 0) rfl dX12_takes_11 ?_
    refine j_iconst (v := 0) hE dX12_takes_14 (by decide) ?_
    refine j_istore_n (lv' := [(2, .int 0), (0, .ref (a 0)), (1, .int x1)]) hE dX12_takes_15 rfl (by decide) rfl ?_
    exact j_sub [1, 2, 0] rfl (j_Mo_takes_16 E g a x1 res hE hq FU (up2 mo_z 48 0 0) mo_y 0 hf)
  · refine j_iconst (v := 0) hE dX12_takes_7 (by decide) ?_
    obtain rfl := Option.some.inj hf
    exact j_zret_c hE (Or.inl rfl) hq rfl rfl dX12_takes_8
def rm_Mo_isTaken : Room := { frames := 3, cells := 0, slots := 0, locals := 70 }
def f_Mo_isTaken_2  (x1 : Int32) (x2 : Int32)  : Nat → jZ → jY → Int32 → Option (jZ × jY × Int32)
  | 0, _, _, _ => none
  | n + 1, mo_z, mo_y, v3 => (if 3 ≤ v3 then (ix x1 24).bind fun _ => (f_Mo_takes mo_z mo_y (mo_z 9 (Int32.toNatClampNeg x1))).bind fun q3 => (bz q3.2.2).bind fun _ => some (q3.1, q3.2.1, q3.2.2)
    else (f_Mo_countOf mo_z x1 ((x2 - 3) + v3)).bind fun q6 => (ix v3 3).bind fun _ => (ix v3 3).bind fun _ => (if ((up2 mo_z 49 (Int32.toNatClampNeg v3) q6) 49 (Int32.toNatClampNeg v3)) = (-1) then some ((up2 mo_z 49 (Int32.toNatClampNeg v3) q6), mo_y, 0)
    else f_Mo_isTaken_2 x1 x2 n (up2 mo_z 49 (Int32.toNatClampNeg v3) q6) mo_y (v3 + 1)))
def f_Mo_isTaken (mo_z : jZ) (mo_y : jY) (x1 : Int32) (x2 : Int32) : Option (jZ × jY × Int32) := f_Mo_isTaken_2 x1 x2 FU mo_z mo_y 0
set_option maxRecDepth 100000 in
theorem j_Mo_isTaken_2 (E : jT) (g : jG) (a : Nat → Nat)  (x1 : Int32) (x2 : Int32) (res : jZ × jY × Int32) (hE : jOk E g RX12 cX12_isTaken 4 (some .boolean) rm_Mo_isTaken) (hq : jEnd E g (some (.int res.2.2)) (([n_Mo g a res.1 res.2.1] : List va_W)) 0 0)  : ∀ (n : Nat) (mo_z : jZ) (mo_y : jY) (v3 : Int32), f_Mo_isTaken_2 x1 x2 n mo_z mo_y v3 = some res → J E g 0 0 (([n_Mo g a mo_z mo_y] : List va_W)) [(0, .ref (a 0)), (1, .int x1), (2, .int x2), (3, .int v3)] 2 [] := by
  intro n
  induction n with
  | zero =>
    intro mo_z mo_y v3 hf
    rw [f_Mo_isTaken_2] at hf
    cases hf
  | succ n ih =>
    intro mo_z mo_y v3 hf
    rw [f_Mo_isTaken_2] at hf
    refine j_iload_n hE dX12_isTaken_2 rfl 3 rfl ?_
    refine j_iconst (v := 3) hE dX12_isTaken_3 (by decide) ?_
    refine j_icmp_ge (tgt := 41) hE hf dX12_isTaken_4 (by decide) (fun c1 hf => ?_) (fun c1 hf => ?_)
    · refine j_aload_n hE dX12_isTaken_41 rfl 0 rfl ?_
      refine j_aload_n hE dX12_isTaken_42 rfl 0 rfl ?_
      refine j_get (v := .ref (a 6)) hE lg_Mo_27 0 rfl 0 (wg_Mo_0 g a mo_z mo_y) rfl dX12_isTaken_43 ?_
      refine j_iload_n hE dX12_isTaken_46 rfl 1 rfl ?_
      refine j_iald hE hf 0 rfl 6 (wg_Mo_6 g a mo_z mo_y) dX12_isTaken_47 (fun hf => ?_)
      obtain ⟨q3, hc4, hf⟩ := bind_of hf
      refine j_callV (ws' := ([n_Mo g a q3.1 q3.2.1] : List va_W)) (As := [.int (mo_z 9 (Int32.toNatClampNeg x1))]) (rest := []) (st2 := [.int q3.2.2]) hE (fun l => c_Mo_takes l g a mo_z mo_y (mo_z 9 (Int32.toNatClampNeg x1)) q3 hc4) cd_X12_takes cv_X12_takes ml_Mo_327 rfl rfl rfl (wg_Mo_0 _ _ _ _) ⟨⟨Nat.le_of_ble_eq_true rfl, Nat.le_of_ble_eq_true rfl⟩, ⟨Nat.zero_le _, Nat.zero_le _⟩, rfl, rfl⟩ [0] rfl rfl rfl (Nat.le_of_ble_eq_true rfl) rfl dX12_isTaken_48 ?_
      obtain ⟨b5, hf⟩ := bz_of hf
      obtain rfl := Option.some.inj hf
      exact j_zret_c hE b5 hq rfl rfl dX12_isTaken_51
    · refine j_aload_n hE dX12_isTaken_7 rfl 0 rfl ?_
      refine j_get (v := .ref (a 20)) hE lg_Mo_81 0 rfl 0 (wg_Mo_0 g a mo_z mo_y) rfl dX12_isTaken_8 ?_
      refine j_iload_n hE dX12_isTaken_11 rfl 3 rfl ?_
      refine j_aload_n hE dX12_isTaken_12 rfl 0 rfl ?_
      refine j_iload_n hE dX12_isTaken_13 rfl 1 rfl ?_
      refine j_iload_n hE dX12_isTaken_14 rfl 2 rfl ?_
      refine j_iconst (v := 3) hE dX12_isTaken_15 (by decide) ?_
      refine j_isub hE dX12_isTaken_16 ?_
      refine j_iload_n hE dX12_isTaken_17 rfl 3 rfl ?_
      refine j_iadd hE dX12_isTaken_18 ?_
      obtain ⟨q6, hc7, hf⟩ := bind_of hf
      refine j_callV (ws' := ([n_Mo g a mo_z mo_y] : List va_W)) (As := [.int x1, .int ((x2 - 3) + v3)]) (rest := [.int v3, .ref (a 20)]) (st2 := [.int q6, .int v3, .ref (a 20)]) hE (fun l => c_Mo_countOf l g a mo_z mo_y x1 ((x2 - 3) + v3) q6 hc7) cd_X12_countOf cv_X12_countOf ml_Mo_258 rfl rfl rfl (wg_Mo_0 _ _ _ _) ⟨⟨Nat.le_of_ble_eq_true rfl, Nat.le_of_ble_eq_true rfl⟩, ⟨Nat.zero_le _, Nat.zero_le _⟩, rfl, rfl⟩ [0] rfl rfl rfl (Nat.le_of_ble_eq_true rfl) rfl dX12_isTaken_19 ?_
      refine j_iast (ws' := ([n_Mo g a (up2 mo_z 49 (Int32.toNatClampNeg v3) q6) mo_y] : List va_W)) hE hf 0 rfl 20 (wg_Mo_20 g a mo_z mo_y) (wa_Mo_20 g a mo_z mo_y (Int32.toNatClampNeg v3) q6) rfl dX12_isTaken_22 (fun hf => ?_)
      refine j_aload_n hE dX12_isTaken_23 rfl 0 rfl ?_
      refine j_get (v := .ref (a 20)) hE lg_Mo_81 0 rfl 0 (wg_Mo_0 g a (up2 mo_z 49 (Int32.toNatClampNeg v3) q6) mo_y) rfl dX12_isTaken_24 ?_
      refine j_iload_n hE dX12_isTaken_27 rfl 3 rfl ?_
      refine j_iald hE hf 0 rfl 20 (wg_Mo_20 g a (up2 mo_z 49 (Int32.toNatClampNeg v3) q6) mo_y) dX12_isTaken_28 (fun hf => ?_)
      refine j_iconst (v := (-1)) hE dX12_isTaken_29 (by decide) ?_
      refine j_icmp_ne (tgt := 35) hE hf dX12_isTaken_30 (by decide) (fun c9 hf => ?_) (fun c9 hf => ?_)
      · refine j_iinc (v := (v3 + 1)) (lv' := [(3, .int (v3 + 1)), (0, .ref (a 0)), (1, .int x1), (2, .int x2)]) hE dX12_isTaken_35 3 rfl rfl (by decide) rfl ?_
        refine j_goto (tgt := 2) hE dX12_isTaken_38 (by decide) ?_
        exact j_sub [1, 2, 3, 0] rfl (ih (up2 mo_z 49 (Int32.toNatClampNeg v3) q6) mo_y (v3 + 1) hf)
      · refine j_iconst (v := 0) hE dX12_isTaken_33 (by decide) ?_
        obtain rfl := Option.some.inj hf
        exact j_zret_c hE (Or.inl rfl) hq rfl rfl dX12_isTaken_34
set_option maxRecDepth 100000 in
theorem c_Mo_isTaken (l : Launch) (g : jG) (a : Nat → Nat) (mo_z : jZ) (mo_y : jY) (x1 : Int32) (x2 : Int32) (res : jZ × jY × Int32) (hf : f_Mo_isTaken mo_z mo_y x1 x2 = some res) : MC l g yX12_isTaken cX12_isTaken 4 (some .boolean) rm_Mo_isTaken [.ref (a 0), .int x1, .int x2] (([n_Mo g a mo_z mo_y] : List va_W)) (some (.int res.2.2)) (([n_Mo g a res.1 res.2.1] : List va_W)) 0 0 := by
  refine MC_of (own := RX12) (lv := [(0, .ref (a 0)), (1, .int x1), (2, .int x2)]) (by decide) rfl (Nat.le_of_ble_eq_true rfl) rfl rfl (fun E hE hq => ?_)
  unfold f_Mo_isTaken at hf
  refine j_iconst (v := 0) hE dX12_isTaken_0 (by decide) ?_
  refine j_istore_n (lv' := [(3, .int 0), (0, .ref (a 0)), (1, .int x1), (2, .int x2)]) hE dX12_isTaken_1 rfl (by decide) rfl ?_
  exact j_sub [1, 2, 3, 0] rfl (j_Mo_isTaken_2 E g a x1 x2 res hE hq FU mo_z mo_y 0 hf)
def rm_Mo_taken : Room := { frames := 4, cells := 0, slots := 0, locals := 93 }
def f_Mo_taken_26  (x1 : Int32)  : Nat → jZ → jY → Int32 → Int32 → Option (jZ × jY × Int32)
  | 0, _, _, _, _ => none
  | n + 1, mo_z, mo_y, v2, v3 => (if (mo_z 4 0) ≤ v3 then some (mo_z, mo_y, v2)
    else (f_Mo_isTaken mo_z mo_y v3 x1).bind fun q6 => (if q6.2.2 = 0 then f_Mo_taken_26 x1 n q6.1 q6.2.1 v2 (v3 + 1)
    else f_Mo_taken_26 x1 n q6.1 q6.2.1 (v2 ||| (1 <<< (v3 &&& 31))) (v3 + 1)))
def f_Mo_taken (mo_z : jZ) (mo_y : jY) (x1 : Int32) : Option (jZ × jY × Int32) := (if x1 < 3 then some ((up2 mo_z 0 0 0), mo_y, (-1))
    else (if x1 ≤ 9 then (f_Mo_knows (up2 mo_z 0 0 0)).bind fun q3 => f_Mo_taken_26 x1 FU q3 mo_y 0 0
    else some ((up2 mo_z 0 0 0), mo_y, (-1))))
set_option maxRecDepth 100000 in
theorem j_Mo_taken_26 (E : jT) (g : jG) (a : Nat → Nat)  (x1 : Int32) (res : jZ × jY × Int32) (hE : jOk E g RX12 cX12_taken 4 (some .int) rm_Mo_taken) (hq : jEnd E g (some (.int res.2.2)) (([n_Mo g a res.1 res.2.1] : List va_W)) 0 0)  : ∀ (n : Nat) (mo_z : jZ) (mo_y : jY) (v2 : Int32) (v3 : Int32), f_Mo_taken_26 x1 n mo_z mo_y v2 v3 = some res → J E g 0 0 (([n_Mo g a mo_z mo_y] : List va_W)) [(0, .ref (a 0)), (1, .int x1), (2, .int v2), (3, .int v3)] 26 [] := by
  intro n
  induction n with
  | zero =>
    intro mo_z mo_y v2 v3 hf
    rw [f_Mo_taken_26] at hf
    cases hf
  | succ n ih =>
    intro mo_z mo_y v2 v3 hf
    rw [f_Mo_taken_26] at hf
    refine j_iload_n hE dX12_taken_26 rfl 3 rfl ?_
    refine j_aload_n hE dX12_taken_27 rfl 0 rfl ?_
    refine j_get (v := .int (mo_z 4 0)) hE lg_Mo_240 0 rfl 0 (wg_Mo_0 g a mo_z mo_y) rfl dX12_taken_28 ?_
    refine j_icmp_ge (tgt := 55) hE hf dX12_taken_31 (by decide) (fun c5 hf => ?_) (fun c5 hf => ?_)
    · refine j_iload_n hE dX12_taken_55 rfl 2 rfl ?_
      obtain rfl := Option.some.inj hf
      exact j_iret hE hq rfl rfl dX12_taken_56
    · refine j_aload_n hE dX12_taken_34 rfl 0 rfl ?_
      refine j_iload_n hE dX12_taken_35 rfl 3 rfl ?_
      refine j_iload_n hE dX12_taken_36 rfl 1 rfl ?_
      obtain ⟨q6, hc7, hf⟩ := bind_of hf
      refine j_callV (ws' := ([n_Mo g a q6.1 q6.2.1] : List va_W)) (As := [.int v3, .int x1]) (rest := []) (st2 := [.int q6.2.2]) hE (fun l => c_Mo_isTaken l g a mo_z mo_y v3 x1 q6 hc7) cd_X12_isTaken cv_X12_isTaken ml_Mo_330 rfl rfl rfl (wg_Mo_0 _ _ _ _) ⟨⟨Nat.le_of_ble_eq_true rfl, Nat.le_of_ble_eq_true rfl⟩, ⟨Nat.zero_le _, Nat.zero_le _⟩, rfl, rfl⟩ [0] rfl rfl rfl (Nat.le_of_ble_eq_true rfl) rfl dX12_taken_37 ?_
      refine j_if_eq (tgt := 49) hE hf dX12_taken_40 (by decide) (fun c8 hf => ?_) (fun c8 hf => ?_)
      · refine j_iinc (v := (v3 + 1)) (lv' := [(3, .int (v3 + 1)), (0, .ref (a 0)), (1, .int x1), (2, .int v2)]) hE dX12_taken_49 3 rfl rfl (by decide) rfl ?_
        refine j_goto (tgt := 26) hE dX12_taken_52 (by decide) ?_
        exact j_sub [1, 2, 3, 0] rfl (ih q6.1 q6.2.1 v2 (v3 + 1) hf)
      · refine j_iload_n hE dX12_taken_43 rfl 2 rfl ?_
        refine j_iconst (v := 1) hE dX12_taken_44 (by decide) ?_
        refine j_iload_n hE dX12_taken_45 rfl 3 rfl ?_
        refine j_ishl hE dX12_taken_46 ?_
        refine j_ior hE dX12_taken_47 ?_
        refine j_istore_n (lv' := [(2, .int (v2 ||| (1 <<< (v3 &&& 31)))), (0, .ref (a 0)), (1, .int x1), (3, .int v3)]) hE dX12_taken_48 rfl (by decide) rfl ?_
        refine j_iinc (v := (v3 + 1)) (lv' := [(3, .int (v3 + 1)), (2, .int (v2 ||| (1 <<< (v3 &&& 31)))), (0, .ref (a 0)), (1, .int x1)]) hE dX12_taken_49 3 rfl rfl (by decide) rfl ?_
        refine j_goto (tgt := 26) hE dX12_taken_52 (by decide) ?_
        exact j_sub [2, 3, 1, 0] rfl (ih q6.1 q6.2.1 (v2 ||| (1 <<< (v3 &&& 31))) (v3 + 1) hf)
set_option maxRecDepth 100000 in
theorem c_Mo_taken (l : Launch) (g : jG) (a : Nat → Nat) (mo_z : jZ) (mo_y : jY) (x1 : Int32) (res : jZ × jY × Int32) (hf : f_Mo_taken mo_z mo_y x1 = some res) : MC l g yX12_taken cX12_taken 4 (some .int) rm_Mo_taken [.ref (a 0), .int x1] (([n_Mo g a mo_z mo_y] : List va_W)) (some (.int res.2.2)) (([n_Mo g a res.1 res.2.1] : List va_W)) 0 0 := by
  refine MC_of (own := RX12) (lv := [(0, .ref (a 0)), (1, .int x1)]) (by decide) rfl (Nat.le_of_ble_eq_true rfl) rfl rfl (fun E hE hq => ?_)
  unfold f_Mo_taken at hf
  refine j_aload_n hE dX12_taken_0 rfl 0 rfl ?_
  refine j_iconst (v := 0) hE dX12_taken_1 (by decide) ?_
  refine j_put (v := .int 0) (ws' := ([n_Mo g a (up2 mo_z 0 0 0) mo_y] : List va_W)) hE lp_Mo_87 0 rfl 0 (wg_Mo_0 g a mo_z mo_y) rfl rfl (Nat.le_of_ble_eq_true rfl) (wp_Mo_0 g a mo_z mo_y 0) rfl dX12_taken_2 ?_
  refine j_iload_n hE dX12_taken_5 rfl 1 rfl ?_
  refine j_iconst (v := 3) hE dX12_taken_6 (by decide) ?_
  refine j_icmp_lt (tgt := 16) hE hf dX12_taken_7 (by decide) (fun c1 hf => ?_) (fun c1 hf => ?_)
  · refine j_iconst (v := (-1)) hE dX12_taken_16 (by decide) ?_
    obtain rfl := Option.some.inj hf
    exact j_iret hE hq rfl rfl dX12_taken_17
  · refine j_iload_n hE dX12_taken_10 rfl 1 rfl ?_
    refine j_bipush (v := 9) hE dX12_taken_11 (by decide) ?_
    refine j_icmp_le (tgt := 18) hE hf dX12_taken_13 (by decide) (fun c2 hf => ?_) (fun c2 hf => ?_)
    · refine j_aload_n hE dX12_taken_18 rfl 0 rfl ?_
      obtain ⟨q3, hc4, hf⟩ := bind_of hf
      refine j_callV (ws' := ([n_Mo g a q3 mo_y] : List va_W)) (As := []) (rest := []) (st2 := []) hE (fun l => c_Mo_knows l g a (up2 mo_z 0 0 0) mo_y q3 hc4) cd_X12_knows cv_X12_knows ml_Mo_255 rfl rfl rfl (wg_Mo_0 _ _ _ _) ⟨⟨Nat.le_of_ble_eq_true rfl, Nat.le_of_ble_eq_true rfl⟩, ⟨Nat.zero_le _, Nat.zero_le _⟩, rfl, rfl⟩ [0] rfl rfl rfl (Nat.le_of_ble_eq_true rfl) rfl dX12_taken_19 ?_
      refine j_iconst (v := 0) hE dX12_taken_22 (by decide) ?_
      refine j_istore_n (lv' := [(2, .int 0), (0, .ref (a 0)), (1, .int x1)]) hE dX12_taken_23 rfl (by decide) rfl ?_
      refine j_iconst (v := 0) hE dX12_taken_24 (by decide) ?_
      refine j_istore_n (lv' := [(3, .int 0), (2, .int 0), (0, .ref (a 0)), (1, .int x1)]) hE dX12_taken_25 rfl (by decide) rfl ?_
      exact j_sub [2, 3, 1, 0] rfl (j_Mo_taken_26 E g a x1 res hE hq FU q3 mo_y 0 0 hf)
    · refine j_iconst (v := (-1)) hE dX12_taken_16 (by decide) ?_
      obtain rfl := Option.some.inj hf
      exact j_iret hE hq rfl rfl dX12_taken_17
def rm_Mo_law : Room := { frames := 3, cells := 0, slots := 0, locals := 70 }
def f_Mo_law_54  (x1 : Int32) (x2 : Int32) (k42 : jZ → jY → Int64 → Int64 → Int64 → Int64 → Int32 → Option (jZ × jY × Int64)) : Nat → jZ → jY → Int64 → Int64 → Int64 → Int64 → Int32 → Int32 → Option (jZ × jY × Int64)
  | 0, _, _, _, _, _, _, _, _ => none
  | n + 1, mo_z, mo_y, v3, v5, v7, v9, v11, v12 => (if 1000 ≤ v12 then k42 mo_z mo_y v3 v5 v7 v9 (v11 + 1)
    else (ix ((10 * v11) + (v12 / 100)) 100).bind fun _ => (ix 0 3).bind fun _ => (ix ((10 * v11) + ((v12 / 10) - (v12 / 10) / 10 * 10)) 100).bind fun _ => (ix 1 3).bind fun _ => (ix ((10 * v11) + (v12 - v12 / 10 * 10)) 100).bind fun _ => (ix 2 3).bind fun _ => (ix v11 10).bind fun _ => (f_Mo_takes (up2 (up2 (up2 mo_z 49 (Int32.toNatClampNeg 0) (mo_z 7 (Int32.toNatClampNeg ((10 * v11) + (v12 / 100))))) 49 (Int32.toNatClampNeg 1) (mo_z 7 (Int32.toNatClampNeg ((10 * v11) + ((v12 / 10) - (v12 / 10) / 10 * 10))))) 49 (Int32.toNatClampNeg 2) (mo_z 7 (Int32.toNatClampNeg ((10 * v11) + (v12 - v12 / 10 * 10))))) mo_y x1).bind fun q16 => (if q16.2.2 = 0 then f_Mo_law_54 x1 x2 k42 n q16.1 q16.2.1 v3 (v5 + (Int32.toInt64 (mo_z 6 (Int32.toNatClampNeg v11)))) v7 v9 v11 (v12 + 1)
    else (ix v11 10).bind fun _ => (ix v11 10).bind fun _ => (ix 0 3).bind fun _ => (ix 1 3).bind fun _ => (ix 2 3).bind fun _ => (ix v11 10).bind fun _ => (f_Mo_meanOf q16.1 v11).bind fun q25 => f_Mo_law_54 x1 x2 k42 n q16.1 q16.2.1 (v3 + (Int32.toInt64 (q16.1 6 (Int32.toNatClampNeg v11)))) (v5 + (Int32.toInt64 (mo_z 6 (Int32.toNatClampNeg v11)))) (v7 + (Int32.toInt64 ((q16.1 6 (Int32.toNatClampNeg v11)) * (((q16.1 49 (Int32.toNatClampNeg 0)) + (q16.1 49 (Int32.toNatClampNeg 1))) + (q16.1 49 (Int32.toNatClampNeg 2)))))) (v9 + ((3 * (Int32.toInt64 (q16.1 6 (Int32.toNatClampNeg v11)))) * (Int32.toInt64 q25))) v11 (v12 + 1)))
def f_Mo_law_42  (x1 : Int32) (x2 : Int32)  : Nat → jZ → jY → Int64 → Int64 → Int64 → Int64 → Int32 → Option (jZ × jY × Int64)
  | 0, _, _, _, _, _, _, _ => none
  | n + 1, mo_z, mo_y, v3, v5, v7, v9, v11 => (if (mo_z 3 0) ≤ v11 then (if x2 = 0 then some (mo_z, mo_y, v3)
    else (if x2 = 1 then some (mo_z, mo_y, v5)
    else (if x2 = 2 then some (mo_z, mo_y, v7)
    else (if x2 = 3 then some (mo_z, mo_y, v9)
    else (if (lg_cmp v7 0) = 0 then some (mo_z, mo_y, 0)
    else (nzl (10 * v7)).bind fun _ => some (mo_z, mo_y, ((100 * ((10 * v7) - v9)) / (10 * v7))))))))
    else f_Mo_law_54 x1 x2 (fun mo_z mo_y v3 v5 v7 v9 v11 => f_Mo_law_42 x1 x2 n mo_z mo_y v3 v5 v7 v9 v11) FU mo_z mo_y v3 v5 v7 v9 v11 0)
def f_Mo_law (mo_z : jZ) (mo_y : jY) (x1 : Int32) (x2 : Int32) : Option (jZ × jY × Int64) := (if x1 < 0 then some ((up2 mo_z 0 0 0), mo_y, (-1))
    else (if 9 < x1 then some ((up2 mo_z 0 0 0), mo_y, (-1))
    else (if x2 < 0 then some ((up2 mo_z 0 0 0), mo_y, (-1))
    else (if x2 ≤ 4 then f_Mo_law_42 x1 x2 FU (up2 mo_z 0 0 0) mo_y 0 0 0 0 0
    else some ((up2 mo_z 0 0 0), mo_y, (-1))))))
set_option maxRecDepth 100000 in
theorem j_Mo_law_54 (E : jT) (g : jG) (a : Nat → Nat)  (x1 : Int32) (x2 : Int32) (res : jZ × jY × Int64) (hE : jOk E g RX12 cX12_law 13 (some .long) rm_Mo_law) (hq : jEnd E g (some (.long res.2.2)) (([n_Mo g a res.1 res.2.1] : List va_W)) 0 0) (k42 : jZ → jY → Int64 → Int64 → Int64 → Int64 → Int32 → Option (jZ × jY × Int64)) (hk42 : ∀ (mo_z : jZ) (mo_y : jY) (v3 : Int64) (v5 : Int64) (v7 : Int64) (v9 : Int64) (v11 : Int32), k42 mo_z mo_y v3 v5 v7 v9 v11 = some res → J E g 0 0 (([n_Mo g a mo_z mo_y] : List va_W)) [(0, .ref (a 0)), (1, .int x1), (2, .int x2), (3, .long v3), (5, .long v5), (7, .long v7), (9, .long v9), (11, .int v11)] 42 []) : ∀ (n : Nat) (mo_z : jZ) (mo_y : jY) (v3 : Int64) (v5 : Int64) (v7 : Int64) (v9 : Int64) (v11 : Int32) (v12 : Int32), f_Mo_law_54 x1 x2 k42 n mo_z mo_y v3 v5 v7 v9 v11 v12 = some res → J E g 0 0 (([n_Mo g a mo_z mo_y] : List va_W)) [(0, .ref (a 0)), (1, .int x1), (2, .int x2), (3, .long v3), (5, .long v5), (7, .long v7), (9, .long v9), (11, .int v11), (12, .int v12)] 54 [] := by
  intro n
  induction n with
  | zero =>
    intro mo_z mo_y v3 v5 v7 v9 v11 v12 hf
    rw [f_Mo_law_54] at hf
    cases hf
  | succ n ih =>
    intro mo_z mo_y v3 v5 v7 v9 v11 v12 hf
    rw [f_Mo_law_54] at hf
    refine j_iload hE dX12_law_54 8 rfl ?_
    refine j_sipush (v := 1000) hE dX12_law_56 (by decide) ?_
    refine j_icmp_ge (tgt := 231) hE hf dX12_law_59 (by decide) (fun c11 hf => ?_) (fun c11 hf => ?_)
    · refine j_iinc (v := (v11 + 1)) (lv' := [(11, .int (v11 + 1)), (0, .ref (a 0)), (1, .int x1), (2, .int x2), (3, .long v3), (5, .long v5), (7, .long v7), (9, .long v9), (12, .int v12)]) hE dX12_law_231 7 rfl rfl (by decide) rfl ?_
      refine j_goto (tgt := 42) hE dX12_law_234 (by decide) ?_
      exact j_sub [1, 2, 3, 4, 5, 6, 7, 0] rfl (hk42 mo_z mo_y v3 v5 v7 v9 (v11 + 1) hf)
    · refine j_aload_n hE dX12_law_62 rfl 0 rfl ?_
      refine j_get (v := .ref (a 20)) hE lg_Mo_81 0 rfl 0 (wg_Mo_0 g a mo_z mo_y) rfl dX12_law_63 ?_
      refine j_iconst (v := 0) hE dX12_law_66 (by decide) ?_
      refine j_aload_n hE dX12_law_67 rfl 0 rfl ?_
      refine j_get (v := .ref (a 4)) hE lg_Mo_21 0 rfl 0 (wg_Mo_0 g a mo_z mo_y) rfl dX12_law_68 ?_
      refine j_bipush (v := 10) hE dX12_law_71 (by decide) ?_
      refine j_iload hE dX12_law_73 7 rfl ?_
      refine j_imul hE dX12_law_75 ?_
      refine j_iload hE dX12_law_76 8 rfl ?_
      refine j_bipush (v := 100) hE dX12_law_78 (by decide) ?_
      refine j_idiv_c hE (by decide) dX12_law_80 ?_
      refine j_iadd hE dX12_law_81 ?_
      refine j_iald hE hf 0 rfl 4 (wg_Mo_4 g a mo_z mo_y) dX12_law_82 (fun hf => ?_)
      refine j_iast (ws' := ([n_Mo g a (up2 mo_z 49 (Int32.toNatClampNeg 0) (mo_z 7 (Int32.toNatClampNeg ((10 * v11) + (v12 / 100))))) mo_y] : List va_W)) hE hf 0 rfl 20 (wg_Mo_20 g a mo_z mo_y) (wa_Mo_20 g a mo_z mo_y (Int32.toNatClampNeg 0) (mo_z 7 (Int32.toNatClampNeg ((10 * v11) + (v12 / 100))))) rfl dX12_law_83 (fun hf => ?_)
      refine j_aload_n hE dX12_law_84 rfl 0 rfl ?_
      refine j_get (v := .ref (a 20)) hE lg_Mo_81 0 rfl 0 (wg_Mo_0 g a (up2 mo_z 49 (Int32.toNatClampNeg 0) (mo_z 7 (Int32.toNatClampNeg ((10 * v11) + (v12 / 100))))) mo_y) rfl dX12_law_85 ?_
      refine j_iconst (v := 1) hE dX12_law_88 (by decide) ?_
      refine j_aload_n hE dX12_law_89 rfl 0 rfl ?_
      refine j_get (v := .ref (a 4)) hE lg_Mo_21 0 rfl 0 (wg_Mo_0 g a (up2 mo_z 49 (Int32.toNatClampNeg 0) (mo_z 7 (Int32.toNatClampNeg ((10 * v11) + (v12 / 100))))) mo_y) rfl dX12_law_90 ?_
      refine j_bipush (v := 10) hE dX12_law_93 (by decide) ?_
      refine j_iload hE dX12_law_95 7 rfl ?_
      refine j_imul hE dX12_law_97 ?_
      refine j_iload hE dX12_law_98 8 rfl ?_
      refine j_bipush (v := 10) hE dX12_law_100 (by decide) ?_
      refine j_idiv_c hE (by decide) dX12_law_102 ?_
      refine j_bipush (v := 10) hE dX12_law_103 (by decide) ?_
      refine j_irem_c hE (by decide) dX12_law_105 ?_
      refine j_iadd hE dX12_law_106 ?_
      refine j_iald hE hf 0 rfl 4 (wg_Mo_4 g a (up2 mo_z 49 (Int32.toNatClampNeg 0) (mo_z 7 (Int32.toNatClampNeg ((10 * v11) + (v12 / 100))))) mo_y) dX12_law_107 (fun hf => ?_)
      refine j_st (st' := [.int (mo_z 7 (Int32.toNatClampNeg ((10 * v11) + ((v12 / 10) - (v12 / 10) / 10 * 10)))), .int 1, .ref (a 20)]) rfl ?_
      refine j_iast (ws' := ([n_Mo g a (up2 (up2 mo_z 49 (Int32.toNatClampNeg 0) (mo_z 7 (Int32.toNatClampNeg ((10 * v11) + (v12 / 100))))) 49 (Int32.toNatClampNeg 1) (mo_z 7 (Int32.toNatClampNeg ((10 * v11) + ((v12 / 10) - (v12 / 10) / 10 * 10))))) mo_y] : List va_W)) hE hf 0 rfl 20 (wg_Mo_20 g a (up2 mo_z 49 (Int32.toNatClampNeg 0) (mo_z 7 (Int32.toNatClampNeg ((10 * v11) + (v12 / 100))))) mo_y) (wa_Mo_20 g a (up2 mo_z 49 (Int32.toNatClampNeg 0) (mo_z 7 (Int32.toNatClampNeg ((10 * v11) + (v12 / 100))))) mo_y (Int32.toNatClampNeg 1) (mo_z 7 (Int32.toNatClampNeg ((10 * v11) + ((v12 / 10) - (v12 / 10) / 10 * 10))))) rfl dX12_law_108 (fun hf => ?_)
      refine j_aload_n hE dX12_law_109 rfl 0 rfl ?_
      refine j_get (v := .ref (a 20)) hE lg_Mo_81 0 rfl 0 (wg_Mo_0 g a (up2 (up2 mo_z 49 (Int32.toNatClampNeg 0) (mo_z 7 (Int32.toNatClampNeg ((10 * v11) + (v12 / 100))))) 49 (Int32.toNatClampNeg 1) (mo_z 7 (Int32.toNatClampNeg ((10 * v11) + ((v12 / 10) - (v12 / 10) / 10 * 10))))) mo_y) rfl dX12_law_110 ?_
      refine j_iconst (v := 2) hE dX12_law_113 (by decide) ?_
      refine j_aload_n hE dX12_law_114 rfl 0 rfl ?_
      refine j_get (v := .ref (a 4)) hE lg_Mo_21 0 rfl 0 (wg_Mo_0 g a (up2 (up2 mo_z 49 (Int32.toNatClampNeg 0) (mo_z 7 (Int32.toNatClampNeg ((10 * v11) + (v12 / 100))))) 49 (Int32.toNatClampNeg 1) (mo_z 7 (Int32.toNatClampNeg ((10 * v11) + ((v12 / 10) - (v12 / 10) / 10 * 10))))) mo_y) rfl dX12_law_115 ?_
      refine j_bipush (v := 10) hE dX12_law_118 (by decide) ?_
      refine j_iload hE dX12_law_120 7 rfl ?_
      refine j_imul hE dX12_law_122 ?_
      refine j_iload hE dX12_law_123 8 rfl ?_
      refine j_bipush (v := 10) hE dX12_law_125 (by decide) ?_
      refine j_irem_c hE (by decide) dX12_law_127 ?_
      refine j_iadd hE dX12_law_128 ?_
      refine j_iald hE hf 0 rfl 4 (wg_Mo_4 g a (up2 (up2 mo_z 49 (Int32.toNatClampNeg 0) (mo_z 7 (Int32.toNatClampNeg ((10 * v11) + (v12 / 100))))) 49 (Int32.toNatClampNeg 1) (mo_z 7 (Int32.toNatClampNeg ((10 * v11) + ((v12 / 10) - (v12 / 10) / 10 * 10))))) mo_y) dX12_law_129 (fun hf => ?_)
      refine j_st (st' := [.int (mo_z 7 (Int32.toNatClampNeg ((10 * v11) + (v12 - v12 / 10 * 10)))), .int 2, .ref (a 20)]) rfl ?_
      refine j_iast (ws' := ([n_Mo g a (up2 (up2 (up2 mo_z 49 (Int32.toNatClampNeg 0) (mo_z 7 (Int32.toNatClampNeg ((10 * v11) + (v12 / 100))))) 49 (Int32.toNatClampNeg 1) (mo_z 7 (Int32.toNatClampNeg ((10 * v11) + ((v12 / 10) - (v12 / 10) / 10 * 10))))) 49 (Int32.toNatClampNeg 2) (mo_z 7 (Int32.toNatClampNeg ((10 * v11) + (v12 - v12 / 10 * 10))))) mo_y] : List va_W)) hE hf 0 rfl 20 (wg_Mo_20 g a (up2 (up2 mo_z 49 (Int32.toNatClampNeg 0) (mo_z 7 (Int32.toNatClampNeg ((10 * v11) + (v12 / 100))))) 49 (Int32.toNatClampNeg 1) (mo_z 7 (Int32.toNatClampNeg ((10 * v11) + ((v12 / 10) - (v12 / 10) / 10 * 10))))) mo_y) (wa_Mo_20 g a (up2 (up2 mo_z 49 (Int32.toNatClampNeg 0) (mo_z 7 (Int32.toNatClampNeg ((10 * v11) + (v12 / 100))))) 49 (Int32.toNatClampNeg 1) (mo_z 7 (Int32.toNatClampNeg ((10 * v11) + ((v12 / 10) - (v12 / 10) / 10 * 10))))) mo_y (Int32.toNatClampNeg 2) (mo_z 7 (Int32.toNatClampNeg ((10 * v11) + (v12 - v12 / 10 * 10))))) rfl dX12_law_130 (fun hf => ?_)
      refine j_lload hE dX12_law_131 4 rfl ?_
      refine j_aload_n hE dX12_law_133 rfl 0 rfl ?_
      refine j_get (v := .ref (a 3)) hE lg_Mo_18 0 rfl 0 (wg_Mo_0 g a (up2 (up2 (up2 mo_z 49 (Int32.toNatClampNeg 0) (mo_z 7 (Int32.toNatClampNeg ((10 * v11) + (v12 / 100))))) 49 (Int32.toNatClampNeg 1) (mo_z 7 (Int32.toNatClampNeg ((10 * v11) + ((v12 / 10) - (v12 / 10) / 10 * 10))))) 49 (Int32.toNatClampNeg 2) (mo_z 7 (Int32.toNatClampNeg ((10 * v11) + (v12 - v12 / 10 * 10))))) mo_y) rfl dX12_law_134 ?_
      refine j_iload hE dX12_law_137 7 rfl ?_
      refine j_iald hE hf 0 rfl 3 (wg_Mo_3 g a (up2 (up2 (up2 mo_z 49 (Int32.toNatClampNeg 0) (mo_z 7 (Int32.toNatClampNeg ((10 * v11) + (v12 / 100))))) 49 (Int32.toNatClampNeg 1) (mo_z 7 (Int32.toNatClampNeg ((10 * v11) + ((v12 / 10) - (v12 / 10) / 10 * 10))))) 49 (Int32.toNatClampNeg 2) (mo_z 7 (Int32.toNatClampNeg ((10 * v11) + (v12 - v12 / 10 * 10))))) mo_y) dX12_law_139 (fun hf => ?_)
      refine j_st (st' := [.int (mo_z 6 (Int32.toNatClampNeg v11)), .long v5]) rfl ?_
      refine j_i2l hE dX12_law_140 ?_
      refine j_ladd hE dX12_law_141 ?_
      refine j_lstore (lv' := [(5, .long (v5 + (Int32.toInt64 (mo_z 6 (Int32.toNatClampNeg v11))))), (0, .ref (a 0)), (1, .int x1), (2, .int x2), (3, .long v3), (7, .long v7), (9, .long v9), (11, .int v11), (12, .int v12)]) hE dX12_law_142 (by decide) rfl ?_
      refine j_aload_n hE dX12_law_144 rfl 1 rfl ?_
      refine j_iload_n hE dX12_law_145 rfl 2 rfl ?_
      obtain ⟨q16, hc17, hf⟩ := bind_of hf
      refine j_callV (ws' := ([n_Mo g a q16.1 q16.2.1] : List va_W)) (As := [.int x1]) (rest := []) (st2 := [.int q16.2.2]) hE (fun l => c_Mo_takes l g a (up2 (up2 (up2 mo_z 49 (Int32.toNatClampNeg 0) (mo_z 7 (Int32.toNatClampNeg ((10 * v11) + (v12 / 100))))) 49 (Int32.toNatClampNeg 1) (mo_z 7 (Int32.toNatClampNeg ((10 * v11) + ((v12 / 10) - (v12 / 10) / 10 * 10))))) 49 (Int32.toNatClampNeg 2) (mo_z 7 (Int32.toNatClampNeg ((10 * v11) + (v12 - v12 / 10 * 10))))) mo_y x1 q16 hc17) cd_X12_takes cv_X12_takes ml_Mo_327 rfl rfl rfl (wg_Mo_0 _ _ _ _) ⟨⟨Nat.le_of_ble_eq_true rfl, Nat.le_of_ble_eq_true rfl⟩, ⟨Nat.zero_le _, Nat.zero_le _⟩, rfl, rfl⟩ [0] rfl rfl rfl (Nat.le_of_ble_eq_true rfl) rfl dX12_law_146 ?_
      refine j_if_ne (tgt := 155) hE hf dX12_law_149 (by decide) (fun c18 hf => ?_) (fun c18 hf => ?_)
      · refine j_lload_n hE dX12_law_155 rfl 4 rfl ?_
        refine j_aload_n hE dX12_law_156 rfl 1 rfl ?_
        refine j_get (v := .ref (a 3)) hE lg_Mo_18 0 rfl 0 (wg_Mo_0 g a q16.1 q16.2.1) rfl dX12_law_157 ?_
        refine j_iload hE dX12_law_160 7 rfl ?_
        refine j_iald hE hf 0 rfl 3 (wg_Mo_3 g a q16.1 q16.2.1) dX12_law_162 (fun hf => ?_)
        refine j_i2l hE dX12_law_163 ?_
        refine j_ladd hE dX12_law_164 ?_
        refine j_lstore_n (lv' := [(3, .long (v3 + (Int32.toInt64 (q16.1 6 (Int32.toNatClampNeg v11))))), (5, .long (v5 + (Int32.toInt64 (mo_z 6 (Int32.toNatClampNeg v11))))), (0, .ref (a 0)), (1, .int x1), (2, .int x2), (7, .long v7), (9, .long v9), (11, .int v11), (12, .int v12)]) hE dX12_law_165 rfl (by decide) rfl ?_
        refine j_lload hE dX12_law_166 5 rfl ?_
        refine j_aload_n hE dX12_law_168 rfl 2 rfl ?_
        refine j_get (v := .ref (a 3)) hE lg_Mo_18 0 rfl 0 (wg_Mo_0 g a q16.1 q16.2.1) rfl dX12_law_169 ?_
        refine j_iload hE dX12_law_172 7 rfl ?_
        refine j_iald hE hf 0 rfl 3 (wg_Mo_3 g a q16.1 q16.2.1) dX12_law_174 (fun hf => ?_)
        refine j_aload_n hE dX12_law_175 rfl 2 rfl ?_
        refine j_get (v := .ref (a 20)) hE lg_Mo_81 0 rfl 0 (wg_Mo_0 g a q16.1 q16.2.1) rfl dX12_law_176 ?_
        refine j_iconst (v := 0) hE dX12_law_179 (by decide) ?_
        refine j_iald hE hf 0 rfl 20 (wg_Mo_20 g a q16.1 q16.2.1) dX12_law_180 (fun hf => ?_)
        refine j_aload_n hE dX12_law_181 rfl 2 rfl ?_
        refine j_get (v := .ref (a 20)) hE lg_Mo_81 0 rfl 0 (wg_Mo_0 g a q16.1 q16.2.1) rfl dX12_law_182 ?_
        refine j_iconst (v := 1) hE dX12_law_185 (by decide) ?_
        refine j_iald hE hf 0 rfl 20 (wg_Mo_20 g a q16.1 q16.2.1) dX12_law_186 (fun hf => ?_)
        refine j_iadd hE dX12_law_187 ?_
        refine j_aload_n hE dX12_law_188 rfl 2 rfl ?_
        refine j_get (v := .ref (a 20)) hE lg_Mo_81 0 rfl 0 (wg_Mo_0 g a q16.1 q16.2.1) rfl dX12_law_189 ?_
        refine j_iconst (v := 2) hE dX12_law_192 (by decide) ?_
        refine j_iald hE hf 0 rfl 20 (wg_Mo_20 g a q16.1 q16.2.1) dX12_law_193 (fun hf => ?_)
        refine j_iadd hE dX12_law_194 ?_
        refine j_imul hE dX12_law_195 ?_
        refine j_i2l hE dX12_law_196 ?_
        refine j_ladd hE dX12_law_197 ?_
        refine j_lstore (lv' := [(7, .long (v7 + (Int32.toInt64 ((q16.1 6 (Int32.toNatClampNeg v11)) * (((q16.1 49 (Int32.toNatClampNeg 0)) + (q16.1 49 (Int32.toNatClampNeg 1))) + (q16.1 49 (Int32.toNatClampNeg 2))))))), (3, .long (v3 + (Int32.toInt64 (q16.1 6 (Int32.toNatClampNeg v11))))), (5, .long (v5 + (Int32.toInt64 (mo_z 6 (Int32.toNatClampNeg v11))))), (0, .ref (a 0)), (1, .int x1), (2, .int x2), (9, .long v9), (11, .int v11), (12, .int v12)]) hE dX12_law_198 (by decide) rfl ?_
        refine j_lload hE dX12_law_200 6 rfl ?_
        refine j_ldc2 hE co_Mo_333 dX12_law_202 ?_
        refine j_aload_n hE dX12_law_205 rfl 3 rfl ?_
        refine j_get (v := .ref (a 3)) hE lg_Mo_18 0 rfl 0 (wg_Mo_0 g a q16.1 q16.2.1) rfl dX12_law_206 ?_
        refine j_iload hE dX12_law_209 7 rfl ?_
        refine j_iald hE hf 0 rfl 3 (wg_Mo_3 g a q16.1 q16.2.1) dX12_law_211 (fun hf => ?_)
        refine j_i2l hE dX12_law_212 ?_
        refine j_lmul hE dX12_law_213 ?_
        refine j_aload_n hE dX12_law_214 rfl 3 rfl ?_
        refine j_iload hE dX12_law_215 7 rfl ?_
        obtain ⟨q25, hc26, hf⟩ := bind_of hf
        refine j_callV (ws' := ([n_Mo g a q16.1 q16.2.1] : List va_W)) (As := [.int v11]) (rest := [.long (3 * (Int32.toInt64 (q16.1 6 (Int32.toNatClampNeg v11)))), .long v9]) (st2 := [.int q25, .long (3 * (Int32.toInt64 (q16.1 6 (Int32.toNatClampNeg v11)))), .long v9]) hE (fun l => c_Mo_meanOf l g a q16.1 q16.2.1 v11 q25 hc26) cd_X12_meanOf cv_X12_meanOf ml_Mo_278 rfl rfl rfl (wg_Mo_0 _ _ _ _) ⟨⟨Nat.le_of_ble_eq_true rfl, Nat.le_of_ble_eq_true rfl⟩, ⟨Nat.zero_le _, Nat.zero_le _⟩, rfl, rfl⟩ [0] rfl rfl rfl (Nat.le_of_ble_eq_true rfl) rfl dX12_law_217 ?_
        refine j_i2l hE dX12_law_220 ?_
        refine j_lmul hE dX12_law_221 ?_
        refine j_ladd hE dX12_law_222 ?_
        refine j_lstore (lv' := [(9, .long (v9 + ((3 * (Int32.toInt64 (q16.1 6 (Int32.toNatClampNeg v11)))) * (Int32.toInt64 q25)))), (7, .long (v7 + (Int32.toInt64 ((q16.1 6 (Int32.toNatClampNeg v11)) * (((q16.1 49 (Int32.toNatClampNeg 0)) + (q16.1 49 (Int32.toNatClampNeg 1))) + (q16.1 49 (Int32.toNatClampNeg 2))))))), (3, .long (v3 + (Int32.toInt64 (q16.1 6 (Int32.toNatClampNeg v11))))), (5, .long (v5 + (Int32.toInt64 (mo_z 6 (Int32.toNatClampNeg v11))))), (0, .ref (a 0)), (1, .int x1), (2, .int x2), (11, .int v11), (12, .int v12)]) hE dX12_law_223 (by decide) rfl ?_
        refine j_iinc (v := (v12 + 1)) (lv' := [(12, .int (v12 + 1)), (9, .long (v9 + ((3 * (Int32.toInt64 (q16.1 6 (Int32.toNatClampNeg v11)))) * (Int32.toInt64 q25)))), (7, .long (v7 + (Int32.toInt64 ((q16.1 6 (Int32.toNatClampNeg v11)) * (((q16.1 49 (Int32.toNatClampNeg 0)) + (q16.1 49 (Int32.toNatClampNeg 1))) + (q16.1 49 (Int32.toNatClampNeg 2))))))), (3, .long (v3 + (Int32.toInt64 (q16.1 6 (Int32.toNatClampNeg v11))))), (5, .long (v5 + (Int32.toInt64 (mo_z 6 (Int32.toNatClampNeg v11))))), (0, .ref (a 0)), (1, .int x1), (2, .int x2), (11, .int v11)]) hE dX12_law_225 8 rfl rfl (by decide) rfl ?_
        refine j_goto (tgt := 54) hE dX12_law_228 (by decide) ?_
        exact j_sub [5, 6, 7, 3, 4, 2, 1, 8, 0] rfl (ih q16.1 q16.2.1 (v3 + (Int32.toInt64 (q16.1 6 (Int32.toNatClampNeg v11)))) (v5 + (Int32.toInt64 (mo_z 6 (Int32.toNatClampNeg v11)))) (v7 + (Int32.toInt64 ((q16.1 6 (Int32.toNatClampNeg v11)) * (((q16.1 49 (Int32.toNatClampNeg 0)) + (q16.1 49 (Int32.toNatClampNeg 1))) + (q16.1 49 (Int32.toNatClampNeg 2)))))) (v9 + ((3 * (Int32.toInt64 (q16.1 6 (Int32.toNatClampNeg v11)))) * (Int32.toInt64 q25))) v11 (v12 + 1) hf)
      · refine j_goto (tgt := 225) hE dX12_law_152 (by decide) ?_
        refine j_iinc (v := (v12 + 1)) (lv' := [(12, .int (v12 + 1)), (5, .long (v5 + (Int32.toInt64 (mo_z 6 (Int32.toNatClampNeg v11))))), (0, .ref (a 0)), (1, .int x1), (2, .int x2), (3, .long v3), (7, .long v7), (9, .long v9), (11, .int v11)]) hE dX12_law_225 8 rfl rfl (by decide) rfl ?_
        refine j_goto (tgt := 54) hE dX12_law_228 (by decide) ?_
        exact j_sub [2, 3, 4, 5, 1, 6, 7, 8, 0] rfl (ih q16.1 q16.2.1 v3 (v5 + (Int32.toInt64 (mo_z 6 (Int32.toNatClampNeg v11)))) v7 v9 v11 (v12 + 1) hf)
set_option maxRecDepth 100000 in
theorem j_Mo_law_42 (E : jT) (g : jG) (a : Nat → Nat)  (x1 : Int32) (x2 : Int32) (res : jZ × jY × Int64) (hE : jOk E g RX12 cX12_law 13 (some .long) rm_Mo_law) (hq : jEnd E g (some (.long res.2.2)) (([n_Mo g a res.1 res.2.1] : List va_W)) 0 0)  : ∀ (n : Nat) (mo_z : jZ) (mo_y : jY) (v3 : Int64) (v5 : Int64) (v7 : Int64) (v9 : Int64) (v11 : Int32), f_Mo_law_42 x1 x2 n mo_z mo_y v3 v5 v7 v9 v11 = some res → J E g 0 0 (([n_Mo g a mo_z mo_y] : List va_W)) [(0, .ref (a 0)), (1, .int x1), (2, .int x2), (3, .long v3), (5, .long v5), (7, .long v7), (9, .long v9), (11, .int v11)] 42 [] := by
  intro n
  induction n with
  | zero =>
    intro mo_z mo_y v3 v5 v7 v9 v11 hf
    rw [f_Mo_law_42] at hf
    cases hf
  | succ n ih =>
    intro mo_z mo_y v3 v5 v7 v9 v11 hf
    rw [f_Mo_law_42] at hf
    refine j_iload hE dX12_law_42 7 rfl ?_
    refine j_aload_n hE dX12_law_44 rfl 0 rfl ?_
    refine j_get (v := .int (mo_z 3 0)) hE lg_Mo_237 0 rfl 0 (wg_Mo_0 g a mo_z mo_y) rfl dX12_law_45 ?_
    refine j_icmp_ge (tgt := 237) hE hf dX12_law_48 (by decide) (fun c5 hf => ?_) (fun c5 hf => ?_)
    · refine j_iload_n hE dX12_law_237 rfl 2 rfl ?_
      refine j_case hf (fun c6 hf => ?_) (fun c6 hf => ?_)
      · refine j_tableIn (tgt := 268) hE dX12_law_238 (by rw [c6]; decide) (by rw [c6]; decide) (by rw [c6]; try rfl) (by decide) ?_
        refine j_lload_n hE dX12_law_268 rfl 3 rfl ?_
        obtain rfl := Option.some.inj hf
        exact j_lret hE hq rfl rfl dX12_law_269
      refine j_case hf (fun c7 hf => ?_) (fun c7 hf => ?_)
      · refine j_tableIn (tgt := 270) hE dX12_law_238 (by rw [c7]; decide) (by rw [c7]; decide) (by rw [c7]; try rfl) (by decide) ?_
        refine j_lload hE dX12_law_270 4 rfl ?_
        obtain rfl := Option.some.inj hf
        exact j_lret hE hq rfl rfl dX12_law_272
      refine j_case hf (fun c8 hf => ?_) (fun c8 hf => ?_)
      · refine j_tableIn (tgt := 273) hE dX12_law_238 (by rw [c8]; decide) (by rw [c8]; decide) (by rw [c8]; try rfl) (by decide) ?_
        refine j_lload hE dX12_law_273 5 rfl ?_
        obtain rfl := Option.some.inj hf
        exact j_lret hE hq rfl rfl dX12_law_275
      refine j_case hf (fun c9 hf => ?_) (fun c9 hf => ?_)
      · refine j_tableIn (tgt := 276) hE dX12_law_238 (by rw [c9]; decide) (by rw [c9]; decide) (by rw [c9]; try rfl) (by decide) ?_
        refine j_lload hE dX12_law_276 6 rfl ?_
        obtain rfl := Option.some.inj hf
        exact j_lret hE hq rfl rfl dX12_law_278
      have t_c6 : 0 ≠ Int32.toInt x2 := fun h => c6 (Int32.toInt_inj.mp (h.symm.trans (by decide)))
      have t_c7 : 1 ≠ Int32.toInt x2 := fun h => c7 (Int32.toInt_inj.mp (h.symm.trans (by decide)))
      have t_c8 : 2 ≠ Int32.toInt x2 := fun h => c8 (Int32.toInt_inj.mp (h.symm.trans (by decide)))
      have t_c9 : 3 ≠ Int32.toInt x2 := fun h => c9 (Int32.toInt_inj.mp (h.symm.trans (by decide)))
      refine j_tableOut (tgt := 279) hE dX12_law_238 (by omega) (by decide) ?_
      refine j_lload hE dX12_law_279 5 rfl ?_
      refine j_lconst (v := 0) hE dX12_law_281 (by decide) ?_
      refine j_lcmp hE dX12_law_282 ?_
      refine j_if_ne (tgt := 290) hE hf dX12_law_283 (by decide) (fun c10 hf => ?_) (fun c10 hf => ?_)
      · refine j_ldc2 hE co_Mo_335 dX12_law_290 ?_
        refine j_ldc2 hE co_Mo_282 dX12_law_293 ?_
        refine j_lload hE dX12_law_296 5 rfl ?_
        refine j_lmul hE dX12_law_298 ?_
        refine j_lload hE dX12_law_299 6 rfl ?_
        refine j_lsub hE dX12_law_301 ?_
        refine j_lmul hE dX12_law_302 ?_
        refine j_ldc2 hE co_Mo_282 dX12_law_303 ?_
        refine j_lload hE dX12_law_306 5 rfl ?_
        refine j_lmul hE dX12_law_308 ?_
        refine j_ldiv hE hf dX12_law_309 (fun hf => ?_)
        obtain rfl := Option.some.inj hf
        exact j_lret hE hq rfl rfl dX12_law_310
      · refine j_lconst (v := 0) hE dX12_law_286 (by decide) ?_
        refine j_goto (tgt := 310) hE dX12_law_287 (by decide) ?_
        obtain rfl := Option.some.inj hf
        exact j_lret hE hq rfl rfl dX12_law_310
    · refine j_iconst (v := 0) hE dX12_law_51 (by decide) ?_
      refine j_istore (lv' := [(12, .int 0), (0, .ref (a 0)), (1, .int x1), (2, .int x2), (3, .long v3), (5, .long v5), (7, .long v7), (9, .long v9), (11, .int v11)]) hE dX12_law_52 (by decide) rfl ?_
      exact j_sub [1, 2, 3, 4, 5, 6, 7, 8, 0] rfl (j_Mo_law_54 E g a x1 x2 res hE hq (fun mo_z mo_y v3 v5 v7 v9 v11 => f_Mo_law_42 x1 x2 n mo_z mo_y v3 v5 v7 v9 v11) (fun mo_z mo_y v3 v5 v7 v9 v11 hf => ih mo_z mo_y v3 v5 v7 v9 v11 hf) FU mo_z mo_y v3 v5 v7 v9 v11 0 hf)
set_option maxRecDepth 100000 in
theorem c_Mo_law (l : Launch) (g : jG) (a : Nat → Nat) (mo_z : jZ) (mo_y : jY) (x1 : Int32) (x2 : Int32) (res : jZ × jY × Int64) (hf : f_Mo_law mo_z mo_y x1 x2 = some res) : MC l g yX12_law cX12_law 13 (some .long) rm_Mo_law [.ref (a 0), .int x1, .int x2] (([n_Mo g a mo_z mo_y] : List va_W)) (some (.long res.2.2)) (([n_Mo g a res.1 res.2.1] : List va_W)) 0 0 := by
  refine MC_of (own := RX12) (lv := [(0, .ref (a 0)), (1, .int x1), (2, .int x2)]) (by decide) rfl (Nat.le_of_ble_eq_true rfl) rfl rfl (fun E hE hq => ?_)
  unfold f_Mo_law at hf
  refine j_aload_n hE dX12_law_0 rfl 0 rfl ?_
  refine j_iconst (v := 0) hE dX12_law_1 (by decide) ?_
  refine j_put (v := .int 0) (ws' := ([n_Mo g a (up2 mo_z 0 0 0) mo_y] : List va_W)) hE lp_Mo_87 0 rfl 0 (wg_Mo_0 g a mo_z mo_y) rfl rfl (Nat.le_of_ble_eq_true rfl) (wp_Mo_0 g a mo_z mo_y 0) rfl dX12_law_2 ?_
  refine j_iload_n hE dX12_law_5 rfl 1 rfl ?_
  refine j_if_lt (tgt := 24) hE hf dX12_law_6 (by decide) (fun c1 hf => ?_) (fun c1 hf => ?_)
  · refine j_ldc2 hE co_Mo_292 dX12_law_24 ?_
    obtain rfl := Option.some.inj hf
    exact j_lret hE hq rfl rfl dX12_law_27
  · refine j_iload_n hE dX12_law_9 rfl 1 rfl ?_
    refine j_bipush (v := 9) hE dX12_law_10 (by decide) ?_
    refine j_icmp_gt (tgt := 24) hE hf dX12_law_12 (by decide) (fun c2 hf => ?_) (fun c2 hf => ?_)
    · refine j_ldc2 hE co_Mo_292 dX12_law_24 ?_
      obtain rfl := Option.some.inj hf
      exact j_lret hE hq rfl rfl dX12_law_27
    · refine j_iload_n hE dX12_law_15 rfl 2 rfl ?_
      refine j_if_lt (tgt := 24) hE hf dX12_law_16 (by decide) (fun c3 hf => ?_) (fun c3 hf => ?_)
      · refine j_ldc2 hE co_Mo_292 dX12_law_24 ?_
        obtain rfl := Option.some.inj hf
        exact j_lret hE hq rfl rfl dX12_law_27
      · refine j_iload_n hE dX12_law_19 rfl 2 rfl ?_
        refine j_iconst (v := 4) hE dX12_law_20 (by decide) ?_
        refine j_icmp_le (tgt := 28) hE hf dX12_law_21 (by decide) (fun c4 hf => ?_) (fun c4 hf => ?_)
        · refine j_lconst (v := 0) hE dX12_law_28 (by decide) ?_
          refine j_lstore_n (lv' := [(3, .long 0), (0, .ref (a 0)), (1, .int x1), (2, .int x2)]) hE dX12_law_29 rfl (by decide) rfl ?_
          refine j_lconst (v := 0) hE dX12_law_30 (by decide) ?_
          refine j_lstore (lv' := [(5, .long 0), (3, .long 0), (0, .ref (a 0)), (1, .int x1), (2, .int x2)]) hE dX12_law_31 (by decide) rfl ?_
          refine j_lconst (v := 0) hE dX12_law_33 (by decide) ?_
          refine j_lstore (lv' := [(7, .long 0), (5, .long 0), (3, .long 0), (0, .ref (a 0)), (1, .int x1), (2, .int x2)]) hE dX12_law_34 (by decide) rfl ?_
          refine j_lconst (v := 0) hE dX12_law_36 (by decide) ?_
          refine j_lstore (lv' := [(9, .long 0), (7, .long 0), (5, .long 0), (3, .long 0), (0, .ref (a 0)), (1, .int x1), (2, .int x2)]) hE dX12_law_37 (by decide) rfl ?_
          refine j_iconst (v := 0) hE dX12_law_39 (by decide) ?_
          refine j_istore (lv' := [(11, .int 0), (9, .long 0), (7, .long 0), (5, .long 0), (3, .long 0), (0, .ref (a 0)), (1, .int x1), (2, .int x2)]) hE dX12_law_40 (by decide) rfl ?_
          exact j_sub [5, 6, 7, 4, 3, 2, 1, 0] rfl (j_Mo_law_42 E g a x1 x2 res hE hq FU (up2 mo_z 0 0 0) mo_y 0 0 0 0 0 hf)
        · refine j_ldc2 hE co_Mo_292 dX12_law_24 ?_
          obtain rfl := Option.some.inj hf
          exact j_lret hE hq rfl rfl dX12_law_27
def rm_Mo_sumOf : Room := { frames := 1, cells := 0, slots := 0, locals := 22 }
def f_Mo_sumOf_5 (mo_z : jZ) (x1 : Int32) (x2 : Int32)  : Nat → Int32 → Int32 → Option (Int32)
  | 0, _, _ => none
  | n + 1, v3, v4 => (if 3 ≤ v4 then some v3
    else (f_Mo_countOf mo_z x1 (x2 + v4)).bind fun q2 => (if q2 = (-1) then some (-1)
    else f_Mo_sumOf_5 mo_z x1 x2 n (v3 + q2) (v4 + 1)))
def f_Mo_sumOf (mo_z : jZ) (x1 : Int32) (x2 : Int32) : Option (Int32) := f_Mo_sumOf_5 mo_z x1 x2 FU 0 0
set_option maxRecDepth 100000 in
theorem j_Mo_sumOf_5 (E : jT) (g : jG) (a : Nat → Nat) (mo_z : jZ) (mo_y : jY) (x1 : Int32) (x2 : Int32) (res : Int32) (hE : jOk E g RX12 cX12_sumOf 6 (some .int) rm_Mo_sumOf) (hq : jEnd E g (some (.int res)) (([n_Mo g a mo_z mo_y] : List va_W)) 0 0)  : ∀ (n : Nat) (v3 : Int32) (v4 : Int32), f_Mo_sumOf_5 mo_z x1 x2 n v3 v4 = some res → J E g 0 0 (([n_Mo g a mo_z mo_y] : List va_W)) [(0, .ref (a 0)), (1, .int x1), (2, .int x2), (3, .int v3), (4, .int v4)] 5 [] := by
  intro n
  induction n with
  | zero =>
    intro v3 v4 hf
    rw [f_Mo_sumOf_5] at hf
    cases hf
  | succ n ih =>
    intro v3 v4 hf
    rw [f_Mo_sumOf_5] at hf
    refine j_iload hE dX12_sumOf_5 4 rfl ?_
    refine j_iconst (v := 3) hE dX12_sumOf_7 (by decide) ?_
    refine j_icmp_ge (tgt := 41) hE hf dX12_sumOf_8 (by decide) (fun c1 hf => ?_) (fun c1 hf => ?_)
    · refine j_iload_n hE dX12_sumOf_41 rfl 3 rfl ?_
      obtain rfl := Option.some.inj hf
      exact j_iret hE hq rfl rfl dX12_sumOf_42
    · refine j_aload_n hE dX12_sumOf_11 rfl 0 rfl ?_
      refine j_iload_n hE dX12_sumOf_12 rfl 1 rfl ?_
      refine j_iload_n hE dX12_sumOf_13 rfl 2 rfl ?_
      refine j_iload hE dX12_sumOf_14 4 rfl ?_
      refine j_iadd hE dX12_sumOf_16 ?_
      obtain ⟨q2, hc3, hf⟩ := bind_of hf
      refine j_callV (ws' := ([n_Mo g a mo_z mo_y] : List va_W)) (As := [.int x1, .int (x2 + v4)]) (rest := []) (st2 := [.int q2]) hE (fun l => c_Mo_countOf l g a mo_z mo_y x1 (x2 + v4) q2 hc3) cd_X12_countOf cv_X12_countOf ml_Mo_258 rfl rfl rfl (wg_Mo_0 _ _ _ _) ⟨⟨Nat.le_of_ble_eq_true rfl, Nat.le_of_ble_eq_true rfl⟩, ⟨Nat.zero_le _, Nat.zero_le _⟩, rfl, rfl⟩ [0] rfl rfl rfl (Nat.le_of_ble_eq_true rfl) rfl dX12_sumOf_17 ?_
      refine j_istore (lv' := [(5, .int q2), (0, .ref (a 0)), (1, .int x1), (2, .int x2), (3, .int v3), (4, .int v4)]) hE dX12_sumOf_20 (by decide) rfl ?_
      refine j_iload hE dX12_sumOf_22 0 rfl ?_
      refine j_iconst (v := (-1)) hE dX12_sumOf_24 (by decide) ?_
      refine j_icmp_ne (tgt := 30) hE hf dX12_sumOf_25 (by decide) (fun c4 hf => ?_) (fun c4 hf => ?_)
      · refine j_iload_n hE dX12_sumOf_30 rfl 4 rfl ?_
        refine j_iload hE dX12_sumOf_31 0 rfl ?_
        refine j_iadd hE dX12_sumOf_33 ?_
        refine j_istore_n (lv' := [(3, .int (v3 + q2)), (5, .int q2), (0, .ref (a 0)), (1, .int x1), (2, .int x2), (4, .int v4)]) hE dX12_sumOf_34 rfl (by decide) rfl ?_
        refine j_iinc (v := (v4 + 1)) (lv' := [(4, .int (v4 + 1)), (3, .int (v3 + q2)), (5, .int q2), (0, .ref (a 0)), (1, .int x1), (2, .int x2)]) hE dX12_sumOf_35 5 rfl rfl (by decide) rfl ?_
        refine j_goto (tgt := 5) hE dX12_sumOf_38 (by decide) ?_
        exact j_sub [3, 4, 5, 1, 0] rfl (ih (v3 + q2) (v4 + 1) hf)
      · refine j_iconst (v := (-1)) hE dX12_sumOf_28 (by decide) ?_
        obtain rfl := Option.some.inj hf
        exact j_iret hE hq rfl rfl dX12_sumOf_29
set_option maxRecDepth 100000 in
theorem c_Mo_sumOf (l : Launch) (g : jG) (a : Nat → Nat) (mo_z : jZ) (mo_y : jY) (x1 : Int32) (x2 : Int32) (res : Int32) (hf : f_Mo_sumOf mo_z x1 x2 = some res) : MC l g yX12_sumOf cX12_sumOf 6 (some .int) rm_Mo_sumOf [.ref (a 0), .int x1, .int x2] (([n_Mo g a mo_z mo_y] : List va_W)) (some (.int res)) (([n_Mo g a mo_z mo_y] : List va_W)) 0 0 := by
  refine MC_of (own := RX12) (lv := [(0, .ref (a 0)), (1, .int x1), (2, .int x2)]) (by decide) rfl (Nat.le_of_ble_eq_true rfl) rfl rfl (fun E hE hq => ?_)
  unfold f_Mo_sumOf at hf
  refine j_iconst (v := 0) hE dX12_sumOf_0 (by decide) ?_
  refine j_istore_n (lv' := [(3, .int 0), (0, .ref (a 0)), (1, .int x1), (2, .int x2)]) hE dX12_sumOf_1 rfl (by decide) rfl ?_
  refine j_iconst (v := 0) hE dX12_sumOf_2 (by decide) ?_
  refine j_istore (lv' := [(4, .int 0), (3, .int 0), (0, .ref (a 0)), (1, .int x1), (2, .int x2)]) hE dX12_sumOf_3 (by decide) rfl ?_
  exact j_sub [2, 3, 4, 1, 0] rfl (j_Mo_sumOf_5 E g a mo_z mo_y x1 x2 res hE hq FU 0 0 hf)
def rm_Mo_isSix : Room := { frames := 2, cells := 0, slots := 0, locals := 47 }
def f_Mo_isSix (mo_z : jZ) (x1 : Int32) (x2 : Int32) : Option (Int32) := (f_Mo_sumOf mo_z x1 (x2 - 3)).bind fun q1 => (if q1 = (-1) then some 0
    else (f_Mo_sumOf mo_z x1 x2).bind fun q4 => (if q4 = (-1) then some 0
    else some 1))
set_option maxRecDepth 100000 in
theorem c_Mo_isSix (l : Launch) (g : jG) (a : Nat → Nat) (mo_z : jZ) (mo_y : jY) (x1 : Int32) (x2 : Int32) (res : Int32) (hf : f_Mo_isSix mo_z x1 x2 = some res) : MC l g yX12_isSix cX12_isSix 3 (some .boolean) rm_Mo_isSix [.ref (a 0), .int x1, .int x2] (([n_Mo g a mo_z mo_y] : List va_W)) (some (.int res)) (([n_Mo g a mo_z mo_y] : List va_W)) 0 0 := by
  refine MC_of (own := RX12) (lv := [(0, .ref (a 0)), (1, .int x1), (2, .int x2)]) (by decide) rfl (Nat.le_of_ble_eq_true rfl) rfl rfl (fun E hE hq => ?_)
  unfold f_Mo_isSix at hf
  refine j_aload_n hE dX12_isSix_0 rfl 0 rfl ?_
  refine j_iload_n hE dX12_isSix_1 rfl 1 rfl ?_
  refine j_iload_n hE dX12_isSix_2 rfl 2 rfl ?_
  refine j_iconst (v := 3) hE dX12_isSix_3 (by decide) ?_
  refine j_isub hE dX12_isSix_4 ?_
  obtain ⟨q1, hc2, hf⟩ := bind_of hf
  refine j_callV (ws' := ([n_Mo g a mo_z mo_y] : List va_W)) (As := [.int x1, .int (x2 - 3)]) (rest := []) (st2 := [.int q1]) hE (fun l => c_Mo_sumOf l g a mo_z mo_y x1 (x2 - 3) q1 hc2) cd_X12_sumOf cv_X12_sumOf ml_Mo_337 rfl rfl rfl (wg_Mo_0 _ _ _ _) ⟨⟨Nat.le_of_ble_eq_true rfl, Nat.le_of_ble_eq_true rfl⟩, ⟨Nat.zero_le _, Nat.zero_le _⟩, rfl, rfl⟩ [0] rfl rfl rfl (Nat.le_of_ble_eq_true rfl) rfl dX12_isSix_5 ?_
  refine j_iconst (v := (-1)) hE dX12_isSix_8 (by decide) ?_
  refine j_icmp_eq (tgt := 26) hE hf dX12_isSix_9 (by decide) (fun c3 hf => ?_) (fun c3 hf => ?_)
  · refine j_iconst (v := 0) hE dX12_isSix_26 (by decide) ?_
    obtain rfl := Option.some.inj hf
    exact j_zret_c hE (Or.inl rfl) hq rfl rfl dX12_isSix_27
  · refine j_aload_n hE dX12_isSix_12 rfl 0 rfl ?_
    refine j_iload_n hE dX12_isSix_13 rfl 1 rfl ?_
    refine j_iload_n hE dX12_isSix_14 rfl 2 rfl ?_
    obtain ⟨q4, hc5, hf⟩ := bind_of hf
    refine j_callV (ws' := ([n_Mo g a mo_z mo_y] : List va_W)) (As := [.int x1, .int x2]) (rest := []) (st2 := [.int q4]) hE (fun l => c_Mo_sumOf l g a mo_z mo_y x1 x2 q4 hc5) cd_X12_sumOf cv_X12_sumOf ml_Mo_337 rfl rfl rfl (wg_Mo_0 _ _ _ _) ⟨⟨Nat.le_of_ble_eq_true rfl, Nat.le_of_ble_eq_true rfl⟩, ⟨Nat.zero_le _, Nat.zero_le _⟩, rfl, rfl⟩ [0] rfl rfl rfl (Nat.le_of_ble_eq_true rfl) rfl dX12_isSix_15 ?_
    refine j_iconst (v := (-1)) hE dX12_isSix_18 (by decide) ?_
    refine j_icmp_eq (tgt := 26) hE hf dX12_isSix_19 (by decide) (fun c6 hf => ?_) (fun c6 hf => ?_)
    · refine j_iconst (v := 0) hE dX12_isSix_26 (by decide) ?_
      obtain rfl := Option.some.inj hf
      exact j_zret_c hE (Or.inl rfl) hq rfl rfl dX12_isSix_27
    · refine j_iconst (v := 1) hE dX12_isSix_22 (by decide) ?_
      refine j_goto (tgt := 27) hE dX12_isSix_23 (by decide) ?_
      obtain rfl := Option.some.inj hf
      exact j_zret_c hE (Or.inr rfl) hq rfl rfl dX12_isSix_27
def rm_Mo_lands : Room := { frames := 3, cells := 0, slots := 0, locals := 69 }
def f_Mo_lands_12  (x1 : Int32)  : Nat → jZ → Int32 → Option (jZ)
  | 0, _, _ => none
  | n + 1, mo_z, v2 => (if (mo_z 4 0) ≤ v2 then some mo_z
    else (ix v2 24).bind fun _ => (if (mo_z 11 (Int32.toNatClampNeg v2)) = 0 then (f_Mo_isSix mo_z v2 x1).bind fun q4 => (if q4 = 0 then f_Mo_lands_12 x1 n mo_z (v2 + 1)
    else (f_Mo_sumOf mo_z v2 (x1 - 3)).bind fun q7 => (f_Mo_sumOf (up2 mo_z 50 0 ((mo_z 50 0) + q7)) v2 x1).bind fun q9 => f_Mo_lands_12 x1 n (up2 (up2 mo_z 50 0 ((mo_z 50 0) + q7)) 51 0 ((mo_z 51 0) + q9)) (v2 + 1))
    else f_Mo_lands_12 x1 n mo_z (v2 + 1)))
def f_Mo_lands (mo_z : jZ) (x1 : Int32) : Option (jZ) := f_Mo_lands_12 x1 FU (up2 (up2 mo_z 50 0 0) 51 0 0) 0
set_option maxRecDepth 100000 in
theorem j_Mo_lands_12 (E : jT) (g : jG) (a : Nat → Nat) (mo_y : jY) (x1 : Int32) (res : jZ) (hE : jOk E g RX12 cX12_lands 3 (none : Option Jvm.ClassFile.FieldType) rm_Mo_lands) (hq : jEnd E g none (([n_Mo g a res mo_y] : List va_W)) 0 0)  : ∀ (n : Nat) (mo_z : jZ) (v2 : Int32), f_Mo_lands_12 x1 n mo_z v2 = some res → J E g 0 0 (([n_Mo g a mo_z mo_y] : List va_W)) [(0, .ref (a 0)), (1, .int x1), (2, .int v2)] 12 [] := by
  intro n
  induction n with
  | zero =>
    intro mo_z v2 hf
    rw [f_Mo_lands_12] at hf
    cases hf
  | succ n ih =>
    intro mo_z v2 hf
    rw [f_Mo_lands_12] at hf
    refine j_iload_n hE dX12_lands_12 rfl 2 rfl ?_
    refine j_aload_n hE dX12_lands_13 rfl 0 rfl ?_
    refine j_get (v := .int (mo_z 4 0)) hE lg_Mo_240 0 rfl 0 (wg_Mo_0 g a mo_z mo_y) rfl dX12_lands_14 ?_
    refine j_icmp_ge (tgt := 79) hE hf dX12_lands_17 (by decide) (fun c1 hf => ?_) (fun c1 hf => ?_)
    · obtain rfl := Option.some.inj hf
      exact j_vret hE hq rfl rfl dX12_lands_79
    · refine j_aload_n hE dX12_lands_20 rfl 0 rfl ?_
      refine j_get (v := .ref (a 8)) hE lg_Mo_34 0 rfl 0 (wg_Mo_0 g a mo_z mo_y) rfl dX12_lands_21 ?_
      refine j_iload_n hE dX12_lands_24 rfl 2 rfl ?_
      refine j_iald hE hf 0 rfl 8 (wg_Mo_8 g a mo_z mo_y) dX12_lands_25 (fun hf => ?_)
      refine j_if_ne (tgt := 73) hE hf dX12_lands_26 (by decide) (fun c3 hf => ?_) (fun c3 hf => ?_)
      · refine j_iinc (v := (v2 + 1)) (lv' := [(2, .int (v2 + 1)), (0, .ref (a 0)), (1, .int x1)]) hE dX12_lands_73 2 rfl rfl (by decide) rfl ?_
        refine j_goto (tgt := 12) hE dX12_lands_76 (by decide) ?_
        exact j_sub [1, 2, 0] rfl (ih mo_z (v2 + 1) hf)
      · refine j_aload_n hE dX12_lands_29 rfl 0 rfl ?_
        refine j_iload_n hE dX12_lands_30 rfl 2 rfl ?_
        refine j_iload_n hE dX12_lands_31 rfl 1 rfl ?_
        obtain ⟨q4, hc5, hf⟩ := bind_of hf
        refine j_callV (ws' := ([n_Mo g a mo_z mo_y] : List va_W)) (As := [.int v2, .int x1]) (rest := []) (st2 := [.int q4]) hE (fun l => c_Mo_isSix l g a mo_z mo_y v2 x1 q4 hc5) cd_X12_isSix cv_X12_isSix ml_Mo_346 rfl rfl rfl (wg_Mo_0 _ _ _ _) ⟨⟨Nat.le_of_ble_eq_true rfl, Nat.le_of_ble_eq_true rfl⟩, ⟨Nat.zero_le _, Nat.zero_le _⟩, rfl, rfl⟩ [0] rfl rfl rfl (Nat.le_of_ble_eq_true rfl) rfl dX12_lands_32 ?_
        refine j_if_ne (tgt := 41) hE hf dX12_lands_35 (by decide) (fun c6 hf => ?_) (fun c6 hf => ?_)
        · refine j_aload_n hE dX12_lands_41 rfl 0 rfl ?_
          refine j_dup hE dX12_lands_42 rfl ?_
          refine j_get (v := .int (mo_z 50 0)) hE lg_Mo_340 0 rfl 0 (wg_Mo_0 g a mo_z mo_y) rfl dX12_lands_43 ?_
          refine j_aload_n hE dX12_lands_46 rfl 0 rfl ?_
          refine j_iload_n hE dX12_lands_47 rfl 2 rfl ?_
          refine j_iload_n hE dX12_lands_48 rfl 1 rfl ?_
          refine j_iconst (v := 3) hE dX12_lands_49 (by decide) ?_
          refine j_isub hE dX12_lands_50 ?_
          obtain ⟨q7, hc8, hf⟩ := bind_of hf
          refine j_callV (ws' := ([n_Mo g a mo_z mo_y] : List va_W)) (As := [.int v2, .int (x1 - 3)]) (rest := [.int (mo_z 50 0), .ref (a 0)]) (st2 := [.int q7, .int (mo_z 50 0), .ref (a 0)]) hE (fun l => c_Mo_sumOf l g a mo_z mo_y v2 (x1 - 3) q7 hc8) cd_X12_sumOf cv_X12_sumOf ml_Mo_337 rfl rfl rfl (wg_Mo_0 _ _ _ _) ⟨⟨Nat.le_of_ble_eq_true rfl, Nat.le_of_ble_eq_true rfl⟩, ⟨Nat.zero_le _, Nat.zero_le _⟩, rfl, rfl⟩ [0] rfl rfl rfl (Nat.le_of_ble_eq_true rfl) rfl dX12_lands_51 ?_
          refine j_iadd hE dX12_lands_54 ?_
          refine j_put (v := .int ((mo_z 50 0) + q7)) (ws' := ([n_Mo g a (up2 mo_z 50 0 ((mo_z 50 0) + q7)) mo_y] : List va_W)) hE lp_Mo_340 0 rfl 0 (wg_Mo_0 g a mo_z mo_y) rfl rfl (Nat.le_of_ble_eq_true rfl) (wp_Mo_50 g a mo_z mo_y ((mo_z 50 0) + q7)) rfl dX12_lands_55 ?_
          refine j_aload_n hE dX12_lands_58 rfl 0 rfl ?_
          refine j_dup hE dX12_lands_59 rfl ?_
          refine j_get (v := .int (mo_z 51 0)) hE lg_Mo_343 0 rfl 0 (wg_Mo_0 g a (up2 mo_z 50 0 ((mo_z 50 0) + q7)) mo_y) rfl dX12_lands_60 ?_
          refine j_aload_n hE dX12_lands_63 rfl 0 rfl ?_
          refine j_iload_n hE dX12_lands_64 rfl 2 rfl ?_
          refine j_iload_n hE dX12_lands_65 rfl 1 rfl ?_
          obtain ⟨q9, hc10, hf⟩ := bind_of hf
          refine j_callV (ws' := ([n_Mo g a (up2 mo_z 50 0 ((mo_z 50 0) + q7)) mo_y] : List va_W)) (As := [.int v2, .int x1]) (rest := [.int (mo_z 51 0), .ref (a 0)]) (st2 := [.int q9, .int (mo_z 51 0), .ref (a 0)]) hE (fun l => c_Mo_sumOf l g a (up2 mo_z 50 0 ((mo_z 50 0) + q7)) mo_y v2 x1 q9 hc10) cd_X12_sumOf cv_X12_sumOf ml_Mo_337 rfl rfl rfl (wg_Mo_0 _ _ _ _) ⟨⟨Nat.le_of_ble_eq_true rfl, Nat.le_of_ble_eq_true rfl⟩, ⟨Nat.zero_le _, Nat.zero_le _⟩, rfl, rfl⟩ [0] rfl rfl rfl (Nat.le_of_ble_eq_true rfl) rfl dX12_lands_66 ?_
          refine j_iadd hE dX12_lands_69 ?_
          refine j_put (v := .int ((mo_z 51 0) + q9)) (ws' := ([n_Mo g a (up2 (up2 mo_z 50 0 ((mo_z 50 0) + q7)) 51 0 ((mo_z 51 0) + q9)) mo_y] : List va_W)) hE lp_Mo_343 0 rfl 0 (wg_Mo_0 g a (up2 mo_z 50 0 ((mo_z 50 0) + q7)) mo_y) rfl rfl (Nat.le_of_ble_eq_true rfl) (wp_Mo_51 g a (up2 mo_z 50 0 ((mo_z 50 0) + q7)) mo_y ((mo_z 51 0) + q9)) rfl dX12_lands_70 ?_
          refine j_iinc (v := (v2 + 1)) (lv' := [(2, .int (v2 + 1)), (0, .ref (a 0)), (1, .int x1)]) hE dX12_lands_73 2 rfl rfl (by decide) rfl ?_
          refine j_goto (tgt := 12) hE dX12_lands_76 (by decide) ?_
          exact j_sub [1, 2, 0] rfl (ih (up2 (up2 mo_z 50 0 ((mo_z 50 0) + q7)) 51 0 ((mo_z 51 0) + q9)) (v2 + 1) hf)
        · refine j_goto (tgt := 73) hE dX12_lands_38 (by decide) ?_
          refine j_iinc (v := (v2 + 1)) (lv' := [(2, .int (v2 + 1)), (0, .ref (a 0)), (1, .int x1)]) hE dX12_lands_73 2 rfl rfl (by decide) rfl ?_
          refine j_goto (tgt := 12) hE dX12_lands_76 (by decide) ?_
          exact j_sub [1, 2, 0] rfl (ih mo_z (v2 + 1) hf)
set_option maxRecDepth 100000 in
theorem c_Mo_lands (l : Launch) (g : jG) (a : Nat → Nat) (mo_z : jZ) (mo_y : jY) (x1 : Int32) (res : jZ) (hf : f_Mo_lands mo_z x1 = some res) : MC l g yX12_lands cX12_lands 3 (none : Option Jvm.ClassFile.FieldType) rm_Mo_lands [.ref (a 0), .int x1] (([n_Mo g a mo_z mo_y] : List va_W)) none (([n_Mo g a res mo_y] : List va_W)) 0 0 := by
  refine MC_of (own := RX12) (lv := [(0, .ref (a 0)), (1, .int x1)]) (by decide) rfl (Nat.le_of_ble_eq_true rfl) rfl rfl (fun E hE hq => ?_)
  unfold f_Mo_lands at hf
  refine j_aload_n hE dX12_lands_0 rfl 0 rfl ?_
  refine j_iconst (v := 0) hE dX12_lands_1 (by decide) ?_
  refine j_put (v := .int 0) (ws' := ([n_Mo g a (up2 mo_z 50 0 0) mo_y] : List va_W)) hE lp_Mo_340 0 rfl 0 (wg_Mo_0 g a mo_z mo_y) rfl rfl (Nat.le_of_ble_eq_true rfl) (wp_Mo_50 g a mo_z mo_y 0) rfl dX12_lands_2 ?_
  refine j_aload_n hE dX12_lands_5 rfl 0 rfl ?_
  refine j_iconst (v := 0) hE dX12_lands_6 (by decide) ?_
  refine j_put (v := .int 0) (ws' := ([n_Mo g a (up2 (up2 mo_z 50 0 0) 51 0 0) mo_y] : List va_W)) hE lp_Mo_343 0 rfl 0 (wg_Mo_0 g a (up2 mo_z 50 0 0) mo_y) rfl rfl (Nat.le_of_ble_eq_true rfl) (wp_Mo_51 g a (up2 mo_z 50 0 0) mo_y 0) rfl dX12_lands_7 ?_
  refine j_iconst (v := 0) hE dX12_lands_10 (by decide) ?_
  refine j_istore_n (lv' := [(2, .int 0), (0, .ref (a 0)), (1, .int x1)]) hE dX12_lands_11 rfl (by decide) rfl ?_
  exact j_sub [1, 2, 0] rfl (j_Mo_lands_12 E g a mo_y x1 res hE hq FU (up2 (up2 mo_z 50 0 0) 51 0 0) 0 hf)
def rm_Mo_landOf : Room := { frames := 0, cells := 0, slots := 0, locals := 0 }
def f_Mo_landOf (mo_z : jZ) (x1 : Int32) : Option (Int32) := (if (mo_z 50 0) = 0 then some 0
    else (nzl (Int32.toInt64 (mo_z 50 0))).bind fun _ => some (x1 - (Int64.toInt32 (((Int32.toInt64 x1) * (Int32.toInt64 (mo_z 51 0))) / (Int32.toInt64 (mo_z 50 0))))))
set_option maxRecDepth 100000 in
theorem c_Mo_landOf (l : Launch) (g : jG) (a : Nat → Nat) (mo_z : jZ) (mo_y : jY) (x1 : Int32) (res : Int32) (hf : f_Mo_landOf mo_z x1 = some res) : MC l g yX12_landOf cX12_landOf 2 (some .int) rm_Mo_landOf [.ref (a 0), .int x1] (([n_Mo g a mo_z mo_y] : List va_W)) (some (.int res)) (([n_Mo g a mo_z mo_y] : List va_W)) 0 0 := by
  refine MC_of (own := RX12) (lv := [(0, .ref (a 0)), (1, .int x1)]) (by decide) rfl (Nat.le_of_ble_eq_true rfl) rfl rfl (fun E hE hq => ?_)
  unfold f_Mo_landOf at hf
  refine j_aload_n hE dX12_landOf_0 rfl 0 rfl ?_
  refine j_get (v := .int (mo_z 50 0)) hE lg_Mo_340 0 rfl 0 (wg_Mo_0 g a mo_z mo_y) rfl dX12_landOf_1 ?_
  refine j_if_ne (tgt := 11) hE hf dX12_landOf_4 (by decide) (fun c1 hf => ?_) (fun c1 hf => ?_)
  · refine j_iload_n hE dX12_landOf_11 rfl 1 rfl ?_
    refine j_iload_n hE dX12_landOf_12 rfl 1 rfl ?_
    refine j_i2l hE dX12_landOf_13 ?_
    refine j_aload_n hE dX12_landOf_14 rfl 0 rfl ?_
    refine j_get (v := .int (mo_z 51 0)) hE lg_Mo_343 0 rfl 0 (wg_Mo_0 g a mo_z mo_y) rfl dX12_landOf_15 ?_
    refine j_i2l hE dX12_landOf_18 ?_
    refine j_lmul hE dX12_landOf_19 ?_
    refine j_aload_n hE dX12_landOf_20 rfl 0 rfl ?_
    refine j_get (v := .int (mo_z 50 0)) hE lg_Mo_340 0 rfl 0 (wg_Mo_0 g a mo_z mo_y) rfl dX12_landOf_21 ?_
    refine j_i2l hE dX12_landOf_24 ?_
    refine j_ldiv hE hf dX12_landOf_25 (fun hf => ?_)
    refine j_l2i hE dX12_landOf_26 ?_
    refine j_isub hE dX12_landOf_27 ?_
    obtain rfl := Option.some.inj hf
    exact j_iret hE hq rfl rfl dX12_landOf_28
  · refine j_iconst (v := 0) hE dX12_landOf_7 (by decide) ?_
    refine j_goto (tgt := 28) hE dX12_landOf_8 (by decide) ?_
    obtain rfl := Option.some.inj hf
    exact j_iret hE hq rfl rfl dX12_landOf_28
def rm_Mo_isWithout : Room := { frames := 0, cells := 0, slots := 0, locals := 0 }
def f_Mo_isWithout (mo_z : jZ) (x1 : Int32) (x2 : Int32) : Option (Int32) := (ix x1 24).bind fun _ => (if (mo_z 11 (Int32.toNatClampNeg x1)) = 0 then some 1
    else (ix x1 24).bind fun _ => (if (mo_z 11 (Int32.toNatClampNeg x1)) ≤ (x2 + 2) then some 0
    else some 1))
set_option maxRecDepth 100000 in
theorem c_Mo_isWithout (l : Launch) (g : jG) (a : Nat → Nat) (mo_z : jZ) (mo_y : jY) (x1 : Int32) (x2 : Int32) (res : Int32) (hf : f_Mo_isWithout mo_z x1 x2 = some res) : MC l g yX12_isWithout cX12_isWithout 3 (some .boolean) rm_Mo_isWithout [.ref (a 0), .int x1, .int x2] (([n_Mo g a mo_z mo_y] : List va_W)) (some (.int res)) (([n_Mo g a mo_z mo_y] : List va_W)) 0 0 := by
  refine MC_of (own := RX12) (lv := [(0, .ref (a 0)), (1, .int x1), (2, .int x2)]) (by decide) rfl (Nat.le_of_ble_eq_true rfl) rfl rfl (fun E hE hq => ?_)
  unfold f_Mo_isWithout at hf
  refine j_aload_n hE dX12_isWithout_0 rfl 0 rfl ?_
  refine j_get (v := .ref (a 8)) hE lg_Mo_34 0 rfl 0 (wg_Mo_0 g a mo_z mo_y) rfl dX12_isWithout_1 ?_
  refine j_iload_n hE dX12_isWithout_4 rfl 1 rfl ?_
  refine j_iald hE hf 0 rfl 8 (wg_Mo_8 g a mo_z mo_y) dX12_isWithout_5 (fun hf => ?_)
  refine j_if_eq (tgt := 21) hE hf dX12_isWithout_6 (by decide) (fun c2 hf => ?_) (fun c2 hf => ?_)
  · refine j_iconst (v := 1) hE dX12_isWithout_21 (by decide) ?_
    refine j_goto (tgt := 26) hE dX12_isWithout_22 (by decide) ?_
    obtain rfl := Option.some.inj hf
    exact j_zret_c hE (Or.inr rfl) hq rfl rfl dX12_isWithout_26
  · refine j_aload_n hE dX12_isWithout_9 rfl 0 rfl ?_
    refine j_get (v := .ref (a 8)) hE lg_Mo_34 0 rfl 0 (wg_Mo_0 g a mo_z mo_y) rfl dX12_isWithout_10 ?_
    refine j_iload_n hE dX12_isWithout_13 rfl 1 rfl ?_
    refine j_iald hE hf 0 rfl 8 (wg_Mo_8 g a mo_z mo_y) dX12_isWithout_14 (fun hf => ?_)
    refine j_iload_n hE dX12_isWithout_15 rfl 2 rfl ?_
    refine j_iconst (v := 2) hE dX12_isWithout_16 (by decide) ?_
    refine j_iadd hE dX12_isWithout_17 ?_
    refine j_icmp_le (tgt := 25) hE hf dX12_isWithout_18 (by decide) (fun c4 hf => ?_) (fun c4 hf => ?_)
    · refine j_iconst (v := 0) hE dX12_isWithout_25 (by decide) ?_
      obtain rfl := Option.some.inj hf
      exact j_zret_c hE (Or.inl rfl) hq rfl rfl dX12_isWithout_26
    · refine j_iconst (v := 1) hE dX12_isWithout_21 (by decide) ?_
      refine j_goto (tgt := 26) hE dX12_isWithout_22 (by decide) ?_
      obtain rfl := Option.some.inj hf
      exact j_zret_c hE (Or.inr rfl) hq rfl rfl dX12_isWithout_26
def rm_Mo_movedTo : Room := { frames := 3, cells := 0, slots := 0, locals := 69 }
def f_Mo_movedTo (mo_z : jZ) (x1 : Int32) (x2 : Int32) : Option (Int32) := (f_Mo_isPlace mo_z x1).bind fun q1 => (if q1 = 0 then some 0
    else (f_Mo_isWithout mo_z x1 x2).bind fun q4 => (if q4 = 0 then some 0
    else (f_Mo_isSix mo_z x1 x2).bind fun q7 => (if q7 = 0 then some 0
    else (f_Mo_sumOf mo_z x1 (x2 - 3)).bind fun q10 => (f_Mo_sumOf mo_z x1 x2).bind fun q12 => (f_Mo_landOf mo_z (1000 * q10)).bind fun q14 => some (if 0 < ((1000 * q12) - ((1000 * q10) - q14)) then ((1000 * q12) - ((1000 * q10) - q14)) else 0))))
set_option maxRecDepth 100000 in
theorem c_Mo_movedTo (l : Launch) (g : jG) (a : Nat → Nat) (mo_z : jZ) (mo_y : jY) (x1 : Int32) (x2 : Int32) (res : Int32) (hf : f_Mo_movedTo mo_z x1 x2 = some res) : MC l g yX12_movedTo cX12_movedTo 4 (some .int) rm_Mo_movedTo [.ref (a 0), .int x1, .int x2] (([n_Mo g a mo_z mo_y] : List va_W)) (some (.int res)) (([n_Mo g a mo_z mo_y] : List va_W)) 0 0 := by
  refine MC_of (own := RX12) (lv := [(0, .ref (a 0)), (1, .int x1), (2, .int x2)]) (by decide) rfl (Nat.le_of_ble_eq_true rfl) rfl rfl (fun E hE hq => ?_)
  unfold f_Mo_movedTo at hf
  refine j_aload_n hE dX12_movedTo_0 rfl 0 rfl ?_
  refine j_iload_n hE dX12_movedTo_1 rfl 1 rfl ?_
  obtain ⟨q1, hc2, hf⟩ := bind_of hf
  refine j_callV (ws' := ([n_Mo g a mo_z mo_y] : List va_W)) (As := [.int x1]) (rest := []) (st2 := [.int q1]) hE (fun l => c_Mo_isPlace l g a mo_z mo_y x1 q1 hc2) cd_X12_isPlace cv_X12_isPlace ml_Mo_252 rfl rfl rfl (wg_Mo_0 _ _ _ _) ⟨⟨Nat.le_of_ble_eq_true rfl, Nat.le_of_ble_eq_true rfl⟩, ⟨Nat.zero_le _, Nat.zero_le _⟩, rfl, rfl⟩ [0] rfl rfl rfl (Nat.le_of_ble_eq_true rfl) rfl dX12_movedTo_2 ?_
  refine j_if_eq (tgt := 26) hE hf dX12_movedTo_5 (by decide) (fun c3 hf => ?_) (fun c3 hf => ?_)
  · refine j_iconst (v := 0) hE dX12_movedTo_26 (by decide) ?_
    obtain rfl := Option.some.inj hf
    exact j_iret hE hq rfl rfl dX12_movedTo_27
  · refine j_aload_n hE dX12_movedTo_8 rfl 0 rfl ?_
    refine j_iload_n hE dX12_movedTo_9 rfl 1 rfl ?_
    refine j_iload_n hE dX12_movedTo_10 rfl 2 rfl ?_
    obtain ⟨q4, hc5, hf⟩ := bind_of hf
    refine j_callV (ws' := ([n_Mo g a mo_z mo_y] : List va_W)) (As := [.int x1, .int x2]) (rest := []) (st2 := [.int q4]) hE (fun l => c_Mo_isWithout l g a mo_z mo_y x1 x2 q4 hc5) cd_X12_isWithout cv_X12_isWithout ml_Mo_360 rfl rfl rfl (wg_Mo_0 _ _ _ _) ⟨⟨Nat.le_of_ble_eq_true rfl, Nat.le_of_ble_eq_true rfl⟩, ⟨Nat.zero_le _, Nat.zero_le _⟩, rfl, rfl⟩ [0] rfl rfl rfl (Nat.le_of_ble_eq_true rfl) rfl dX12_movedTo_11 ?_
    refine j_if_eq (tgt := 26) hE hf dX12_movedTo_14 (by decide) (fun c6 hf => ?_) (fun c6 hf => ?_)
    · refine j_iconst (v := 0) hE dX12_movedTo_26 (by decide) ?_
      obtain rfl := Option.some.inj hf
      exact j_iret hE hq rfl rfl dX12_movedTo_27
    · refine j_aload_n hE dX12_movedTo_17 rfl 0 rfl ?_
      refine j_iload_n hE dX12_movedTo_18 rfl 1 rfl ?_
      refine j_iload_n hE dX12_movedTo_19 rfl 2 rfl ?_
      obtain ⟨q7, hc8, hf⟩ := bind_of hf
      refine j_callV (ws' := ([n_Mo g a mo_z mo_y] : List va_W)) (As := [.int x1, .int x2]) (rest := []) (st2 := [.int q7]) hE (fun l => c_Mo_isSix l g a mo_z mo_y x1 x2 q7 hc8) cd_X12_isSix cv_X12_isSix ml_Mo_346 rfl rfl rfl (wg_Mo_0 _ _ _ _) ⟨⟨Nat.le_of_ble_eq_true rfl, Nat.le_of_ble_eq_true rfl⟩, ⟨Nat.zero_le _, Nat.zero_le _⟩, rfl, rfl⟩ [0] rfl rfl rfl (Nat.le_of_ble_eq_true rfl) rfl dX12_movedTo_20 ?_
      refine j_if_ne (tgt := 28) hE hf dX12_movedTo_23 (by decide) (fun c9 hf => ?_) (fun c9 hf => ?_)
      · refine j_sipush (v := 1000) hE dX12_movedTo_28 (by decide) ?_
        refine j_aload_n hE dX12_movedTo_31 rfl 0 rfl ?_
        refine j_iload_n hE dX12_movedTo_32 rfl 1 rfl ?_
        refine j_iload_n hE dX12_movedTo_33 rfl 2 rfl ?_
        refine j_iconst (v := 3) hE dX12_movedTo_34 (by decide) ?_
        refine j_isub hE dX12_movedTo_35 ?_
        obtain ⟨q10, hc11, hf⟩ := bind_of hf
        refine j_callV (ws' := ([n_Mo g a mo_z mo_y] : List va_W)) (As := [.int x1, .int (x2 - 3)]) (rest := [.int 1000]) (st2 := [.int q10, .int 1000]) hE (fun l => c_Mo_sumOf l g a mo_z mo_y x1 (x2 - 3) q10 hc11) cd_X12_sumOf cv_X12_sumOf ml_Mo_337 rfl rfl rfl (wg_Mo_0 _ _ _ _) ⟨⟨Nat.le_of_ble_eq_true rfl, Nat.le_of_ble_eq_true rfl⟩, ⟨Nat.zero_le _, Nat.zero_le _⟩, rfl, rfl⟩ [0] rfl rfl rfl (Nat.le_of_ble_eq_true rfl) rfl dX12_movedTo_36 ?_
        refine j_imul hE dX12_movedTo_39 ?_
        refine j_istore_n (lv' := [(3, .int (1000 * q10)), (0, .ref (a 0)), (1, .int x1), (2, .int x2)]) hE dX12_movedTo_40 rfl (by decide) rfl ?_
        refine j_iconst (v := 0) hE dX12_movedTo_41 (by decide) ?_
        refine j_sipush (v := 1000) hE dX12_movedTo_42 (by decide) ?_
        refine j_aload_n hE dX12_movedTo_45 rfl 1 rfl ?_
        refine j_iload_n hE dX12_movedTo_46 rfl 2 rfl ?_
        refine j_iload_n hE dX12_movedTo_47 rfl 3 rfl ?_
        obtain ⟨q12, hc13, hf⟩ := bind_of hf
        refine j_callV (ws' := ([n_Mo g a mo_z mo_y] : List va_W)) (As := [.int x1, .int x2]) (rest := [.int 1000, .int 0]) (st2 := [.int q12, .int 1000, .int 0]) hE (fun l => c_Mo_sumOf l g a mo_z mo_y x1 x2 q12 hc13) cd_X12_sumOf cv_X12_sumOf ml_Mo_337 rfl rfl rfl (wg_Mo_0 _ _ _ _) ⟨⟨Nat.le_of_ble_eq_true rfl, Nat.le_of_ble_eq_true rfl⟩, ⟨Nat.zero_le _, Nat.zero_le _⟩, rfl, rfl⟩ [0] rfl rfl rfl (Nat.le_of_ble_eq_true rfl) rfl dX12_movedTo_48 ?_
        refine j_imul hE dX12_movedTo_51 ?_
        refine j_iload_n hE dX12_movedTo_52 rfl 0 rfl ?_
        refine j_aload_n hE dX12_movedTo_53 rfl 1 rfl ?_
        refine j_iload_n hE dX12_movedTo_54 rfl 0 rfl ?_
        obtain ⟨q14, hc15, hf⟩ := bind_of hf
        refine j_callV (ws' := ([n_Mo g a mo_z mo_y] : List va_W)) (As := [.int (1000 * q10)]) (rest := [.int (1000 * q10), .int (1000 * q12), .int 0]) (st2 := [.int q14, .int (1000 * q10), .int (1000 * q12), .int 0]) hE (fun l => c_Mo_landOf l g a mo_z mo_y (1000 * q10) q14 hc15) cd_X12_landOf cv_X12_landOf ml_Mo_354 rfl rfl rfl (wg_Mo_0 _ _ _ _) ⟨⟨Nat.le_of_ble_eq_true rfl, Nat.le_of_ble_eq_true rfl⟩, ⟨Nat.zero_le _, Nat.zero_le _⟩, rfl, rfl⟩ [0] rfl rfl rfl (Nat.le_of_ble_eq_true rfl) rfl dX12_movedTo_55 ?_
        refine j_isub hE dX12_movedTo_58 ?_
        refine j_isub hE dX12_movedTo_59 ?_
        refine j_mmax hE fm_mmax ml_Mo_306 ⟨⟨Nat.le_of_ble_eq_true rfl, Nat.le_of_ble_eq_true rfl⟩, Nat.zero_le _, Nat.zero_le _⟩ dX12_movedTo_60 ?_
        obtain rfl := Option.some.inj hf
        exact j_iret hE hq rfl rfl dX12_movedTo_63
      · refine j_iconst (v := 0) hE dX12_movedTo_26 (by decide) ?_
        obtain rfl := Option.some.inj hf
        exact j_iret hE hq rfl rfl dX12_movedTo_27
def rm_Mo_fall : Room := { frames := 4, cells := 0, slots := 0, locals := 92 }
def f_Mo_fall_189  (x1 : Int32) (x2 : Int32)  (mo_z : jZ) (mo_y : jY) (v3 : Int32) (v4 : Int32) (v5 : Int32) (v6 : Int32) (v7 : Int32) (s0 : Int32) : Option (jZ × jY × Int32) := (f_Mo_movedTo mo_z (x1 + 1) v3).bind fun q32 => (if x2 = 0 then some (mo_z, mo_y, v4)
    else (if x2 = 1 then some (mo_z, mo_y, v5)
    else (if x2 = 2 then some (mo_z, mo_y, ((1000 * v4) - v6))
    else (if x2 = 3 then some (mo_z, mo_y, v7)
    else (if x2 = 4 then some (mo_z, mo_y, s0)
    else (if x2 = 5 then some (mo_z, mo_y, ((((1000 * (v4 - v5)) - ((1000 * v4) - v6)) - v7) - s0))
    else (if x2 = 6 then some (mo_z, mo_y, q32)
    else (if x2 = 7 then some (mo_z, mo_y, (((((1000 * (v4 - v5)) - ((1000 * v4) - v6)) - v7) - s0) - q32))
    else some (mo_z, mo_y, v6)))))))))
def f_Mo_fall_133  (x1 : Int32) (x2 : Int32)  (mo_z : jZ) (mo_y : jY) (v3 : Int32) (v4 : Int32) (v5 : Int32) (s0 : Int32) : Option (jZ × jY × Int32) := (f_Mo_lands mo_z v3).bind fun q23 => (f_Mo_landOf q23 s0).bind fun q25 => (ix x1 24).bind fun _ => (if (q23 12 (Int32.toNatClampNeg x1)) < v3 then f_Mo_fall_189 x1 x2 q23 mo_y v3 v4 v5 s0 q25 0
    else (ix x1 24).bind fun _ => (if (v3 + 2) < (q23 12 (Int32.toNatClampNeg x1)) then f_Mo_fall_189 x1 x2 q23 mo_y v3 v4 v5 s0 q25 0
    else (ix x1 24).bind fun _ => f_Mo_fall_189 x1 x2 q23 mo_y v3 v4 v5 s0 q25 (((s0 - q25) * (q23 13 (Int32.toNatClampNeg x1))) / 10)))
def f_Mo_fall (mo_z : jZ) (mo_y : jY) (x1 : Int32) (x2 : Int32) : Option (jZ × jY × Int32) := (f_Mo_isPlace (up2 mo_z 0 0 0) x1).bind fun q1 => (if q1 = 0 then some ((up2 mo_z 0 0 0), mo_y, (-2147483648))
    else (if x2 < 0 then some ((up2 mo_z 0 0 0), mo_y, (-2147483648))
    else (if 8 < x2 then some ((up2 mo_z 0 0 0), mo_y, (-2147483648))
    else (ix x1 24).bind fun _ => (if (mo_z 11 (Int32.toNatClampNeg x1)) < 3 then some ((up2 mo_z 0 0 0), mo_y, (-2147483648))
    else (ix x1 24).bind fun _ => (if (mo_z 11 (Int32.toNatClampNeg x1)) ≤ 6 then (f_Mo_knows (up2 mo_z 0 0 0)).bind fun q10 => (ix x1 24).bind fun _ => (f_Mo_isSix q10 x1 (q10 11 (Int32.toNatClampNeg x1))).bind fun q13 => (if q13 = 0 then some (q10, mo_y, (-2147483648))
    else (f_Mo_sumOf q10 x1 ((q10 11 (Int32.toNatClampNeg x1)) - 3)).bind fun q16 => (f_Mo_sumOf q10 x1 (q10 11 (Int32.toNatClampNeg x1))).bind fun q18 => (f_Mo_rates q10 mo_y x1 ((q10 11 (Int32.toNatClampNeg x1)) - 3) ((q10 11 (Int32.toNatClampNeg x1)) - 1)).bind fun q20 => (if (lg_cmp (q20 46 0) 0) = 0 then f_Mo_fall_133 x1 x2 q10 q20 (q10 11 (Int32.toNatClampNeg x1)) q16 q18 (1000 * q16)
    else (nzl (q20 46 0)).bind fun _ => f_Mo_fall_133 x1 x2 q10 q20 (q10 11 (Int32.toNatClampNeg x1)) q16 q18 (Int64.toInt32 ((3000 * (q20 45 0)) / (q20 46 0)))))
    else some ((up2 mo_z 0 0 0), mo_y, (-2147483648)))))))
set_option maxRecDepth 100000 in
theorem j_Mo_fall_189 (E : jT) (g : jG) (a : Nat → Nat)  (x1 : Int32) (x2 : Int32) (res : jZ × jY × Int32) (hE : jOk E g RX12 cX12_fall 12 (some .int) rm_Mo_fall) (hq : jEnd E g (some (.int res.2.2)) (([n_Mo g a res.1 res.2.1] : List va_W)) 0 0)  (mo_z : jZ) (mo_y : jY) (v3 : Int32) (v4 : Int32) (v5 : Int32) (v6 : Int32) (v7 : Int32) (s0 : Int32) (hf : f_Mo_fall_189 x1 x2 mo_z mo_y v3 v4 v5 v6 v7 s0 = some res) : J E g 0 0 (([n_Mo g a mo_z mo_y] : List va_W)) [(0, .ref (a 0)), (1, .int x1), (2, .int x2), (3, .int v3), (4, .int v4), (5, .int v5), (6, .int v6), (7, .int v7)] 189 [.int s0] := by
  unfold f_Mo_fall_189 at hf
  refine j_istore (lv' := [(8, .int s0), (0, .ref (a 0)), (1, .int x1), (2, .int x2), (3, .int v3), (4, .int v4), (5, .int v5), (6, .int v6), (7, .int v7)]) hE dX12_fall_189 (by decide) rfl ?_
  refine j_sipush (v := 1000) hE dX12_fall_191 (by decide) ?_
  refine j_iload hE dX12_fall_194 5 rfl ?_
  refine j_imul hE dX12_fall_196 ?_
  refine j_iload hE dX12_fall_197 7 rfl ?_
  refine j_isub hE dX12_fall_199 ?_
  refine j_istore (lv' := [(9, .int ((1000 * v4) - v6)), (8, .int s0), (0, .ref (a 0)), (1, .int x1), (2, .int x2), (3, .int v3), (4, .int v4), (5, .int v5), (6, .int v6), (7, .int v7)]) hE dX12_fall_200 (by decide) rfl ?_
  refine j_sipush (v := 1000) hE dX12_fall_202 (by decide) ?_
  refine j_iload hE dX12_fall_205 6 rfl ?_
  refine j_iload hE dX12_fall_207 7 rfl ?_
  refine j_isub hE dX12_fall_209 ?_
  refine j_imul hE dX12_fall_210 ?_
  refine j_iload hE dX12_fall_211 0 rfl ?_
  refine j_isub hE dX12_fall_213 ?_
  refine j_iload hE dX12_fall_214 9 rfl ?_
  refine j_isub hE dX12_fall_216 ?_
  refine j_iload hE dX12_fall_217 1 rfl ?_
  refine j_isub hE dX12_fall_219 ?_
  refine j_istore (lv' := [(10, .int ((((1000 * (v4 - v5)) - ((1000 * v4) - v6)) - v7) - s0)), (9, .int ((1000 * v4) - v6)), (8, .int s0), (0, .ref (a 0)), (1, .int x1), (2, .int x2), (3, .int v3), (4, .int v4), (5, .int v5), (6, .int v6), (7, .int v7)]) hE dX12_fall_220 (by decide) rfl ?_
  refine j_aload_n hE dX12_fall_222 rfl 3 rfl ?_
  refine j_iload_n hE dX12_fall_223 rfl 4 rfl ?_
  refine j_iconst (v := 1) hE dX12_fall_224 (by decide) ?_
  refine j_iadd hE dX12_fall_225 ?_
  refine j_iload_n hE dX12_fall_226 rfl 6 rfl ?_
  obtain ⟨q32, hc33, hf⟩ := bind_of hf
  refine j_callV (ws' := ([n_Mo g a mo_z mo_y] : List va_W)) (As := [.int (x1 + 1), .int v3]) (rest := []) (st2 := [.int q32]) hE (fun l => c_Mo_movedTo l g a mo_z mo_y (x1 + 1) v3 q32 hc33) cd_X12_movedTo cv_X12_movedTo ml_Mo_357 rfl rfl rfl (wg_Mo_0 _ _ _ _) ⟨⟨Nat.le_of_ble_eq_true rfl, Nat.le_of_ble_eq_true rfl⟩, ⟨Nat.zero_le _, Nat.zero_le _⟩, rfl, rfl⟩ [0] rfl rfl rfl (Nat.le_of_ble_eq_true rfl) rfl dX12_fall_227 ?_
  refine j_istore (lv' := [(11, .int q32), (10, .int ((((1000 * (v4 - v5)) - ((1000 * v4) - v6)) - v7) - s0)), (9, .int ((1000 * v4) - v6)), (8, .int s0), (0, .ref (a 0)), (1, .int x1), (2, .int x2), (3, .int v3), (4, .int v4), (5, .int v5), (6, .int v6), (7, .int v7)]) hE dX12_fall_230 (by decide) rfl ?_
  refine j_iload_n hE dX12_fall_232 rfl 6 rfl ?_
  refine j_case hf (fun c34 hf => ?_) (fun c34 hf => ?_)
  · refine j_tableIn (tgt := 280) hE dX12_fall_233 (by rw [c34]; decide) (by rw [c34]; decide) (by rw [c34]; try rfl) (by decide) ?_
    refine j_iload hE dX12_fall_280 8 rfl ?_
    obtain rfl := Option.some.inj hf
    exact j_iret hE hq rfl rfl dX12_fall_282
  refine j_case hf (fun c35 hf => ?_) (fun c35 hf => ?_)
  · refine j_tableIn (tgt := 283) hE dX12_fall_233 (by rw [c35]; decide) (by rw [c35]; decide) (by rw [c35]; try rfl) (by decide) ?_
    refine j_iload hE dX12_fall_283 9 rfl ?_
    obtain rfl := Option.some.inj hf
    exact j_iret hE hq rfl rfl dX12_fall_285
  refine j_case hf (fun c36 hf => ?_) (fun c36 hf => ?_)
  · refine j_tableIn (tgt := 286) hE dX12_fall_233 (by rw [c36]; decide) (by rw [c36]; decide) (by rw [c36]; try rfl) (by decide) ?_
    refine j_iload hE dX12_fall_286 2 rfl ?_
    obtain rfl := Option.some.inj hf
    exact j_iret hE hq rfl rfl dX12_fall_288
  refine j_case hf (fun c37 hf => ?_) (fun c37 hf => ?_)
  · refine j_tableIn (tgt := 289) hE dX12_fall_233 (by rw [c37]; decide) (by rw [c37]; decide) (by rw [c37]; try rfl) (by decide) ?_
    refine j_iload hE dX12_fall_289 11 rfl ?_
    obtain rfl := Option.some.inj hf
    exact j_iret hE hq rfl rfl dX12_fall_291
  refine j_case hf (fun c38 hf => ?_) (fun c38 hf => ?_)
  · refine j_tableIn (tgt := 292) hE dX12_fall_233 (by rw [c38]; decide) (by rw [c38]; decide) (by rw [c38]; try rfl) (by decide) ?_
    refine j_iload hE dX12_fall_292 3 rfl ?_
    obtain rfl := Option.some.inj hf
    exact j_iret hE hq rfl rfl dX12_fall_294
  refine j_case hf (fun c39 hf => ?_) (fun c39 hf => ?_)
  · refine j_tableIn (tgt := 295) hE dX12_fall_233 (by rw [c39]; decide) (by rw [c39]; decide) (by rw [c39]; try rfl) (by decide) ?_
    refine j_iload hE dX12_fall_295 1 rfl ?_
    obtain rfl := Option.some.inj hf
    exact j_iret hE hq rfl rfl dX12_fall_297
  refine j_case hf (fun c40 hf => ?_) (fun c40 hf => ?_)
  · refine j_tableIn (tgt := 298) hE dX12_fall_233 (by rw [c40]; decide) (by rw [c40]; decide) (by rw [c40]; try rfl) (by decide) ?_
    refine j_iload hE dX12_fall_298 0 rfl ?_
    obtain rfl := Option.some.inj hf
    exact j_iret hE hq rfl rfl dX12_fall_300
  refine j_case hf (fun c41 hf => ?_) (fun c41 hf => ?_)
  · refine j_tableIn (tgt := 301) hE dX12_fall_233 (by rw [c41]; decide) (by rw [c41]; decide) (by rw [c41]; try rfl) (by decide) ?_
    refine j_iload hE dX12_fall_301 1 rfl ?_
    refine j_iload hE dX12_fall_303 0 rfl ?_
    refine j_isub hE dX12_fall_305 ?_
    obtain rfl := Option.some.inj hf
    exact j_iret hE hq rfl rfl dX12_fall_306
  have t_c34 : 0 ≠ Int32.toInt x2 := fun h => c34 (Int32.toInt_inj.mp (h.symm.trans (by decide)))
  have t_c35 : 1 ≠ Int32.toInt x2 := fun h => c35 (Int32.toInt_inj.mp (h.symm.trans (by decide)))
  have t_c36 : 2 ≠ Int32.toInt x2 := fun h => c36 (Int32.toInt_inj.mp (h.symm.trans (by decide)))
  have t_c37 : 3 ≠ Int32.toInt x2 := fun h => c37 (Int32.toInt_inj.mp (h.symm.trans (by decide)))
  have t_c38 : 4 ≠ Int32.toInt x2 := fun h => c38 (Int32.toInt_inj.mp (h.symm.trans (by decide)))
  have t_c39 : 5 ≠ Int32.toInt x2 := fun h => c39 (Int32.toInt_inj.mp (h.symm.trans (by decide)))
  have t_c40 : 6 ≠ Int32.toInt x2 := fun h => c40 (Int32.toInt_inj.mp (h.symm.trans (by decide)))
  have t_c41 : 7 ≠ Int32.toInt x2 := fun h => c41 (Int32.toInt_inj.mp (h.symm.trans (by decide)))
  refine j_tableOut (tgt := 307) hE dX12_fall_233 (by omega) (by decide) ?_
  refine j_iload hE dX12_fall_307 10 rfl ?_
  obtain rfl := Option.some.inj hf
  exact j_iret hE hq rfl rfl dX12_fall_309
set_option maxRecDepth 100000 in
theorem j_Mo_fall_133 (E : jT) (g : jG) (a : Nat → Nat)  (x1 : Int32) (x2 : Int32) (res : jZ × jY × Int32) (hE : jOk E g RX12 cX12_fall 12 (some .int) rm_Mo_fall) (hq : jEnd E g (some (.int res.2.2)) (([n_Mo g a res.1 res.2.1] : List va_W)) 0 0)  (mo_z : jZ) (mo_y : jY) (v3 : Int32) (v4 : Int32) (v5 : Int32) (s0 : Int32) (hf : f_Mo_fall_133 x1 x2 mo_z mo_y v3 v4 v5 s0 = some res) : J E g 0 0 (([n_Mo g a mo_z mo_y] : List va_W)) [(0, .ref (a 0)), (1, .int x1), (2, .int x2), (3, .int v3), (4, .int v4), (5, .int v5)] 133 [.int s0] := by
  unfold f_Mo_fall_133 at hf
  refine j_istore (lv' := [(6, .int s0), (0, .ref (a 0)), (1, .int x1), (2, .int x2), (3, .int v3), (4, .int v4), (5, .int v5)]) hE dX12_fall_133 (by decide) rfl ?_
  refine j_aload_n hE dX12_fall_135 rfl 1 rfl ?_
  refine j_iload_n hE dX12_fall_136 rfl 4 rfl ?_
  obtain ⟨q23, hc24, hf⟩ := bind_of hf
  refine j_callV (ws' := ([n_Mo g a q23 mo_y] : List va_W)) (As := [.int v3]) (rest := []) (st2 := []) hE (fun l => c_Mo_lands l g a mo_z mo_y v3 q23 hc24) cd_X12_lands cv_X12_lands ml_Mo_351 rfl rfl rfl (wg_Mo_0 _ _ _ _) ⟨⟨Nat.le_of_ble_eq_true rfl, Nat.le_of_ble_eq_true rfl⟩, ⟨Nat.zero_le _, Nat.zero_le _⟩, rfl, rfl⟩ [0] rfl rfl rfl (Nat.le_of_ble_eq_true rfl) rfl dX12_fall_137 ?_
  refine j_aload_n hE dX12_fall_140 rfl 1 rfl ?_
  refine j_iload hE dX12_fall_141 0 rfl ?_
  obtain ⟨q25, hc26, hf⟩ := bind_of hf
  refine j_callV (ws' := ([n_Mo g a q23 mo_y] : List va_W)) (As := [.int s0]) (rest := []) (st2 := [.int q25]) hE (fun l => c_Mo_landOf l g a q23 mo_y s0 q25 hc26) cd_X12_landOf cv_X12_landOf ml_Mo_354 rfl rfl rfl (wg_Mo_0 _ _ _ _) ⟨⟨Nat.le_of_ble_eq_true rfl, Nat.le_of_ble_eq_true rfl⟩, ⟨Nat.zero_le _, Nat.zero_le _⟩, rfl, rfl⟩ [0] rfl rfl rfl (Nat.le_of_ble_eq_true rfl) rfl dX12_fall_143 ?_
  refine j_istore (lv' := [(7, .int q25), (6, .int s0), (0, .ref (a 0)), (1, .int x1), (2, .int x2), (3, .int v3), (4, .int v4), (5, .int v5)]) hE dX12_fall_146 (by decide) rfl ?_
  refine j_aload_n hE dX12_fall_148 rfl 2 rfl ?_
  refine j_get (v := .ref (a 9)) hE lg_Mo_37 0 rfl 0 (wg_Mo_0 g a q23 mo_y) rfl dX12_fall_149 ?_
  refine j_iload_n hE dX12_fall_152 rfl 3 rfl ?_
  refine j_iald hE hf 0 rfl 9 (wg_Mo_9 g a q23 mo_y) dX12_fall_153 (fun hf => ?_)
  refine j_iload_n hE dX12_fall_154 rfl 5 rfl ?_
  refine j_icmp_lt (tgt := 188) hE hf dX12_fall_155 (by decide) (fun c28 hf => ?_) (fun c28 hf => ?_)
  · refine j_iconst (v := 0) hE dX12_fall_188 (by decide) ?_
    exact j_sub [2, 3, 4, 5, 6, 7, 1, 0] rfl (j_Mo_fall_189 E g a x1 x2 res hE hq q23 mo_y v3 v4 v5 s0 q25 0 hf)
  · refine j_aload_n hE dX12_fall_158 rfl 2 rfl ?_
    refine j_get (v := .ref (a 9)) hE lg_Mo_37 0 rfl 0 (wg_Mo_0 g a q23 mo_y) rfl dX12_fall_159 ?_
    refine j_iload_n hE dX12_fall_162 rfl 3 rfl ?_
    refine j_iald hE hf 0 rfl 9 (wg_Mo_9 g a q23 mo_y) dX12_fall_163 (fun hf => ?_)
    refine j_iload_n hE dX12_fall_164 rfl 5 rfl ?_
    refine j_iconst (v := 2) hE dX12_fall_165 (by decide) ?_
    refine j_iadd hE dX12_fall_166 ?_
    refine j_icmp_gt (tgt := 188) hE hf dX12_fall_167 (by decide) (fun c30 hf => ?_) (fun c30 hf => ?_)
    · refine j_iconst (v := 0) hE dX12_fall_188 (by decide) ?_
      exact j_sub [2, 3, 4, 5, 6, 7, 1, 0] rfl (j_Mo_fall_189 E g a x1 x2 res hE hq q23 mo_y v3 v4 v5 s0 q25 0 hf)
    · refine j_iload hE dX12_fall_170 1 rfl ?_
      refine j_iload hE dX12_fall_172 0 rfl ?_
      refine j_isub hE dX12_fall_174 ?_
      refine j_aload_n hE dX12_fall_175 rfl 2 rfl ?_
      refine j_get (v := .ref (a 10)) hE lg_Mo_40 0 rfl 0 (wg_Mo_0 g a q23 mo_y) rfl dX12_fall_176 ?_
      refine j_iload_n hE dX12_fall_179 rfl 3 rfl ?_
      refine j_iald hE hf 0 rfl 10 (wg_Mo_10 g a q23 mo_y) dX12_fall_180 (fun hf => ?_)
      refine j_imul hE dX12_fall_181 ?_
      refine j_bipush (v := 10) hE dX12_fall_182 (by decide) ?_
      refine j_idiv_c hE (by decide) dX12_fall_184 ?_
      refine j_goto (tgt := 189) hE dX12_fall_185 (by decide) ?_
      exact j_sub [2, 3, 4, 5, 6, 7, 1, 0] rfl (j_Mo_fall_189 E g a x1 x2 res hE hq q23 mo_y v3 v4 v5 s0 q25 (((s0 - q25) * (q23 13 (Int32.toNatClampNeg x1))) / 10) hf)
set_option maxRecDepth 100000 in
theorem c_Mo_fall (l : Launch) (g : jG) (a : Nat → Nat) (mo_z : jZ) (mo_y : jY) (x1 : Int32) (x2 : Int32) (res : jZ × jY × Int32) (hf : f_Mo_fall mo_z mo_y x1 x2 = some res) : MC l g yX12_fall cX12_fall 12 (some .int) rm_Mo_fall [.ref (a 0), .int x1, .int x2] (([n_Mo g a mo_z mo_y] : List va_W)) (some (.int res.2.2)) (([n_Mo g a res.1 res.2.1] : List va_W)) 0 0 := by
  refine MC_of (own := RX12) (lv := [(0, .ref (a 0)), (1, .int x1), (2, .int x2)]) (by decide) rfl (Nat.le_of_ble_eq_true rfl) rfl rfl (fun E hE hq => ?_)
  unfold f_Mo_fall at hf
  refine j_aload_n hE dX12_fall_0 rfl 0 rfl ?_
  refine j_iconst (v := 0) hE dX12_fall_1 (by decide) ?_
  refine j_put (v := .int 0) (ws' := ([n_Mo g a (up2 mo_z 0 0 0) mo_y] : List va_W)) hE lp_Mo_87 0 rfl 0 (wg_Mo_0 g a mo_z mo_y) rfl rfl (Nat.le_of_ble_eq_true rfl) (wp_Mo_0 g a mo_z mo_y 0) rfl dX12_fall_2 ?_
  refine j_aload_n hE dX12_fall_5 rfl 0 rfl ?_
  refine j_iload_n hE dX12_fall_6 rfl 1 rfl ?_
  obtain ⟨q1, hc2, hf⟩ := bind_of hf
  refine j_callV (ws' := ([n_Mo g a (up2 mo_z 0 0 0) mo_y] : List va_W)) (As := [.int x1]) (rest := []) (st2 := [.int q1]) hE (fun l => c_Mo_isPlace l g a (up2 mo_z 0 0 0) mo_y x1 q1 hc2) cd_X12_isPlace cv_X12_isPlace ml_Mo_252 rfl rfl rfl (wg_Mo_0 _ _ _ _) ⟨⟨Nat.le_of_ble_eq_true rfl, Nat.le_of_ble_eq_true rfl⟩, ⟨Nat.zero_le _, Nat.zero_le _⟩, rfl, rfl⟩ [0] rfl rfl rfl (Nat.le_of_ble_eq_true rfl) rfl dX12_fall_7 ?_
  refine j_if_eq (tgt := 44) hE hf dX12_fall_10 (by decide) (fun c3 hf => ?_) (fun c3 hf => ?_)
  · refine j_ldcw hE co_Mo_298 dX12_fall_44 ?_
    obtain rfl := Option.some.inj hf
    exact j_iret hE hq rfl rfl dX12_fall_47
  · refine j_iload_n hE dX12_fall_13 rfl 2 rfl ?_
    refine j_if_lt (tgt := 44) hE hf dX12_fall_14 (by decide) (fun c4 hf => ?_) (fun c4 hf => ?_)
    · refine j_ldcw hE co_Mo_298 dX12_fall_44 ?_
      obtain rfl := Option.some.inj hf
      exact j_iret hE hq rfl rfl dX12_fall_47
    · refine j_iload_n hE dX12_fall_17 rfl 2 rfl ?_
      refine j_bipush (v := 8) hE dX12_fall_18 (by decide) ?_
      refine j_icmp_gt (tgt := 44) hE hf dX12_fall_20 (by decide) (fun c5 hf => ?_) (fun c5 hf => ?_)
      · refine j_ldcw hE co_Mo_298 dX12_fall_44 ?_
        obtain rfl := Option.some.inj hf
        exact j_iret hE hq rfl rfl dX12_fall_47
      · refine j_aload_n hE dX12_fall_23 rfl 0 rfl ?_
        refine j_get (v := .ref (a 8)) hE lg_Mo_34 0 rfl 0 (wg_Mo_0 g a (up2 mo_z 0 0 0) mo_y) rfl dX12_fall_24 ?_
        refine j_iload_n hE dX12_fall_27 rfl 1 rfl ?_
        refine j_iald hE hf 0 rfl 8 (wg_Mo_8 g a (up2 mo_z 0 0 0) mo_y) dX12_fall_28 (fun hf => ?_)
        refine j_st (st' := [.int (mo_z 11 (Int32.toNatClampNeg x1))]) rfl ?_
        refine j_iconst (v := 3) hE dX12_fall_29 (by decide) ?_
        refine j_icmp_lt (tgt := 44) hE hf dX12_fall_30 (by decide) (fun c7 hf => ?_) (fun c7 hf => ?_)
        · refine j_ldcw hE co_Mo_298 dX12_fall_44 ?_
          obtain rfl := Option.some.inj hf
          exact j_iret hE hq rfl rfl dX12_fall_47
        · refine j_aload_n hE dX12_fall_33 rfl 0 rfl ?_
          refine j_get (v := .ref (a 8)) hE lg_Mo_34 0 rfl 0 (wg_Mo_0 g a (up2 mo_z 0 0 0) mo_y) rfl dX12_fall_34 ?_
          refine j_iload_n hE dX12_fall_37 rfl 1 rfl ?_
          refine j_iald hE hf 0 rfl 8 (wg_Mo_8 g a (up2 mo_z 0 0 0) mo_y) dX12_fall_38 (fun hf => ?_)
          refine j_st (st' := [.int (mo_z 11 (Int32.toNatClampNeg x1))]) rfl ?_
          refine j_bipush (v := 6) hE dX12_fall_39 (by decide) ?_
          refine j_icmp_le (tgt := 48) hE hf dX12_fall_41 (by decide) (fun c9 hf => ?_) (fun c9 hf => ?_)
          · refine j_aload_n hE dX12_fall_48 rfl 0 rfl ?_
            obtain ⟨q10, hc11, hf⟩ := bind_of hf
            refine j_callV (ws' := ([n_Mo g a q10 mo_y] : List va_W)) (As := []) (rest := []) (st2 := []) hE (fun l => c_Mo_knows l g a (up2 mo_z 0 0 0) mo_y q10 hc11) cd_X12_knows cv_X12_knows ml_Mo_255 rfl rfl rfl (wg_Mo_0 _ _ _ _) ⟨⟨Nat.le_of_ble_eq_true rfl, Nat.le_of_ble_eq_true rfl⟩, ⟨Nat.zero_le _, Nat.zero_le _⟩, rfl, rfl⟩ [0] rfl rfl rfl (Nat.le_of_ble_eq_true rfl) rfl dX12_fall_49 ?_
            refine j_aload_n hE dX12_fall_52 rfl 0 rfl ?_
            refine j_get (v := .ref (a 8)) hE lg_Mo_34 0 rfl 0 (wg_Mo_0 g a q10 mo_y) rfl dX12_fall_53 ?_
            refine j_iload_n hE dX12_fall_56 rfl 1 rfl ?_
            refine j_iald hE hf 0 rfl 8 (wg_Mo_8 g a q10 mo_y) dX12_fall_57 (fun hf => ?_)
            refine j_istore_n (lv' := [(3, .int (q10 11 (Int32.toNatClampNeg x1))), (0, .ref (a 0)), (1, .int x1), (2, .int x2)]) hE dX12_fall_58 rfl (by decide) rfl ?_
            refine j_aload_n hE dX12_fall_59 rfl 1 rfl ?_
            refine j_iload_n hE dX12_fall_60 rfl 2 rfl ?_
            refine j_iload_n hE dX12_fall_61 rfl 0 rfl ?_
            obtain ⟨q13, hc14, hf⟩ := bind_of hf
            refine j_callV (ws' := ([n_Mo g a q10 mo_y] : List va_W)) (As := [.int x1, .int (q10 11 (Int32.toNatClampNeg x1))]) (rest := []) (st2 := [.int q13]) hE (fun l => c_Mo_isSix l g a q10 mo_y x1 (q10 11 (Int32.toNatClampNeg x1)) q13 hc14) cd_X12_isSix cv_X12_isSix ml_Mo_346 rfl rfl rfl (wg_Mo_0 _ _ _ _) ⟨⟨Nat.le_of_ble_eq_true rfl, Nat.le_of_ble_eq_true rfl⟩, ⟨Nat.zero_le _, Nat.zero_le _⟩, rfl, rfl⟩ [0] rfl rfl rfl (Nat.le_of_ble_eq_true rfl) rfl dX12_fall_62 ?_
            refine j_if_ne (tgt := 72) hE hf dX12_fall_65 (by decide) (fun c15 hf => ?_) (fun c15 hf => ?_)
            · refine j_aload_n hE dX12_fall_72 rfl 1 rfl ?_
              refine j_iload_n hE dX12_fall_73 rfl 2 rfl ?_
              refine j_iload_n hE dX12_fall_74 rfl 0 rfl ?_
              refine j_iconst (v := 3) hE dX12_fall_75 (by decide) ?_
              refine j_isub hE dX12_fall_76 ?_
              obtain ⟨q16, hc17, hf⟩ := bind_of hf
              refine j_callV (ws' := ([n_Mo g a q10 mo_y] : List va_W)) (As := [.int x1, .int ((q10 11 (Int32.toNatClampNeg x1)) - 3)]) (rest := []) (st2 := [.int q16]) hE (fun l => c_Mo_sumOf l g a q10 mo_y x1 ((q10 11 (Int32.toNatClampNeg x1)) - 3) q16 hc17) cd_X12_sumOf cv_X12_sumOf ml_Mo_337 rfl rfl rfl (wg_Mo_0 _ _ _ _) ⟨⟨Nat.le_of_ble_eq_true rfl, Nat.le_of_ble_eq_true rfl⟩, ⟨Nat.zero_le _, Nat.zero_le _⟩, rfl, rfl⟩ [0] rfl rfl rfl (Nat.le_of_ble_eq_true rfl) rfl dX12_fall_77 ?_
              refine j_istore (lv' := [(4, .int q16), (3, .int (q10 11 (Int32.toNatClampNeg x1))), (0, .ref (a 0)), (1, .int x1), (2, .int x2)]) hE dX12_fall_80 (by decide) rfl ?_
              refine j_aload_n hE dX12_fall_82 rfl 2 rfl ?_
              refine j_iload_n hE dX12_fall_83 rfl 3 rfl ?_
              refine j_iload_n hE dX12_fall_84 rfl 1 rfl ?_
              obtain ⟨q18, hc19, hf⟩ := bind_of hf
              refine j_callV (ws' := ([n_Mo g a q10 mo_y] : List va_W)) (As := [.int x1, .int (q10 11 (Int32.toNatClampNeg x1))]) (rest := []) (st2 := [.int q18]) hE (fun l => c_Mo_sumOf l g a q10 mo_y x1 (q10 11 (Int32.toNatClampNeg x1)) q18 hc19) cd_X12_sumOf cv_X12_sumOf ml_Mo_337 rfl rfl rfl (wg_Mo_0 _ _ _ _) ⟨⟨Nat.le_of_ble_eq_true rfl, Nat.le_of_ble_eq_true rfl⟩, ⟨Nat.zero_le _, Nat.zero_le _⟩, rfl, rfl⟩ [0] rfl rfl rfl (Nat.le_of_ble_eq_true rfl) rfl dX12_fall_85 ?_
              refine j_istore (lv' := [(5, .int q18), (4, .int q16), (3, .int (q10 11 (Int32.toNatClampNeg x1))), (0, .ref (a 0)), (1, .int x1), (2, .int x2)]) hE dX12_fall_88 (by decide) rfl ?_
              refine j_aload_n hE dX12_fall_90 rfl 3 rfl ?_
              refine j_iload_n hE dX12_fall_91 rfl 4 rfl ?_
              refine j_iload_n hE dX12_fall_92 rfl 2 rfl ?_
              refine j_iconst (v := 3) hE dX12_fall_93 (by decide) ?_
              refine j_isub hE dX12_fall_94 ?_
              refine j_iload_n hE dX12_fall_95 rfl 2 rfl ?_
              refine j_iconst (v := 1) hE dX12_fall_96 (by decide) ?_
              refine j_isub hE dX12_fall_97 ?_
              obtain ⟨q20, hc21, hf⟩ := bind_of hf
              refine j_callV (ws' := ([n_Mo g a q10 q20] : List va_W)) (As := [.int x1, .int ((q10 11 (Int32.toNatClampNeg x1)) - 3), .int ((q10 11 (Int32.toNatClampNeg x1)) - 1)]) (rest := []) (st2 := []) hE (fun l => c_Mo_rates l g a q10 mo_y x1 ((q10 11 (Int32.toNatClampNeg x1)) - 3) ((q10 11 (Int32.toNatClampNeg x1)) - 1) q20 hc21) cd_X12_rates cv_X12_rates ml_Mo_294 rfl rfl rfl (wg_Mo_0 _ _ _ _) ⟨⟨Nat.le_of_ble_eq_true rfl, Nat.le_of_ble_eq_true rfl⟩, ⟨Nat.zero_le _, Nat.zero_le _⟩, rfl, rfl⟩ [0] rfl rfl rfl (Nat.le_of_ble_eq_true rfl) rfl dX12_fall_98 ?_
              refine j_aload_n hE dX12_fall_101 rfl 3 rfl ?_
              refine j_get (v := .long (q20 46 0)) hE lg_Mo_271 0 rfl 0 (wg_Mo_0 g a q10 q20) rfl dX12_fall_102 ?_
              refine j_lconst (v := 0) hE dX12_fall_105 (by decide) ?_
              refine j_lcmp hE dX12_fall_106 ?_
              refine j_if_ne (tgt := 119) hE hf dX12_fall_107 (by decide) (fun c22 hf => ?_) (fun c22 hf => ?_)
              · refine j_ldc2 hE co_Mo_349 dX12_fall_119 ?_
                refine j_aload_n hE dX12_fall_122 rfl 3 rfl ?_
                refine j_get (v := .long (q20 45 0)) hE lg_Mo_267 0 rfl 0 (wg_Mo_0 g a q10 q20) rfl dX12_fall_123 ?_
                refine j_lmul hE dX12_fall_126 ?_
                refine j_aload_n hE dX12_fall_127 rfl 3 rfl ?_
                refine j_get (v := .long (q20 46 0)) hE lg_Mo_271 0 rfl 0 (wg_Mo_0 g a q10 q20) rfl dX12_fall_128 ?_
                refine j_ldiv hE hf dX12_fall_131 (fun hf => ?_)
                refine j_l2i hE dX12_fall_132 ?_
                exact j_sub [3, 4, 5, 2, 1, 0] rfl (j_Mo_fall_133 E g a x1 x2 res hE hq q10 q20 (q10 11 (Int32.toNatClampNeg x1)) q16 q18 (Int64.toInt32 ((3000 * (q20 45 0)) / (q20 46 0))) hf)
              · refine j_sipush (v := 1000) hE dX12_fall_110 (by decide) ?_
                refine j_iload hE dX12_fall_113 1 rfl ?_
                refine j_imul hE dX12_fall_115 ?_
                refine j_goto (tgt := 133) hE dX12_fall_116 (by decide) ?_
                exact j_sub [3, 4, 5, 2, 1, 0] rfl (j_Mo_fall_133 E g a x1 x2 res hE hq q10 q20 (q10 11 (Int32.toNatClampNeg x1)) q16 q18 (1000 * q16) hf)
            · refine j_ldcw hE co_Mo_298 dX12_fall_68 ?_
              obtain rfl := Option.some.inj hf
              exact j_iret hE hq rfl rfl dX12_fall_71
          · refine j_ldcw hE co_Mo_298 dX12_fall_44 ?_
            obtain rfl := Option.some.inj hf
            exact j_iret hE hq rfl rfl dX12_fall_47
def rm_Mo_lots : Room := { frames := 3, cells := 0, slots := 0, locals := 69 }
def f_Mo_lots_22  (x1 : Int32) (x2 : Int32)  : Nat → jZ → Int32 → Option (jZ)
  | 0, _, _ => none
  | n + 1, mo_z, v3 => (if (mo_z 4 0) ≤ v3 then some mo_z
    else (ix v3 24).bind fun _ => (if (mo_z 10 (Int32.toNatClampNeg v3)) = 0 then f_Mo_lots_22 x1 x2 n mo_z (v3 + 1)
    else (ix v3 24).bind fun _ => (if (mo_z 9 (Int32.toNatClampNeg v3)) = x1 then (f_Mo_isSix mo_z v3 x2).bind fun q6 => (if q6 = 0 then f_Mo_lots_22 x1 x2 n mo_z (v3 + 1)
    else (f_Mo_sumOf mo_z v3 (x2 - 3)).bind fun q9 => (f_Mo_sumOf mo_z v3 x2).bind fun q11 => (ix v3 24).bind fun _ => (if (mo_z 11 (Int32.toNatClampNeg v3)) = x2 then f_Mo_lots_22 x1 x2 n (up2 (up2 mo_z 52 0 ((mo_z 52 0) + (q9 - q11))) 53 0 ((mo_z 53 0) + 1)) (v3 + 1)
    else (f_Mo_isWithout mo_z v3 x2).bind fun q15 => (if q15 = 0 then f_Mo_lots_22 x1 x2 n mo_z (v3 + 1)
    else f_Mo_lots_22 x1 x2 n (up2 (up2 mo_z 54 0 ((mo_z 54 0) + (q9 - q11))) 55 0 ((mo_z 55 0) + 1)) (v3 + 1))))
    else f_Mo_lots_22 x1 x2 n mo_z (v3 + 1))))
def f_Mo_lots (mo_z : jZ) (x1 : Int32) (x2 : Int32) : Option (jZ) := f_Mo_lots_22 x1 x2 FU (up2 (up2 (up2 (up2 mo_z 52 0 0) 53 0 0) 54 0 0) 55 0 0) 0
set_option maxRecDepth 100000 in
theorem j_Mo_lots_22 (E : jT) (g : jG) (a : Nat → Nat) (mo_y : jY) (x1 : Int32) (x2 : Int32) (res : jZ) (hE : jOk E g RX12 cX12_lots 5 (none : Option Jvm.ClassFile.FieldType) rm_Mo_lots) (hq : jEnd E g none (([n_Mo g a res mo_y] : List va_W)) 0 0)  : ∀ (n : Nat) (mo_z : jZ) (v3 : Int32), f_Mo_lots_22 x1 x2 n mo_z v3 = some res → J E g 0 0 (([n_Mo g a mo_z mo_y] : List va_W)) [(0, .ref (a 0)), (1, .int x1), (2, .int x2), (3, .int v3)] 22 [] := by
  intro n
  induction n with
  | zero =>
    intro mo_z v3 hf
    rw [f_Mo_lots_22] at hf
    cases hf
  | succ n ih =>
    intro mo_z v3 hf
    rw [f_Mo_lots_22] at hf
    refine j_iload_n hE dX12_lots_22 rfl 3 rfl ?_
    refine j_aload_n hE dX12_lots_23 rfl 0 rfl ?_
    refine j_get (v := .int (mo_z 4 0)) hE lg_Mo_240 0 rfl 0 (wg_Mo_0 g a mo_z mo_y) rfl dX12_lots_24 ?_
    refine j_icmp_ge (tgt := 148) hE hf dX12_lots_27 (by decide) (fun c1 hf => ?_) (fun c1 hf => ?_)
    · obtain rfl := Option.some.inj hf
      exact j_vret hE hq rfl rfl dX12_lots_148
    · refine j_aload_n hE dX12_lots_30 rfl 0 rfl ?_
      refine j_get (v := .ref (a 7)) hE lg_Mo_30 0 rfl 0 (wg_Mo_0 g a mo_z mo_y) rfl dX12_lots_31 ?_
      refine j_iload_n hE dX12_lots_34 rfl 3 rfl ?_
      refine j_zald hE hf 0 rfl 7 (wg_Mo_7 g a mo_z mo_y) dX12_lots_35 (fun hf => ?_)
      refine j_if_eq (tgt := 142) hE hf dX12_lots_36 (by decide) (fun c3 hf => ?_) (fun c3 hf => ?_)
      · refine j_iinc (v := (v3 + 1)) (lv' := [(3, .int (v3 + 1)), (0, .ref (a 0)), (1, .int x1), (2, .int x2)]) hE dX12_lots_142 3 rfl rfl (by decide) rfl ?_
        refine j_goto (tgt := 22) hE dX12_lots_145 (by decide) ?_
        exact j_sub [1, 2, 3, 0] rfl (ih mo_z (v3 + 1) hf)
      · refine j_aload_n hE dX12_lots_39 rfl 0 rfl ?_
        refine j_get (v := .ref (a 6)) hE lg_Mo_27 0 rfl 0 (wg_Mo_0 g a mo_z mo_y) rfl dX12_lots_40 ?_
        refine j_iload_n hE dX12_lots_43 rfl 3 rfl ?_
        refine j_iald hE hf 0 rfl 6 (wg_Mo_6 g a mo_z mo_y) dX12_lots_44 (fun hf => ?_)
        refine j_iload_n hE dX12_lots_45 rfl 1 rfl ?_
        refine j_icmp_ne (tgt := 142) hE hf dX12_lots_46 (by decide) (fun c5 hf => ?_) (fun c5 hf => ?_)
        · refine j_iinc (v := (v3 + 1)) (lv' := [(3, .int (v3 + 1)), (0, .ref (a 0)), (1, .int x1), (2, .int x2)]) hE dX12_lots_142 3 rfl rfl (by decide) rfl ?_
          refine j_goto (tgt := 22) hE dX12_lots_145 (by decide) ?_
          exact j_sub [1, 2, 3, 0] rfl (ih mo_z (v3 + 1) hf)
        · refine j_aload_n hE dX12_lots_49 rfl 0 rfl ?_
          refine j_iload_n hE dX12_lots_50 rfl 3 rfl ?_
          refine j_iload_n hE dX12_lots_51 rfl 2 rfl ?_
          obtain ⟨q6, hc7, hf⟩ := bind_of hf
          refine j_callV (ws' := ([n_Mo g a mo_z mo_y] : List va_W)) (As := [.int v3, .int x2]) (rest := []) (st2 := [.int q6]) hE (fun l => c_Mo_isSix l g a mo_z mo_y v3 x2 q6 hc7) cd_X12_isSix cv_X12_isSix ml_Mo_346 rfl rfl rfl (wg_Mo_0 _ _ _ _) ⟨⟨Nat.le_of_ble_eq_true rfl, Nat.le_of_ble_eq_true rfl⟩, ⟨Nat.zero_le _, Nat.zero_le _⟩, rfl, rfl⟩ [0] rfl rfl rfl (Nat.le_of_ble_eq_true rfl) rfl dX12_lots_52 ?_
          refine j_if_ne (tgt := 61) hE hf dX12_lots_55 (by decide) (fun c8 hf => ?_) (fun c8 hf => ?_)
          · refine j_aload_n hE dX12_lots_61 rfl 0 rfl ?_
            refine j_iload_n hE dX12_lots_62 rfl 3 rfl ?_
            refine j_iload_n hE dX12_lots_63 rfl 2 rfl ?_
            refine j_iconst (v := 3) hE dX12_lots_64 (by decide) ?_
            refine j_isub hE dX12_lots_65 ?_
            obtain ⟨q9, hc10, hf⟩ := bind_of hf
            refine j_callV (ws' := ([n_Mo g a mo_z mo_y] : List va_W)) (As := [.int v3, .int (x2 - 3)]) (rest := []) (st2 := [.int q9]) hE (fun l => c_Mo_sumOf l g a mo_z mo_y v3 (x2 - 3) q9 hc10) cd_X12_sumOf cv_X12_sumOf ml_Mo_337 rfl rfl rfl (wg_Mo_0 _ _ _ _) ⟨⟨Nat.le_of_ble_eq_true rfl, Nat.le_of_ble_eq_true rfl⟩, ⟨Nat.zero_le _, Nat.zero_le _⟩, rfl, rfl⟩ [0] rfl rfl rfl (Nat.le_of_ble_eq_true rfl) rfl dX12_lots_66 ?_
            refine j_aload_n hE dX12_lots_69 rfl 0 rfl ?_
            refine j_iload_n hE dX12_lots_70 rfl 3 rfl ?_
            refine j_iload_n hE dX12_lots_71 rfl 2 rfl ?_
            obtain ⟨q11, hc12, hf⟩ := bind_of hf
            refine j_callV (ws' := ([n_Mo g a mo_z mo_y] : List va_W)) (As := [.int v3, .int x2]) (rest := [.int q9]) (st2 := [.int q11, .int q9]) hE (fun l => c_Mo_sumOf l g a mo_z mo_y v3 x2 q11 hc12) cd_X12_sumOf cv_X12_sumOf ml_Mo_337 rfl rfl rfl (wg_Mo_0 _ _ _ _) ⟨⟨Nat.le_of_ble_eq_true rfl, Nat.le_of_ble_eq_true rfl⟩, ⟨Nat.zero_le _, Nat.zero_le _⟩, rfl, rfl⟩ [0] rfl rfl rfl (Nat.le_of_ble_eq_true rfl) rfl dX12_lots_72 ?_
            refine j_isub hE dX12_lots_75 ?_
            refine j_istore (lv' := [(4, .int (q9 - q11)), (0, .ref (a 0)), (1, .int x1), (2, .int x2), (3, .int v3)]) hE dX12_lots_76 (by decide) rfl ?_
            refine j_aload_n hE dX12_lots_78 rfl 1 rfl ?_
            refine j_get (v := .ref (a 8)) hE lg_Mo_34 0 rfl 0 (wg_Mo_0 g a mo_z mo_y) rfl dX12_lots_79 ?_
            refine j_iload_n hE dX12_lots_82 rfl 4 rfl ?_
            refine j_iald hE hf 0 rfl 8 (wg_Mo_8 g a mo_z mo_y) dX12_lots_83 (fun hf => ?_)
            refine j_iload_n hE dX12_lots_84 rfl 3 rfl ?_
            refine j_icmp_ne (tgt := 112) hE hf dX12_lots_85 (by decide) (fun c14 hf => ?_) (fun c14 hf => ?_)
            · refine j_aload_n hE dX12_lots_112 rfl 1 rfl ?_
              refine j_iload_n hE dX12_lots_113 rfl 4 rfl ?_
              refine j_iload_n hE dX12_lots_114 rfl 3 rfl ?_
              obtain ⟨q15, hc16, hf⟩ := bind_of hf
              refine j_callV (ws' := ([n_Mo g a mo_z mo_y] : List va_W)) (As := [.int v3, .int x2]) (rest := []) (st2 := [.int q15]) hE (fun l => c_Mo_isWithout l g a mo_z mo_y v3 x2 q15 hc16) cd_X12_isWithout cv_X12_isWithout ml_Mo_360 rfl rfl rfl (wg_Mo_0 _ _ _ _) ⟨⟨Nat.le_of_ble_eq_true rfl, Nat.le_of_ble_eq_true rfl⟩, ⟨Nat.zero_le _, Nat.zero_le _⟩, rfl, rfl⟩ [0] rfl rfl rfl (Nat.le_of_ble_eq_true rfl) rfl dX12_lots_115 ?_
              refine j_if_eq (tgt := 142) hE hf dX12_lots_118 (by decide) (fun c17 hf => ?_) (fun c17 hf => ?_)
              · refine j_iinc (v := (v3 + 1)) (lv' := [(3, .int (v3 + 1)), (4, .int (q9 - q11)), (0, .ref (a 0)), (1, .int x1), (2, .int x2)]) hE dX12_lots_142 4 rfl rfl (by decide) rfl ?_
                refine j_goto (tgt := 22) hE dX12_lots_145 (by decide) ?_
                exact j_sub [2, 3, 4, 0] rfl (ih mo_z (v3 + 1) hf)
              · refine j_aload_n hE dX12_lots_121 rfl 1 rfl ?_
                refine j_dup hE dX12_lots_122 rfl ?_
                refine j_get (v := .int (mo_z 54 0)) hE lg_Mo_369 0 rfl 0 (wg_Mo_0 g a mo_z mo_y) rfl dX12_lots_123 ?_
                refine j_iload hE dX12_lots_126 0 rfl ?_
                refine j_iadd hE dX12_lots_128 ?_
                refine j_put (v := .int ((mo_z 54 0) + (q9 - q11))) (ws' := ([n_Mo g a (up2 mo_z 54 0 ((mo_z 54 0) + (q9 - q11))) mo_y] : List va_W)) hE lp_Mo_369 0 rfl 0 (wg_Mo_0 g a mo_z mo_y) rfl rfl (Nat.le_of_ble_eq_true rfl) (wp_Mo_54 g a mo_z mo_y ((mo_z 54 0) + (q9 - q11))) rfl dX12_lots_129 ?_
                refine j_aload_n hE dX12_lots_132 rfl 1 rfl ?_
                refine j_dup hE dX12_lots_133 rfl ?_
                refine j_get (v := .int (mo_z 55 0)) hE lg_Mo_372 0 rfl 0 (wg_Mo_0 g a (up2 mo_z 54 0 ((mo_z 54 0) + (q9 - q11))) mo_y) rfl dX12_lots_134 ?_
                refine j_iconst (v := 1) hE dX12_lots_137 (by decide) ?_
                refine j_iadd hE dX12_lots_138 ?_
                refine j_put (v := .int ((mo_z 55 0) + 1)) (ws' := ([n_Mo g a (up2 (up2 mo_z 54 0 ((mo_z 54 0) + (q9 - q11))) 55 0 ((mo_z 55 0) + 1)) mo_y] : List va_W)) hE lp_Mo_372 0 rfl 0 (wg_Mo_0 g a (up2 mo_z 54 0 ((mo_z 54 0) + (q9 - q11))) mo_y) rfl rfl (Nat.le_of_ble_eq_true rfl) (wp_Mo_55 g a (up2 mo_z 54 0 ((mo_z 54 0) + (q9 - q11))) mo_y ((mo_z 55 0) + 1)) rfl dX12_lots_139 ?_
                refine j_iinc (v := (v3 + 1)) (lv' := [(3, .int (v3 + 1)), (4, .int (q9 - q11)), (0, .ref (a 0)), (1, .int x1), (2, .int x2)]) hE dX12_lots_142 4 rfl rfl (by decide) rfl ?_
                refine j_goto (tgt := 22) hE dX12_lots_145 (by decide) ?_
                exact j_sub [2, 3, 4, 0] rfl (ih (up2 (up2 mo_z 54 0 ((mo_z 54 0) + (q9 - q11))) 55 0 ((mo_z 55 0) + 1)) (v3 + 1) hf)
            · refine j_aload_n hE dX12_lots_88 rfl 1 rfl ?_
              refine j_dup hE dX12_lots_89 rfl ?_
              refine j_get (v := .int (mo_z 52 0)) hE lg_Mo_363 0 rfl 0 (wg_Mo_0 g a mo_z mo_y) rfl dX12_lots_90 ?_
              refine j_iload hE dX12_lots_93 0 rfl ?_
              refine j_iadd hE dX12_lots_95 ?_
              refine j_put (v := .int ((mo_z 52 0) + (q9 - q11))) (ws' := ([n_Mo g a (up2 mo_z 52 0 ((mo_z 52 0) + (q9 - q11))) mo_y] : List va_W)) hE lp_Mo_363 0 rfl 0 (wg_Mo_0 g a mo_z mo_y) rfl rfl (Nat.le_of_ble_eq_true rfl) (wp_Mo_52 g a mo_z mo_y ((mo_z 52 0) + (q9 - q11))) rfl dX12_lots_96 ?_
              refine j_aload_n hE dX12_lots_99 rfl 1 rfl ?_
              refine j_dup hE dX12_lots_100 rfl ?_
              refine j_get (v := .int (mo_z 53 0)) hE lg_Mo_366 0 rfl 0 (wg_Mo_0 g a (up2 mo_z 52 0 ((mo_z 52 0) + (q9 - q11))) mo_y) rfl dX12_lots_101 ?_
              refine j_iconst (v := 1) hE dX12_lots_104 (by decide) ?_
              refine j_iadd hE dX12_lots_105 ?_
              refine j_put (v := .int ((mo_z 53 0) + 1)) (ws' := ([n_Mo g a (up2 (up2 mo_z 52 0 ((mo_z 52 0) + (q9 - q11))) 53 0 ((mo_z 53 0) + 1)) mo_y] : List va_W)) hE lp_Mo_366 0 rfl 0 (wg_Mo_0 g a (up2 mo_z 52 0 ((mo_z 52 0) + (q9 - q11))) mo_y) rfl rfl (Nat.le_of_ble_eq_true rfl) (wp_Mo_53 g a (up2 mo_z 52 0 ((mo_z 52 0) + (q9 - q11))) mo_y ((mo_z 53 0) + 1)) rfl dX12_lots_106 ?_
              refine j_goto (tgt := 142) hE dX12_lots_109 (by decide) ?_
              refine j_iinc (v := (v3 + 1)) (lv' := [(3, .int (v3 + 1)), (4, .int (q9 - q11)), (0, .ref (a 0)), (1, .int x1), (2, .int x2)]) hE dX12_lots_142 4 rfl rfl (by decide) rfl ?_
              refine j_goto (tgt := 22) hE dX12_lots_145 (by decide) ?_
              exact j_sub [2, 3, 4, 0] rfl (ih (up2 (up2 mo_z 52 0 ((mo_z 52 0) + (q9 - q11))) 53 0 ((mo_z 53 0) + 1)) (v3 + 1) hf)
          · refine j_goto (tgt := 142) hE dX12_lots_58 (by decide) ?_
            refine j_iinc (v := (v3 + 1)) (lv' := [(3, .int (v3 + 1)), (0, .ref (a 0)), (1, .int x1), (2, .int x2)]) hE dX12_lots_142 3 rfl rfl (by decide) rfl ?_
            refine j_goto (tgt := 22) hE dX12_lots_145 (by decide) ?_
            exact j_sub [1, 2, 3, 0] rfl (ih mo_z (v3 + 1) hf)
set_option maxRecDepth 100000 in
theorem c_Mo_lots (l : Launch) (g : jG) (a : Nat → Nat) (mo_z : jZ) (mo_y : jY) (x1 : Int32) (x2 : Int32) (res : jZ) (hf : f_Mo_lots mo_z x1 x2 = some res) : MC l g yX12_lots cX12_lots 5 (none : Option Jvm.ClassFile.FieldType) rm_Mo_lots [.ref (a 0), .int x1, .int x2] (([n_Mo g a mo_z mo_y] : List va_W)) none (([n_Mo g a res mo_y] : List va_W)) 0 0 := by
  refine MC_of (own := RX12) (lv := [(0, .ref (a 0)), (1, .int x1), (2, .int x2)]) (by decide) rfl (Nat.le_of_ble_eq_true rfl) rfl rfl (fun E hE hq => ?_)
  unfold f_Mo_lots at hf
  refine j_aload_n hE dX12_lots_0 rfl 0 rfl ?_
  refine j_iconst (v := 0) hE dX12_lots_1 (by decide) ?_
  refine j_put (v := .int 0) (ws' := ([n_Mo g a (up2 mo_z 52 0 0) mo_y] : List va_W)) hE lp_Mo_363 0 rfl 0 (wg_Mo_0 g a mo_z mo_y) rfl rfl (Nat.le_of_ble_eq_true rfl) (wp_Mo_52 g a mo_z mo_y 0) rfl dX12_lots_2 ?_
  refine j_aload_n hE dX12_lots_5 rfl 0 rfl ?_
  refine j_iconst (v := 0) hE dX12_lots_6 (by decide) ?_
  refine j_put (v := .int 0) (ws' := ([n_Mo g a (up2 (up2 mo_z 52 0 0) 53 0 0) mo_y] : List va_W)) hE lp_Mo_366 0 rfl 0 (wg_Mo_0 g a (up2 mo_z 52 0 0) mo_y) rfl rfl (Nat.le_of_ble_eq_true rfl) (wp_Mo_53 g a (up2 mo_z 52 0 0) mo_y 0) rfl dX12_lots_7 ?_
  refine j_aload_n hE dX12_lots_10 rfl 0 rfl ?_
  refine j_iconst (v := 0) hE dX12_lots_11 (by decide) ?_
  refine j_put (v := .int 0) (ws' := ([n_Mo g a (up2 (up2 (up2 mo_z 52 0 0) 53 0 0) 54 0 0) mo_y] : List va_W)) hE lp_Mo_369 0 rfl 0 (wg_Mo_0 g a (up2 (up2 mo_z 52 0 0) 53 0 0) mo_y) rfl rfl (Nat.le_of_ble_eq_true rfl) (wp_Mo_54 g a (up2 (up2 mo_z 52 0 0) 53 0 0) mo_y 0) rfl dX12_lots_12 ?_
  refine j_aload_n hE dX12_lots_15 rfl 0 rfl ?_
  refine j_iconst (v := 0) hE dX12_lots_16 (by decide) ?_
  refine j_put (v := .int 0) (ws' := ([n_Mo g a (up2 (up2 (up2 (up2 mo_z 52 0 0) 53 0 0) 54 0 0) 55 0 0) mo_y] : List va_W)) hE lp_Mo_372 0 rfl 0 (wg_Mo_0 g a (up2 (up2 (up2 mo_z 52 0 0) 53 0 0) 54 0 0) mo_y) rfl rfl (Nat.le_of_ble_eq_true rfl) (wp_Mo_55 g a (up2 (up2 (up2 mo_z 52 0 0) 53 0 0) 54 0 0) mo_y 0) rfl dX12_lots_17 ?_
  refine j_iconst (v := 0) hE dX12_lots_20 (by decide) ?_
  refine j_istore_n (lv' := [(3, .int 0), (0, .ref (a 0)), (1, .int x1), (2, .int x2)]) hE dX12_lots_21 rfl (by decide) rfl ?_
  exact j_sub [1, 2, 3, 0] rfl (j_Mo_lots_22 E g a mo_y x1 x2 res hE hq FU (up2 (up2 (up2 (up2 mo_z 52 0 0) 53 0 0) 54 0 0) 55 0 0) 0 hf)
def rm_Mo_lot : Room := { frames := 4, cells := 0, slots := 0, locals := 93 }
def f_Mo_lot (mo_z : jZ) (mo_y : jY) (x1 : Int32) (x2 : Int32) (x3 : Int32) : Option (jZ × jY × Int32) := (if x1 < 0 then some ((up2 mo_z 0 0 0), mo_y, (-2147483648))
    else (if 9 < x1 then some ((up2 mo_z 0 0 0), mo_y, (-2147483648))
    else (if x2 < 3 then some ((up2 mo_z 0 0 0), mo_y, (-2147483648))
    else (if 6 < x2 then some ((up2 mo_z 0 0 0), mo_y, (-2147483648))
    else (if x3 < 0 then some ((up2 mo_z 0 0 0), mo_y, (-2147483648))
    else (if x3 ≤ 3 then (f_Mo_knows (up2 mo_z 0 0 0)).bind fun q7 => (f_Mo_lots q7 x1 x2).bind fun q9 => (if x3 ≤ 1 then (f_Mo_terms mo_y (((Int32.toInt64 (q9 52 0)) * (Int32.toInt64 (q9 55 0))) - ((Int32.toInt64 (q9 54 0)) * (Int32.toInt64 (q9 53 0)))) ((Int32.toInt64 (q9 53 0)) * (Int32.toInt64 (q9 55 0)))).bind fun q12 => (if x3 = 0 then some (q9, q12, (Int64.toInt32 (q12 45 0)))
    else some (q9, q12, (Int64.toInt32 (q12 46 0))))
    else (if x3 = 2 then some (q9, mo_y, (q9 53 0))
    else some (q9, mo_y, (q9 55 0))))
    else some ((up2 mo_z 0 0 0), mo_y, (-2147483648))))))))
set_option maxRecDepth 100000 in
theorem c_Mo_lot (l : Launch) (g : jG) (a : Nat → Nat) (mo_z : jZ) (mo_y : jY) (x1 : Int32) (x2 : Int32) (x3 : Int32) (res : jZ × jY × Int32) (hf : f_Mo_lot mo_z mo_y x1 x2 x3 = some res) : MC l g yX12_lot cX12_lot 4 (some .int) rm_Mo_lot [.ref (a 0), .int x1, .int x2, .int x3] (([n_Mo g a mo_z mo_y] : List va_W)) (some (.int res.2.2)) (([n_Mo g a res.1 res.2.1] : List va_W)) 0 0 := by
  refine MC_of (own := RX12) (lv := [(0, .ref (a 0)), (1, .int x1), (2, .int x2), (3, .int x3)]) (by decide) rfl (Nat.le_of_ble_eq_true rfl) rfl rfl (fun E hE hq => ?_)
  unfold f_Mo_lot at hf
  refine j_aload_n hE dX12_lot_0 rfl 0 rfl ?_
  refine j_iconst (v := 0) hE dX12_lot_1 (by decide) ?_
  refine j_put (v := .int 0) (ws' := ([n_Mo g a (up2 mo_z 0 0 0) mo_y] : List va_W)) hE lp_Mo_87 0 rfl 0 (wg_Mo_0 g a mo_z mo_y) rfl rfl (Nat.le_of_ble_eq_true rfl) (wp_Mo_0 g a mo_z mo_y 0) rfl dX12_lot_2 ?_
  refine j_iload_n hE dX12_lot_5 rfl 1 rfl ?_
  refine j_if_lt (tgt := 35) hE hf dX12_lot_6 (by decide) (fun c1 hf => ?_) (fun c1 hf => ?_)
  · refine j_ldcw hE co_Mo_298 dX12_lot_35 ?_
    obtain rfl := Option.some.inj hf
    exact j_iret hE hq rfl rfl dX12_lot_38
  · refine j_iload_n hE dX12_lot_9 rfl 1 rfl ?_
    refine j_bipush (v := 9) hE dX12_lot_10 (by decide) ?_
    refine j_icmp_gt (tgt := 35) hE hf dX12_lot_12 (by decide) (fun c2 hf => ?_) (fun c2 hf => ?_)
    · refine j_ldcw hE co_Mo_298 dX12_lot_35 ?_
      obtain rfl := Option.some.inj hf
      exact j_iret hE hq rfl rfl dX12_lot_38
    · refine j_iload_n hE dX12_lot_15 rfl 2 rfl ?_
      refine j_iconst (v := 3) hE dX12_lot_16 (by decide) ?_
      refine j_icmp_lt (tgt := 35) hE hf dX12_lot_17 (by decide) (fun c3 hf => ?_) (fun c3 hf => ?_)
      · refine j_ldcw hE co_Mo_298 dX12_lot_35 ?_
        obtain rfl := Option.some.inj hf
        exact j_iret hE hq rfl rfl dX12_lot_38
      · refine j_iload_n hE dX12_lot_20 rfl 2 rfl ?_
        refine j_bipush (v := 6) hE dX12_lot_21 (by decide) ?_
        refine j_icmp_gt (tgt := 35) hE hf dX12_lot_23 (by decide) (fun c4 hf => ?_) (fun c4 hf => ?_)
        · refine j_ldcw hE co_Mo_298 dX12_lot_35 ?_
          obtain rfl := Option.some.inj hf
          exact j_iret hE hq rfl rfl dX12_lot_38
        · refine j_iload_n hE dX12_lot_26 rfl 3 rfl ?_
          refine j_if_lt (tgt := 35) hE hf dX12_lot_27 (by decide) (fun c5 hf => ?_) (fun c5 hf => ?_)
          · refine j_ldcw hE co_Mo_298 dX12_lot_35 ?_
            obtain rfl := Option.some.inj hf
            exact j_iret hE hq rfl rfl dX12_lot_38
          · refine j_iload_n hE dX12_lot_30 rfl 3 rfl ?_
            refine j_iconst (v := 3) hE dX12_lot_31 (by decide) ?_
            refine j_icmp_le (tgt := 39) hE hf dX12_lot_32 (by decide) (fun c6 hf => ?_) (fun c6 hf => ?_)
            · refine j_aload_n hE dX12_lot_39 rfl 0 rfl ?_
              obtain ⟨q7, hc8, hf⟩ := bind_of hf
              refine j_callV (ws' := ([n_Mo g a q7 mo_y] : List va_W)) (As := []) (rest := []) (st2 := []) hE (fun l => c_Mo_knows l g a (up2 mo_z 0 0 0) mo_y q7 hc8) cd_X12_knows cv_X12_knows ml_Mo_255 rfl rfl rfl (wg_Mo_0 _ _ _ _) ⟨⟨Nat.le_of_ble_eq_true rfl, Nat.le_of_ble_eq_true rfl⟩, ⟨Nat.zero_le _, Nat.zero_le _⟩, rfl, rfl⟩ [0] rfl rfl rfl (Nat.le_of_ble_eq_true rfl) rfl dX12_lot_40 ?_
              refine j_aload_n hE dX12_lot_43 rfl 0 rfl ?_
              refine j_iload_n hE dX12_lot_44 rfl 1 rfl ?_
              refine j_iload_n hE dX12_lot_45 rfl 2 rfl ?_
              obtain ⟨q9, hc10, hf⟩ := bind_of hf
              refine j_callV (ws' := ([n_Mo g a q9 mo_y] : List va_W)) (As := [.int x1, .int x2]) (rest := []) (st2 := []) hE (fun l => c_Mo_lots l g a q7 mo_y x1 x2 q9 hc10) cd_X12_lots cv_X12_lots ml_Mo_375 rfl rfl rfl (wg_Mo_0 _ _ _ _) ⟨⟨Nat.le_of_ble_eq_true rfl, Nat.le_of_ble_eq_true rfl⟩, ⟨Nat.zero_le _, Nat.zero_le _⟩, rfl, rfl⟩ [0] rfl rfl rfl (Nat.le_of_ble_eq_true rfl) rfl dX12_lot_46 ?_
              refine j_iload_n hE dX12_lot_49 rfl 3 rfl ?_
              refine j_iconst (v := 1) hE dX12_lot_50 (by decide) ?_
              refine j_icmp_le (tgt := 71) hE hf dX12_lot_51 (by decide) (fun c11 hf => ?_) (fun c11 hf => ?_)
              · refine j_aload_n hE dX12_lot_71 rfl 0 rfl ?_
                refine j_aload_n hE dX12_lot_72 rfl 0 rfl ?_
                refine j_get (v := .int (q9 52 0)) hE lg_Mo_363 0 rfl 0 (wg_Mo_0 g a q9 mo_y) rfl dX12_lot_73 ?_
                refine j_i2l hE dX12_lot_76 ?_
                refine j_aload_n hE dX12_lot_77 rfl 0 rfl ?_
                refine j_get (v := .int (q9 55 0)) hE lg_Mo_372 0 rfl 0 (wg_Mo_0 g a q9 mo_y) rfl dX12_lot_78 ?_
                refine j_i2l hE dX12_lot_81 ?_
                refine j_lmul hE dX12_lot_82 ?_
                refine j_aload_n hE dX12_lot_83 rfl 0 rfl ?_
                refine j_get (v := .int (q9 54 0)) hE lg_Mo_369 0 rfl 0 (wg_Mo_0 g a q9 mo_y) rfl dX12_lot_84 ?_
                refine j_i2l hE dX12_lot_87 ?_
                refine j_aload_n hE dX12_lot_88 rfl 0 rfl ?_
                refine j_get (v := .int (q9 53 0)) hE lg_Mo_366 0 rfl 0 (wg_Mo_0 g a q9 mo_y) rfl dX12_lot_89 ?_
                refine j_i2l hE dX12_lot_92 ?_
                refine j_lmul hE dX12_lot_93 ?_
                refine j_lsub hE dX12_lot_94 ?_
                refine j_aload_n hE dX12_lot_95 rfl 0 rfl ?_
                refine j_get (v := .int (q9 53 0)) hE lg_Mo_366 0 rfl 0 (wg_Mo_0 g a q9 mo_y) rfl dX12_lot_96 ?_
                refine j_i2l hE dX12_lot_99 ?_
                refine j_aload_n hE dX12_lot_100 rfl 0 rfl ?_
                refine j_get (v := .int (q9 55 0)) hE lg_Mo_372 0 rfl 0 (wg_Mo_0 g a q9 mo_y) rfl dX12_lot_101 ?_
                refine j_i2l hE dX12_lot_104 ?_
                refine j_lmul hE dX12_lot_105 ?_
                obtain ⟨q12, hc13, hf⟩ := bind_of hf
                refine j_callV (ws' := ([n_Mo g a q9 q12] : List va_W)) (As := [.long (((Int32.toInt64 (q9 52 0)) * (Int32.toInt64 (q9 55 0))) - ((Int32.toInt64 (q9 54 0)) * (Int32.toInt64 (q9 53 0)))), .long ((Int32.toInt64 (q9 53 0)) * (Int32.toInt64 (q9 55 0)))]) (rest := []) (st2 := []) hE (fun l => c_Mo_terms l g a q9 mo_y (((Int32.toInt64 (q9 52 0)) * (Int32.toInt64 (q9 55 0))) - ((Int32.toInt64 (q9 54 0)) * (Int32.toInt64 (q9 53 0)))) ((Int32.toInt64 (q9 53 0)) * (Int32.toInt64 (q9 55 0))) q12 hc13) cd_X12_terms cv_X12_terms ml_Mo_284 rfl rfl rfl (wg_Mo_0 _ _ _ _) ⟨⟨Nat.le_of_ble_eq_true rfl, Nat.le_of_ble_eq_true rfl⟩, ⟨Nat.zero_le _, Nat.zero_le _⟩, rfl, rfl⟩ [0] rfl rfl rfl (Nat.le_of_ble_eq_true rfl) rfl dX12_lot_106 ?_
                refine j_iload_n hE dX12_lot_109 rfl 3 rfl ?_
                refine j_if_ne (tgt := 120) hE hf dX12_lot_110 (by decide) (fun c14 hf => ?_) (fun c14 hf => ?_)
                · refine j_aload_n hE dX12_lot_120 rfl 0 rfl ?_
                  refine j_get (v := .long (q12 46 0)) hE lg_Mo_271 0 rfl 0 (wg_Mo_0 g a q9 q12) rfl dX12_lot_121 ?_
                  refine j_l2i hE dX12_lot_124 ?_
                  obtain rfl := Option.some.inj hf
                  exact j_iret hE hq rfl rfl dX12_lot_125
                · refine j_aload_n hE dX12_lot_113 rfl 0 rfl ?_
                  refine j_get (v := .long (q12 45 0)) hE lg_Mo_267 0 rfl 0 (wg_Mo_0 g a q9 q12) rfl dX12_lot_114 ?_
                  refine j_goto (tgt := 124) hE dX12_lot_117 (by decide) ?_
                  refine j_l2i hE dX12_lot_124 ?_
                  obtain rfl := Option.some.inj hf
                  exact j_iret hE hq rfl rfl dX12_lot_125
              · refine j_iload_n hE dX12_lot_54 rfl 3 rfl ?_
                refine j_iconst (v := 2) hE dX12_lot_55 (by decide) ?_
                refine j_icmp_ne (tgt := 66) hE hf dX12_lot_56 (by decide) (fun c15 hf => ?_) (fun c15 hf => ?_)
                · refine j_aload_n hE dX12_lot_66 rfl 0 rfl ?_
                  refine j_get (v := .int (q9 55 0)) hE lg_Mo_372 0 rfl 0 (wg_Mo_0 g a q9 mo_y) rfl dX12_lot_67 ?_
                  obtain rfl := Option.some.inj hf
                  exact j_iret hE hq rfl rfl dX12_lot_70
                · refine j_aload_n hE dX12_lot_59 rfl 0 rfl ?_
                  refine j_get (v := .int (q9 53 0)) hE lg_Mo_366 0 rfl 0 (wg_Mo_0 g a q9 mo_y) rfl dX12_lot_60 ?_
                  refine j_goto (tgt := 70) hE dX12_lot_63 (by decide) ?_
                  obtain rfl := Option.some.inj hf
                  exact j_iret hE hq rfl rfl dX12_lot_70
            · refine j_ldcw hE co_Mo_298 dX12_lot_35 ?_
              obtain rfl := Option.some.inj hf
              exact j_iret hE hq rfl rfl dX12_lot_38
def rm_Mo_chose : Room := { frames := 3, cells := 0, slots := 0, locals := 69 }
def f_Mo_chose_41  (x1 : Int32) (x2 : Int32)  : Nat → jZ → jY → Int32 → Int32 → Int32 → Option (jZ × jY × Int32)
  | 0, _, _, _, _, _ => none
  | n + 1, mo_z, mo_y, v3, v4, v5 => (if (mo_z 4 0) ≤ v5 then (f_Mo_terms mo_y (Int32.toInt64 v3) (Int32.toInt64 v4)).bind fun q8 => (if x2 = 0 then some (mo_z, q8, (Int64.toInt32 (q8 45 0)))
    else some (mo_z, q8, (Int64.toInt32 (q8 46 0))))
    else (ix v5 24).bind fun _ => (if (mo_z 10 (Int32.toNatClampNeg v5)) = 0 then (ix v5 24).bind fun _ => (if (mo_z 11 (Int32.toNatClampNeg v5)) = x1 then (f_Mo_isSix mo_z v5 x1).bind fun q15 => (if q15 = 0 then f_Mo_chose_41 x1 x2 n mo_z mo_y v3 v4 (v5 + 1)
    else (f_Mo_sumOf mo_z v5 (x1 - 3)).bind fun q18 => (f_Mo_sumOf mo_z v5 x1).bind fun q20 => f_Mo_chose_41 x1 x2 n mo_z mo_y (v3 + (q18 - q20)) (v4 + 1) (v5 + 1))
    else f_Mo_chose_41 x1 x2 n mo_z mo_y v3 v4 (v5 + 1))
    else f_Mo_chose_41 x1 x2 n mo_z mo_y v3 v4 (v5 + 1)))
def f_Mo_chose (mo_z : jZ) (mo_y : jY) (x1 : Int32) (x2 : Int32) : Option (jZ × jY × Int32) := (if x1 < 3 then some ((up2 mo_z 0 0 0), mo_y, (-2147483648))
    else (if 6 < x1 then some ((up2 mo_z 0 0 0), mo_y, (-2147483648))
    else (if x2 < 0 then some ((up2 mo_z 0 0 0), mo_y, (-2147483648))
    else (if x2 ≤ 1 then (f_Mo_knows (up2 mo_z 0 0 0)).bind fun q5 => f_Mo_chose_41 x1 x2 FU q5 mo_y 0 0 0
    else some ((up2 mo_z 0 0 0), mo_y, (-2147483648))))))
set_option maxRecDepth 100000 in
theorem j_Mo_chose_41 (E : jT) (g : jG) (a : Nat → Nat)  (x1 : Int32) (x2 : Int32) (res : jZ × jY × Int32) (hE : jOk E g RX12 cX12_chose 6 (some .int) rm_Mo_chose) (hq : jEnd E g (some (.int res.2.2)) (([n_Mo g a res.1 res.2.1] : List va_W)) 0 0)  : ∀ (n : Nat) (mo_z : jZ) (mo_y : jY) (v3 : Int32) (v4 : Int32) (v5 : Int32), f_Mo_chose_41 x1 x2 n mo_z mo_y v3 v4 v5 = some res → J E g 0 0 (([n_Mo g a mo_z mo_y] : List va_W)) [(0, .ref (a 0)), (1, .int x1), (2, .int x2), (3, .int v3), (4, .int v4), (5, .int v5)] 41 [] := by
  intro n
  induction n with
  | zero =>
    intro mo_z mo_y v3 v4 v5 hf
    rw [f_Mo_chose_41] at hf
    cases hf
  | succ n ih =>
    intro mo_z mo_y v3 v4 v5 hf
    rw [f_Mo_chose_41] at hf
    refine j_iload hE dX12_chose_41 5 rfl ?_
    refine j_aload_n hE dX12_chose_43 rfl 0 rfl ?_
    refine j_get (v := .int (mo_z 4 0)) hE lg_Mo_240 0 rfl 0 (wg_Mo_0 g a mo_z mo_y) rfl dX12_chose_44 ?_
    refine j_icmp_ge (tgt := 113) hE hf dX12_chose_47 (by decide) (fun c7 hf => ?_) (fun c7 hf => ?_)
    · refine j_aload_n hE dX12_chose_113 rfl 0 rfl ?_
      refine j_iload_n hE dX12_chose_114 rfl 3 rfl ?_
      refine j_i2l hE dX12_chose_115 ?_
      refine j_iload hE dX12_chose_116 4 rfl ?_
      refine j_i2l hE dX12_chose_118 ?_
      obtain ⟨q8, hc9, hf⟩ := bind_of hf
      refine j_callV (ws' := ([n_Mo g a mo_z q8] : List va_W)) (As := [.long (Int32.toInt64 v3), .long (Int32.toInt64 v4)]) (rest := []) (st2 := []) hE (fun l => c_Mo_terms l g a mo_z mo_y (Int32.toInt64 v3) (Int32.toInt64 v4) q8 hc9) cd_X12_terms cv_X12_terms ml_Mo_284 rfl rfl rfl (wg_Mo_0 _ _ _ _) ⟨⟨Nat.le_of_ble_eq_true rfl, Nat.le_of_ble_eq_true rfl⟩, ⟨Nat.zero_le _, Nat.zero_le _⟩, rfl, rfl⟩ [0] rfl rfl rfl (Nat.le_of_ble_eq_true rfl) rfl dX12_chose_119 ?_
      refine j_iload_n hE dX12_chose_122 rfl 2 rfl ?_
      refine j_if_ne (tgt := 133) hE hf dX12_chose_123 (by decide) (fun c10 hf => ?_) (fun c10 hf => ?_)
      · refine j_aload_n hE dX12_chose_133 rfl 0 rfl ?_
        refine j_get (v := .long (q8 46 0)) hE lg_Mo_271 0 rfl 0 (wg_Mo_0 g a mo_z q8) rfl dX12_chose_134 ?_
        refine j_l2i hE dX12_chose_137 ?_
        obtain rfl := Option.some.inj hf
        exact j_iret hE hq rfl rfl dX12_chose_138
      · refine j_aload_n hE dX12_chose_126 rfl 0 rfl ?_
        refine j_get (v := .long (q8 45 0)) hE lg_Mo_267 0 rfl 0 (wg_Mo_0 g a mo_z q8) rfl dX12_chose_127 ?_
        refine j_goto (tgt := 137) hE dX12_chose_130 (by decide) ?_
        refine j_l2i hE dX12_chose_137 ?_
        obtain rfl := Option.some.inj hf
        exact j_iret hE hq rfl rfl dX12_chose_138
    · refine j_aload_n hE dX12_chose_50 rfl 0 rfl ?_
      refine j_get (v := .ref (a 7)) hE lg_Mo_30 0 rfl 0 (wg_Mo_0 g a mo_z mo_y) rfl dX12_chose_51 ?_
      refine j_iload hE dX12_chose_54 5 rfl ?_
      refine j_zald hE hf 0 rfl 7 (wg_Mo_7 g a mo_z mo_y) dX12_chose_56 (fun hf => ?_)
      refine j_if_ne (tgt := 107) hE hf dX12_chose_57 (by decide) (fun c12 hf => ?_) (fun c12 hf => ?_)
      · refine j_iinc (v := (v5 + 1)) (lv' := [(5, .int (v5 + 1)), (0, .ref (a 0)), (1, .int x1), (2, .int x2), (3, .int v3), (4, .int v4)]) hE dX12_chose_107 5 rfl rfl (by decide) rfl ?_
        refine j_goto (tgt := 41) hE dX12_chose_110 (by decide) ?_
        exact j_sub [1, 2, 3, 4, 5, 0] rfl (ih mo_z mo_y v3 v4 (v5 + 1) hf)
      · refine j_aload_n hE dX12_chose_60 rfl 0 rfl ?_
        refine j_get (v := .ref (a 8)) hE lg_Mo_34 0 rfl 0 (wg_Mo_0 g a mo_z mo_y) rfl dX12_chose_61 ?_
        refine j_iload hE dX12_chose_64 5 rfl ?_
        refine j_iald hE hf 0 rfl 8 (wg_Mo_8 g a mo_z mo_y) dX12_chose_66 (fun hf => ?_)
        refine j_iload_n hE dX12_chose_67 rfl 1 rfl ?_
        refine j_icmp_ne (tgt := 107) hE hf dX12_chose_68 (by decide) (fun c14 hf => ?_) (fun c14 hf => ?_)
        · refine j_iinc (v := (v5 + 1)) (lv' := [(5, .int (v5 + 1)), (0, .ref (a 0)), (1, .int x1), (2, .int x2), (3, .int v3), (4, .int v4)]) hE dX12_chose_107 5 rfl rfl (by decide) rfl ?_
          refine j_goto (tgt := 41) hE dX12_chose_110 (by decide) ?_
          exact j_sub [1, 2, 3, 4, 5, 0] rfl (ih mo_z mo_y v3 v4 (v5 + 1) hf)
        · refine j_aload_n hE dX12_chose_71 rfl 0 rfl ?_
          refine j_iload hE dX12_chose_72 5 rfl ?_
          refine j_iload_n hE dX12_chose_74 rfl 1 rfl ?_
          obtain ⟨q15, hc16, hf⟩ := bind_of hf
          refine j_callV (ws' := ([n_Mo g a mo_z mo_y] : List va_W)) (As := [.int v5, .int x1]) (rest := []) (st2 := [.int q15]) hE (fun l => c_Mo_isSix l g a mo_z mo_y v5 x1 q15 hc16) cd_X12_isSix cv_X12_isSix ml_Mo_346 rfl rfl rfl (wg_Mo_0 _ _ _ _) ⟨⟨Nat.le_of_ble_eq_true rfl, Nat.le_of_ble_eq_true rfl⟩, ⟨Nat.zero_le _, Nat.zero_le _⟩, rfl, rfl⟩ [0] rfl rfl rfl (Nat.le_of_ble_eq_true rfl) rfl dX12_chose_75 ?_
          refine j_if_ne (tgt := 84) hE hf dX12_chose_78 (by decide) (fun c17 hf => ?_) (fun c17 hf => ?_)
          · refine j_iload_n hE dX12_chose_84 rfl 3 rfl ?_
            refine j_aload_n hE dX12_chose_85 rfl 0 rfl ?_
            refine j_iload hE dX12_chose_86 5 rfl ?_
            refine j_iload_n hE dX12_chose_88 rfl 1 rfl ?_
            refine j_iconst (v := 3) hE dX12_chose_89 (by decide) ?_
            refine j_isub hE dX12_chose_90 ?_
            obtain ⟨q18, hc19, hf⟩ := bind_of hf
            refine j_callV (ws' := ([n_Mo g a mo_z mo_y] : List va_W)) (As := [.int v5, .int (x1 - 3)]) (rest := [.int v3]) (st2 := [.int q18, .int v3]) hE (fun l => c_Mo_sumOf l g a mo_z mo_y v5 (x1 - 3) q18 hc19) cd_X12_sumOf cv_X12_sumOf ml_Mo_337 rfl rfl rfl (wg_Mo_0 _ _ _ _) ⟨⟨Nat.le_of_ble_eq_true rfl, Nat.le_of_ble_eq_true rfl⟩, ⟨Nat.zero_le _, Nat.zero_le _⟩, rfl, rfl⟩ [0] rfl rfl rfl (Nat.le_of_ble_eq_true rfl) rfl dX12_chose_91 ?_
            refine j_aload_n hE dX12_chose_94 rfl 0 rfl ?_
            refine j_iload hE dX12_chose_95 5 rfl ?_
            refine j_iload_n hE dX12_chose_97 rfl 1 rfl ?_
            obtain ⟨q20, hc21, hf⟩ := bind_of hf
            refine j_callV (ws' := ([n_Mo g a mo_z mo_y] : List va_W)) (As := [.int v5, .int x1]) (rest := [.int q18, .int v3]) (st2 := [.int q20, .int q18, .int v3]) hE (fun l => c_Mo_sumOf l g a mo_z mo_y v5 x1 q20 hc21) cd_X12_sumOf cv_X12_sumOf ml_Mo_337 rfl rfl rfl (wg_Mo_0 _ _ _ _) ⟨⟨Nat.le_of_ble_eq_true rfl, Nat.le_of_ble_eq_true rfl⟩, ⟨Nat.zero_le _, Nat.zero_le _⟩, rfl, rfl⟩ [0] rfl rfl rfl (Nat.le_of_ble_eq_true rfl) rfl dX12_chose_98 ?_
            refine j_isub hE dX12_chose_101 ?_
            refine j_iadd hE dX12_chose_102 ?_
            refine j_istore_n (lv' := [(3, .int (v3 + (q18 - q20))), (0, .ref (a 0)), (1, .int x1), (2, .int x2), (4, .int v4), (5, .int v5)]) hE dX12_chose_103 rfl (by decide) rfl ?_
            refine j_iinc (v := (v4 + 1)) (lv' := [(4, .int (v4 + 1)), (3, .int (v3 + (q18 - q20))), (0, .ref (a 0)), (1, .int x1), (2, .int x2), (5, .int v5)]) hE dX12_chose_104 4 rfl rfl (by decide) rfl ?_
            refine j_iinc (v := (v5 + 1)) (lv' := [(5, .int (v5 + 1)), (4, .int (v4 + 1)), (3, .int (v3 + (q18 - q20))), (0, .ref (a 0)), (1, .int x1), (2, .int x2)]) hE dX12_chose_107 5 rfl rfl (by decide) rfl ?_
            refine j_goto (tgt := 41) hE dX12_chose_110 (by decide) ?_
            exact j_sub [3, 4, 5, 2, 1, 0] rfl (ih mo_z mo_y (v3 + (q18 - q20)) (v4 + 1) (v5 + 1) hf)
          · refine j_goto (tgt := 107) hE dX12_chose_81 (by decide) ?_
            refine j_iinc (v := (v5 + 1)) (lv' := [(5, .int (v5 + 1)), (0, .ref (a 0)), (1, .int x1), (2, .int x2), (3, .int v3), (4, .int v4)]) hE dX12_chose_107 5 rfl rfl (by decide) rfl ?_
            refine j_goto (tgt := 41) hE dX12_chose_110 (by decide) ?_
            exact j_sub [1, 2, 3, 4, 5, 0] rfl (ih mo_z mo_y v3 v4 (v5 + 1) hf)
set_option maxRecDepth 100000 in
theorem c_Mo_chose (l : Launch) (g : jG) (a : Nat → Nat) (mo_z : jZ) (mo_y : jY) (x1 : Int32) (x2 : Int32) (res : jZ × jY × Int32) (hf : f_Mo_chose mo_z mo_y x1 x2 = some res) : MC l g yX12_chose cX12_chose 6 (some .int) rm_Mo_chose [.ref (a 0), .int x1, .int x2] (([n_Mo g a mo_z mo_y] : List va_W)) (some (.int res.2.2)) (([n_Mo g a res.1 res.2.1] : List va_W)) 0 0 := by
  refine MC_of (own := RX12) (lv := [(0, .ref (a 0)), (1, .int x1), (2, .int x2)]) (by decide) rfl (Nat.le_of_ble_eq_true rfl) rfl rfl (fun E hE hq => ?_)
  unfold f_Mo_chose at hf
  refine j_aload_n hE dX12_chose_0 rfl 0 rfl ?_
  refine j_iconst (v := 0) hE dX12_chose_1 (by decide) ?_
  refine j_put (v := .int 0) (ws' := ([n_Mo g a (up2 mo_z 0 0 0) mo_y] : List va_W)) hE lp_Mo_87 0 rfl 0 (wg_Mo_0 g a mo_z mo_y) rfl rfl (Nat.le_of_ble_eq_true rfl) (wp_Mo_0 g a mo_z mo_y 0) rfl dX12_chose_2 ?_
  refine j_iload_n hE dX12_chose_5 rfl 1 rfl ?_
  refine j_iconst (v := 3) hE dX12_chose_6 (by decide) ?_
  refine j_icmp_lt (tgt := 25) hE hf dX12_chose_7 (by decide) (fun c1 hf => ?_) (fun c1 hf => ?_)
  · refine j_ldcw hE co_Mo_298 dX12_chose_25 ?_
    obtain rfl := Option.some.inj hf
    exact j_iret hE hq rfl rfl dX12_chose_28
  · refine j_iload_n hE dX12_chose_10 rfl 1 rfl ?_
    refine j_bipush (v := 6) hE dX12_chose_11 (by decide) ?_
    refine j_icmp_gt (tgt := 25) hE hf dX12_chose_13 (by decide) (fun c2 hf => ?_) (fun c2 hf => ?_)
    · refine j_ldcw hE co_Mo_298 dX12_chose_25 ?_
      obtain rfl := Option.some.inj hf
      exact j_iret hE hq rfl rfl dX12_chose_28
    · refine j_iload_n hE dX12_chose_16 rfl 2 rfl ?_
      refine j_if_lt (tgt := 25) hE hf dX12_chose_17 (by decide) (fun c3 hf => ?_) (fun c3 hf => ?_)
      · refine j_ldcw hE co_Mo_298 dX12_chose_25 ?_
        obtain rfl := Option.some.inj hf
        exact j_iret hE hq rfl rfl dX12_chose_28
      · refine j_iload_n hE dX12_chose_20 rfl 2 rfl ?_
        refine j_iconst (v := 1) hE dX12_chose_21 (by decide) ?_
        refine j_icmp_le (tgt := 29) hE hf dX12_chose_22 (by decide) (fun c4 hf => ?_) (fun c4 hf => ?_)
        · refine j_aload_n hE dX12_chose_29 rfl 0 rfl ?_
          obtain ⟨q5, hc6, hf⟩ := bind_of hf
          refine j_callV (ws' := ([n_Mo g a q5 mo_y] : List va_W)) (As := []) (rest := []) (st2 := []) hE (fun l => c_Mo_knows l g a (up2 mo_z 0 0 0) mo_y q5 hc6) cd_X12_knows cv_X12_knows ml_Mo_255 rfl rfl rfl (wg_Mo_0 _ _ _ _) ⟨⟨Nat.le_of_ble_eq_true rfl, Nat.le_of_ble_eq_true rfl⟩, ⟨Nat.zero_le _, Nat.zero_le _⟩, rfl, rfl⟩ [0] rfl rfl rfl (Nat.le_of_ble_eq_true rfl) rfl dX12_chose_30 ?_
          refine j_iconst (v := 0) hE dX12_chose_33 (by decide) ?_
          refine j_istore_n (lv' := [(3, .int 0), (0, .ref (a 0)), (1, .int x1), (2, .int x2)]) hE dX12_chose_34 rfl (by decide) rfl ?_
          refine j_iconst (v := 0) hE dX12_chose_35 (by decide) ?_
          refine j_istore (lv' := [(4, .int 0), (3, .int 0), (0, .ref (a 0)), (1, .int x1), (2, .int x2)]) hE dX12_chose_36 (by decide) rfl ?_
          refine j_iconst (v := 0) hE dX12_chose_38 (by decide) ?_
          refine j_istore (lv' := [(5, .int 0), (4, .int 0), (3, .int 0), (0, .ref (a 0)), (1, .int x1), (2, .int x2)]) hE dX12_chose_39 (by decide) rfl ?_
          exact j_sub [3, 4, 5, 2, 1, 0] rfl (j_Mo_chose_41 E g a x1 x2 res hE hq FU q5 mo_y 0 0 0 hf)
        · refine j_ldcw hE co_Mo_298 dX12_chose_25 ?_
          obtain rfl := Option.some.inj hf
          exact j_iret hE hq rfl rfl dX12_chose_28
def rm_Mo_window : Room := { frames := 1, cells := 0, slots := 0, locals := 22 }
def f_Mo_window_6 (mo_z : jZ) (x1 : Int32) (x2 : Int32) (x3 : Int32)  : Nat → Int32 → Int32 → Option (Int32)
  | 0, _, _ => none
  | n + 1, v4, v5 => (if x3 ≤ v5 then some v4
    else (f_Mo_countOf mo_z x1 (x2 + v5)).bind fun q2 => (if q2 = (-1) then some (-1)
    else f_Mo_window_6 mo_z x1 x2 x3 n (v4 + q2) (v5 + 1)))
def f_Mo_window (mo_z : jZ) (x1 : Int32) (x2 : Int32) (x3 : Int32) : Option (Int32) := f_Mo_window_6 mo_z x1 x2 x3 FU 0 0
set_option maxRecDepth 100000 in
theorem j_Mo_window_6 (E : jT) (g : jG) (a : Nat → Nat) (mo_z : jZ) (mo_y : jY) (x1 : Int32) (x2 : Int32) (x3 : Int32) (res : Int32) (hE : jOk E g RX12 cX12_window 7 (some .int) rm_Mo_window) (hq : jEnd E g (some (.int res)) (([n_Mo g a mo_z mo_y] : List va_W)) 0 0)  : ∀ (n : Nat) (v4 : Int32) (v5 : Int32), f_Mo_window_6 mo_z x1 x2 x3 n v4 v5 = some res → J E g 0 0 (([n_Mo g a mo_z mo_y] : List va_W)) [(0, .ref (a 0)), (1, .int x1), (2, .int x2), (3, .int x3), (4, .int v4), (5, .int v5)] 6 [] := by
  intro n
  induction n with
  | zero =>
    intro v4 v5 hf
    rw [f_Mo_window_6] at hf
    cases hf
  | succ n ih =>
    intro v4 v5 hf
    rw [f_Mo_window_6] at hf
    refine j_iload hE dX12_window_6 5 rfl ?_
    refine j_iload_n hE dX12_window_8 rfl 3 rfl ?_
    refine j_icmp_ge (tgt := 44) hE hf dX12_window_9 (by decide) (fun c1 hf => ?_) (fun c1 hf => ?_)
    · refine j_iload hE dX12_window_44 4 rfl ?_
      obtain rfl := Option.some.inj hf
      exact j_iret hE hq rfl rfl dX12_window_46
    · refine j_aload_n hE dX12_window_12 rfl 0 rfl ?_
      refine j_iload_n hE dX12_window_13 rfl 1 rfl ?_
      refine j_iload_n hE dX12_window_14 rfl 2 rfl ?_
      refine j_iload hE dX12_window_15 5 rfl ?_
      refine j_iadd hE dX12_window_17 ?_
      obtain ⟨q2, hc3, hf⟩ := bind_of hf
      refine j_callV (ws' := ([n_Mo g a mo_z mo_y] : List va_W)) (As := [.int x1, .int (x2 + v5)]) (rest := []) (st2 := [.int q2]) hE (fun l => c_Mo_countOf l g a mo_z mo_y x1 (x2 + v5) q2 hc3) cd_X12_countOf cv_X12_countOf ml_Mo_258 rfl rfl rfl (wg_Mo_0 _ _ _ _) ⟨⟨Nat.le_of_ble_eq_true rfl, Nat.le_of_ble_eq_true rfl⟩, ⟨Nat.zero_le _, Nat.zero_le _⟩, rfl, rfl⟩ [0] rfl rfl rfl (Nat.le_of_ble_eq_true rfl) rfl dX12_window_18 ?_
      refine j_istore (lv' := [(6, .int q2), (0, .ref (a 0)), (1, .int x1), (2, .int x2), (3, .int x3), (4, .int v4), (5, .int v5)]) hE dX12_window_21 (by decide) rfl ?_
      refine j_iload hE dX12_window_23 0 rfl ?_
      refine j_iconst (v := (-1)) hE dX12_window_25 (by decide) ?_
      refine j_icmp_ne (tgt := 31) hE hf dX12_window_26 (by decide) (fun c4 hf => ?_) (fun c4 hf => ?_)
      · refine j_iload hE dX12_window_31 5 rfl ?_
        refine j_iload hE dX12_window_33 0 rfl ?_
        refine j_iadd hE dX12_window_35 ?_
        refine j_istore (lv' := [(4, .int (v4 + q2)), (6, .int q2), (0, .ref (a 0)), (1, .int x1), (2, .int x2), (3, .int x3), (5, .int v5)]) hE dX12_window_36 (by decide) rfl ?_
        refine j_iinc (v := (v5 + 1)) (lv' := [(5, .int (v5 + 1)), (4, .int (v4 + q2)), (6, .int q2), (0, .ref (a 0)), (1, .int x1), (2, .int x2), (3, .int x3)]) hE dX12_window_38 6 rfl rfl (by decide) rfl ?_
        refine j_goto (tgt := 6) hE dX12_window_41 (by decide) ?_
        exact j_sub [3, 4, 5, 6, 1, 0] rfl (ih (v4 + q2) (v5 + 1) hf)
      · refine j_iconst (v := (-1)) hE dX12_window_29 (by decide) ?_
        obtain rfl := Option.some.inj hf
        exact j_iret hE hq rfl rfl dX12_window_30
set_option maxRecDepth 100000 in
theorem c_Mo_window (l : Launch) (g : jG) (a : Nat → Nat) (mo_z : jZ) (mo_y : jY) (x1 : Int32) (x2 : Int32) (x3 : Int32) (res : Int32) (hf : f_Mo_window mo_z x1 x2 x3 = some res) : MC l g yX12_window cX12_window 7 (some .int) rm_Mo_window [.ref (a 0), .int x1, .int x2, .int x3] (([n_Mo g a mo_z mo_y] : List va_W)) (some (.int res)) (([n_Mo g a mo_z mo_y] : List va_W)) 0 0 := by
  refine MC_of (own := RX12) (lv := [(0, .ref (a 0)), (1, .int x1), (2, .int x2), (3, .int x3)]) (by decide) rfl (Nat.le_of_ble_eq_true rfl) rfl rfl (fun E hE hq => ?_)
  unfold f_Mo_window at hf
  refine j_iconst (v := 0) hE dX12_window_0 (by decide) ?_
  refine j_istore (lv' := [(4, .int 0), (0, .ref (a 0)), (1, .int x1), (2, .int x2), (3, .int x3)]) hE dX12_window_1 (by decide) rfl ?_
  refine j_iconst (v := 0) hE dX12_window_3 (by decide) ?_
  refine j_istore (lv' := [(5, .int 0), (4, .int 0), (0, .ref (a 0)), (1, .int x1), (2, .int x2), (3, .int x3)]) hE dX12_window_4 (by decide) rfl ?_
  exact j_sub [2, 3, 4, 5, 1, 0] rfl (j_Mo_window_6 E g a mo_z mo_y x1 x2 x3 res hE hq FU 0 0 hf)
def rm_Mo_house : Room := { frames := 2, cells := 0, slots := 0, locals := 48 }
def f_Mo_house_166  (x1 : Int32) (x2 : Int32) (k66 : jZ → Int32 → Int32 → Int32 → Int32 → Int32 → Int32 → Int32 → Option (jZ × Int32)) (k75 : jZ → Int32 → Int32 → Int32 → Int32 → Int32 → Int32 → Int32 → Int32 → Option (jZ × Int32)) (k87 : jZ → Int32 → Int32 → Int32 → Int32 → Int32 → Int32 → Int32 → Int32 → Int32 → Option (jZ × Int32)) (mo_z : jZ) (v3 : Int32) (v4 : Int32) (v6 : Int32) (v7 : Int32) (v8 : Int32) (v9 : Int32) (v10 : Int32) (v11 : Int32) (v14 : Int32) (s0 : Int32) : Option (jZ × Int32) := (if v4 < v14 then k87 mo_z v3 v14 s0 v9 v10 v11 v9 v10 (v11 + 1)
    else k87 mo_z v3 v4 s0 v6 v7 v8 v9 v10 (v11 + 1))
def f_Mo_house_87  (x1 : Int32) (x2 : Int32) (k66 : jZ → Int32 → Int32 → Int32 → Int32 → Int32 → Int32 → Int32 → Option (jZ × Int32)) (k75 : jZ → Int32 → Int32 → Int32 → Int32 → Int32 → Int32 → Int32 → Int32 → Option (jZ × Int32)) : Nat → jZ → Int32 → Int32 → Int32 → Int32 → Int32 → Int32 → Int32 → Int32 → Int32 → Option (jZ × Int32)
  | 0, _, _, _, _, _, _, _, _, _, _ => none
  | n + 1, mo_z, v3, v4, v5, v6, v7, v8, v9, v10, v11 => (if 9 < (v11 + v9) then k75 mo_z v3 v4 v5 v6 v7 v8 v9 (v10 + 1)
    else (f_Mo_window mo_z x1 v10 v9).bind fun q19 => (f_Mo_window mo_z x1 v11 v9).bind fun q21 => (if q19 ≤ 0 then f_Mo_house_87 x1 x2 k66 k75 n mo_z v3 v4 v5 v6 v7 v8 v9 v10 (v11 + 1)
    else (if q21 = (-1) then f_Mo_house_87 x1 x2 k66 k75 n mo_z v3 v4 v5 v6 v7 v8 v9 v10 (v11 + 1)
    else (nz q19).bind fun _ => (if v4 = (-2147483648) then f_Mo_house_166 x1 x2 k66 k75 (fun mo_z v3 v4 v5 v6 v7 v8 v9 v10 v11 => f_Mo_house_87 x1 x2 k66 k75 n mo_z v3 v4 v5 v6 v7 v8 v9 v10 v11) mo_z v3 v4 v6 v7 v8 v9 v10 v11 ((100 * (q19 - q21)) / q19) ((100 * (q19 - q21)) / q19)
    else f_Mo_house_166 x1 x2 k66 k75 (fun mo_z v3 v4 v5 v6 v7 v8 v9 v10 v11 => f_Mo_house_87 x1 x2 k66 k75 n mo_z v3 v4 v5 v6 v7 v8 v9 v10 v11) mo_z v3 v4 v6 v7 v8 v9 v10 v11 ((100 * (q19 - q21)) / q19) (if ((100 * (q19 - q21)) / q19) < v5 then ((100 * (q19 - q21)) / q19) else v5)))))
def f_Mo_house_75  (x1 : Int32) (x2 : Int32) (k66 : jZ → Int32 → Int32 → Int32 → Int32 → Int32 → Int32 → Int32 → Option (jZ × Int32)) : Nat → jZ → Int32 → Int32 → Int32 → Int32 → Int32 → Int32 → Int32 → Int32 → Option (jZ × Int32)
  | 0, _, _, _, _, _, _, _, _, _ => none
  | n + 1, mo_z, v3, v4, v5, v6, v7, v8, v9, v10 => (if v3 < (v10 + v9) then k66 mo_z v3 v4 v5 v6 v7 v8 (v9 + 1)
    else f_Mo_house_87 x1 x2 k66 (fun mo_z v3 v4 v5 v6 v7 v8 v9 v10 => f_Mo_house_75 x1 x2 k66 n mo_z v3 v4 v5 v6 v7 v8 v9 v10) FU mo_z v3 v4 v5 v6 v7 v8 v9 v10 v3)
def f_Mo_house_66  (x1 : Int32) (x2 : Int32)  : Nat → jZ → Int32 → Int32 → Int32 → Int32 → Int32 → Int32 → Int32 → Option (jZ × Int32)
  | 0, _, _, _, _, _, _, _, _ => none
  | n + 1, mo_z, v3, v4, v5, v6, v7, v8, v9 => (if 3 < v9 then (if v4 = (-2147483648) then some (mo_z, (-2147483648))
    else (if x2 = 0 then some (mo_z, v4)
    else (if x2 = 1 then some (mo_z, v5)
    else (if x2 = 2 then some (mo_z, v6)
    else (if x2 = 3 then some (mo_z, v7)
    else some (mo_z, v8))))))
    else f_Mo_house_75 x1 x2 (fun mo_z v3 v4 v5 v6 v7 v8 v9 => f_Mo_house_66 x1 x2 n mo_z v3 v4 v5 v6 v7 v8 v9) FU mo_z v3 v4 v5 v6 v7 v8 v9 0)
def f_Mo_house (mo_z : jZ) (x1 : Int32) (x2 : Int32) : Option (jZ × Int32) := (f_Mo_isPlace (up2 mo_z 0 0 0) x1).bind fun q1 => (if q1 = 0 then some ((up2 mo_z 0 0 0), (-2147483648))
    else (if x2 < 0 then some ((up2 mo_z 0 0 0), (-2147483648))
    else (if 4 < x2 then some ((up2 mo_z 0 0 0), (-2147483648))
    else (ix x1 24).bind fun _ => (if (mo_z 11 (Int32.toNatClampNeg x1)) = 0 then some ((up2 mo_z 0 0 0), (-2147483648))
    else (f_Mo_knows (up2 mo_z 0 0 0)).bind fun q8 => (ix x1 24).bind fun _ => f_Mo_house_66 x1 x2 FU q8 (q8 11 (Int32.toNatClampNeg x1)) (-2147483648) 0 0 0 0 1))))
set_option maxRecDepth 100000 in
theorem j_Mo_house_166 (E : jT) (g : jG) (a : Nat → Nat) (mo_y : jY) (x1 : Int32) (x2 : Int32) (res : jZ × Int32) (hE : jOk E g RX12 cX12_house 15 (some .int) rm_Mo_house) (hq : jEnd E g (some (.int res.2)) (([n_Mo g a res.1 mo_y] : List va_W)) 0 0) (k66 : jZ → Int32 → Int32 → Int32 → Int32 → Int32 → Int32 → Int32 → Option (jZ × Int32)) (hk66 : ∀ (mo_z : jZ) (v3 : Int32) (v4 : Int32) (v5 : Int32) (v6 : Int32) (v7 : Int32) (v8 : Int32) (v9 : Int32), k66 mo_z v3 v4 v5 v6 v7 v8 v9 = some res → J E g 0 0 (([n_Mo g a mo_z mo_y] : List va_W)) [(0, .ref (a 0)), (1, .int x1), (2, .int x2), (3, .int v3), (4, .int v4), (5, .int v5), (6, .int v6), (7, .int v7), (8, .int v8), (9, .int v9)] 66 []) (k75 : jZ → Int32 → Int32 → Int32 → Int32 → Int32 → Int32 → Int32 → Int32 → Option (jZ × Int32)) (hk75 : ∀ (mo_z : jZ) (v3 : Int32) (v4 : Int32) (v5 : Int32) (v6 : Int32) (v7 : Int32) (v8 : Int32) (v9 : Int32) (v10 : Int32), k75 mo_z v3 v4 v5 v6 v7 v8 v9 v10 = some res → J E g 0 0 (([n_Mo g a mo_z mo_y] : List va_W)) [(0, .ref (a 0)), (1, .int x1), (2, .int x2), (3, .int v3), (4, .int v4), (5, .int v5), (6, .int v6), (7, .int v7), (8, .int v8), (9, .int v9), (10, .int v10)] 75 []) (k87 : jZ → Int32 → Int32 → Int32 → Int32 → Int32 → Int32 → Int32 → Int32 → Int32 → Option (jZ × Int32)) (hk87 : ∀ (mo_z : jZ) (v3 : Int32) (v4 : Int32) (v5 : Int32) (v6 : Int32) (v7 : Int32) (v8 : Int32) (v9 : Int32) (v10 : Int32) (v11 : Int32), k87 mo_z v3 v4 v5 v6 v7 v8 v9 v10 v11 = some res → J E g 0 0 (([n_Mo g a mo_z mo_y] : List va_W)) [(0, .ref (a 0)), (1, .int x1), (2, .int x2), (3, .int v3), (4, .int v4), (5, .int v5), (6, .int v6), (7, .int v7), (8, .int v8), (9, .int v9), (10, .int v10), (11, .int v11)] 87 []) (mo_z : jZ) (v3 : Int32) (v4 : Int32) (v6 : Int32) (v7 : Int32) (v8 : Int32) (v9 : Int32) (v10 : Int32) (v11 : Int32) (v14 : Int32) (s0 : Int32) (hf : f_Mo_house_166 x1 x2 k66 k75 k87 mo_z v3 v4 v6 v7 v8 v9 v10 v11 v14 s0 = some res) : J E g 0 0 (([n_Mo g a mo_z mo_y] : List va_W)) [(0, .ref (a 0)), (1, .int x1), (2, .int x2), (3, .int v3), (4, .int v4), (6, .int v6), (7, .int v7), (8, .int v8), (9, .int v9), (10, .int v10), (11, .int v11), (14, .int v14)] 166 [.int s0] := by
  unfold f_Mo_house_166 at hf
  refine j_istore (lv' := [(5, .int s0), (0, .ref (a 0)), (1, .int x1), (2, .int x2), (3, .int v3), (4, .int v4), (6, .int v6), (7, .int v7), (8, .int v8), (9, .int v9), (10, .int v10), (11, .int v11), (14, .int v14)]) hE dX12_house_166 (by decide) rfl ?_
  refine j_iload hE dX12_house_168 12 rfl ?_
  refine j_iload hE dX12_house_170 5 rfl ?_
  refine j_icmp_gt (tgt := 178) hE hf dX12_house_172 (by decide) (fun c26 hf => ?_) (fun c26 hf => ?_)
  · refine j_iload hE dX12_house_178 12 rfl ?_
    refine j_istore (lv' := [(4, .int v14), (5, .int s0), (0, .ref (a 0)), (1, .int x1), (2, .int x2), (3, .int v3), (6, .int v6), (7, .int v7), (8, .int v8), (9, .int v9), (10, .int v10), (11, .int v11), (14, .int v14)]) hE dX12_house_180 (by decide) rfl ?_
    refine j_iload hE dX12_house_182 9 rfl ?_
    refine j_istore (lv' := [(6, .int v9), (4, .int v14), (5, .int s0), (0, .ref (a 0)), (1, .int x1), (2, .int x2), (3, .int v3), (7, .int v7), (8, .int v8), (9, .int v9), (10, .int v10), (11, .int v11), (14, .int v14)]) hE dX12_house_184 (by decide) rfl ?_
    refine j_iload hE dX12_house_186 10 rfl ?_
    refine j_istore (lv' := [(7, .int v10), (6, .int v9), (4, .int v14), (5, .int s0), (0, .ref (a 0)), (1, .int x1), (2, .int x2), (3, .int v3), (8, .int v8), (9, .int v9), (10, .int v10), (11, .int v11), (14, .int v14)]) hE dX12_house_188 (by decide) rfl ?_
    refine j_iload hE dX12_house_190 11 rfl ?_
    refine j_istore (lv' := [(8, .int v11), (7, .int v10), (6, .int v9), (4, .int v14), (5, .int s0), (0, .ref (a 0)), (1, .int x1), (2, .int x2), (3, .int v3), (9, .int v9), (10, .int v10), (11, .int v11), (14, .int v14)]) hE dX12_house_192 (by decide) rfl ?_
    refine j_iinc (v := (v11 + 1)) (lv' := [(11, .int (v11 + 1)), (8, .int v11), (7, .int v10), (6, .int v9), (4, .int v14), (5, .int s0), (0, .ref (a 0)), (1, .int x1), (2, .int x2), (3, .int v3), (9, .int v9), (10, .int v10), (14, .int v14)]) hE dX12_house_194 11 rfl rfl (by decide) rfl ?_
    refine j_goto (tgt := 87) hE dX12_house_197 (by decide) ?_
    exact j_sub [6, 7, 8, 9, 4, 5, 3, 2, 1, 10, 11, 0] rfl (hk87 mo_z v3 v14 s0 v9 v10 v11 v9 v10 (v11 + 1) hf)
  · refine j_goto (tgt := 194) hE dX12_house_175 (by decide) ?_
    refine j_iinc (v := (v11 + 1)) (lv' := [(11, .int (v11 + 1)), (5, .int s0), (0, .ref (a 0)), (1, .int x1), (2, .int x2), (3, .int v3), (4, .int v4), (6, .int v6), (7, .int v7), (8, .int v8), (9, .int v9), (10, .int v10), (14, .int v14)]) hE dX12_house_194 11 rfl rfl (by decide) rfl ?_
    refine j_goto (tgt := 87) hE dX12_house_197 (by decide) ?_
    exact j_sub [2, 3, 4, 5, 6, 1, 7, 8, 9, 10, 11, 0] rfl (hk87 mo_z v3 v4 s0 v6 v7 v8 v9 v10 (v11 + 1) hf)
set_option maxRecDepth 100000 in
theorem j_Mo_house_87 (E : jT) (g : jG) (a : Nat → Nat) (mo_y : jY) (x1 : Int32) (x2 : Int32) (res : jZ × Int32) (hE : jOk E g RX12 cX12_house 15 (some .int) rm_Mo_house) (hq : jEnd E g (some (.int res.2)) (([n_Mo g a res.1 mo_y] : List va_W)) 0 0) (k66 : jZ → Int32 → Int32 → Int32 → Int32 → Int32 → Int32 → Int32 → Option (jZ × Int32)) (hk66 : ∀ (mo_z : jZ) (v3 : Int32) (v4 : Int32) (v5 : Int32) (v6 : Int32) (v7 : Int32) (v8 : Int32) (v9 : Int32), k66 mo_z v3 v4 v5 v6 v7 v8 v9 = some res → J E g 0 0 (([n_Mo g a mo_z mo_y] : List va_W)) [(0, .ref (a 0)), (1, .int x1), (2, .int x2), (3, .int v3), (4, .int v4), (5, .int v5), (6, .int v6), (7, .int v7), (8, .int v8), (9, .int v9)] 66 []) (k75 : jZ → Int32 → Int32 → Int32 → Int32 → Int32 → Int32 → Int32 → Int32 → Option (jZ × Int32)) (hk75 : ∀ (mo_z : jZ) (v3 : Int32) (v4 : Int32) (v5 : Int32) (v6 : Int32) (v7 : Int32) (v8 : Int32) (v9 : Int32) (v10 : Int32), k75 mo_z v3 v4 v5 v6 v7 v8 v9 v10 = some res → J E g 0 0 (([n_Mo g a mo_z mo_y] : List va_W)) [(0, .ref (a 0)), (1, .int x1), (2, .int x2), (3, .int v3), (4, .int v4), (5, .int v5), (6, .int v6), (7, .int v7), (8, .int v8), (9, .int v9), (10, .int v10)] 75 []) : ∀ (n : Nat) (mo_z : jZ) (v3 : Int32) (v4 : Int32) (v5 : Int32) (v6 : Int32) (v7 : Int32) (v8 : Int32) (v9 : Int32) (v10 : Int32) (v11 : Int32), f_Mo_house_87 x1 x2 k66 k75 n mo_z v3 v4 v5 v6 v7 v8 v9 v10 v11 = some res → J E g 0 0 (([n_Mo g a mo_z mo_y] : List va_W)) [(0, .ref (a 0)), (1, .int x1), (2, .int x2), (3, .int v3), (4, .int v4), (5, .int v5), (6, .int v6), (7, .int v7), (8, .int v8), (9, .int v9), (10, .int v10), (11, .int v11)] 87 [] := by
  intro n
  induction n with
  | zero =>
    intro mo_z v3 v4 v5 v6 v7 v8 v9 v10 v11 hf
    rw [f_Mo_house_87] at hf
    cases hf
  | succ n ih =>
    intro mo_z v3 v4 v5 v6 v7 v8 v9 v10 v11 hf
    rw [f_Mo_house_87] at hf
    refine j_iload hE dX12_house_87 11 rfl ?_
    refine j_iload hE dX12_house_89 9 rfl ?_
    refine j_iadd hE dX12_house_91 ?_
    refine j_bipush (v := 9) hE dX12_house_92 (by decide) ?_
    refine j_icmp_gt (tgt := 200) hE hf dX12_house_94 (by decide) (fun c18 hf => ?_) (fun c18 hf => ?_)
    · refine j_iinc (v := (v10 + 1)) (lv' := [(10, .int (v10 + 1)), (0, .ref (a 0)), (1, .int x1), (2, .int x2), (3, .int v3), (4, .int v4), (5, .int v5), (6, .int v6), (7, .int v7), (8, .int v8), (9, .int v9), (11, .int v11)]) hE dX12_house_200 10 rfl rfl (by decide) rfl ?_
      refine j_goto (tgt := 75) hE dX12_house_203 (by decide) ?_
      exact j_sub [1, 2, 3, 4, 5, 6, 7, 8, 9, 10, 0] rfl (hk75 mo_z v3 v4 v5 v6 v7 v8 v9 (v10 + 1) hf)
    · refine j_aload_n hE dX12_house_97 rfl 0 rfl ?_
      refine j_iload_n hE dX12_house_98 rfl 1 rfl ?_
      refine j_iload hE dX12_house_99 10 rfl ?_
      refine j_iload hE dX12_house_101 9 rfl ?_
      obtain ⟨q19, hc20, hf⟩ := bind_of hf
      refine j_callV (ws' := ([n_Mo g a mo_z mo_y] : List va_W)) (As := [.int x1, .int v10, .int v9]) (rest := []) (st2 := [.int q19]) hE (fun l => c_Mo_window l g a mo_z mo_y x1 v10 v9 q19 hc20) cd_X12_window cv_X12_window ml_Mo_378 rfl rfl rfl (wg_Mo_0 _ _ _ _) ⟨⟨Nat.le_of_ble_eq_true rfl, Nat.le_of_ble_eq_true rfl⟩, ⟨Nat.zero_le _, Nat.zero_le _⟩, rfl, rfl⟩ [0] rfl rfl rfl (Nat.le_of_ble_eq_true rfl) rfl dX12_house_103 ?_
      refine j_istore (lv' := [(12, .int q19), (0, .ref (a 0)), (1, .int x1), (2, .int x2), (3, .int v3), (4, .int v4), (5, .int v5), (6, .int v6), (7, .int v7), (8, .int v8), (9, .int v9), (10, .int v10), (11, .int v11)]) hE dX12_house_106 (by decide) rfl ?_
      refine j_aload_n hE dX12_house_108 rfl 1 rfl ?_
      refine j_iload_n hE dX12_house_109 rfl 2 rfl ?_
      refine j_iload hE dX12_house_110 12 rfl ?_
      refine j_iload hE dX12_house_112 10 rfl ?_
      obtain ⟨q21, hc22, hf⟩ := bind_of hf
      refine j_callV (ws' := ([n_Mo g a mo_z mo_y] : List va_W)) (As := [.int x1, .int v11, .int v9]) (rest := []) (st2 := [.int q21]) hE (fun l => c_Mo_window l g a mo_z mo_y x1 v11 v9 q21 hc22) cd_X12_window cv_X12_window ml_Mo_378 rfl rfl rfl (wg_Mo_0 _ _ _ _) ⟨⟨Nat.le_of_ble_eq_true rfl, Nat.le_of_ble_eq_true rfl⟩, ⟨Nat.zero_le _, Nat.zero_le _⟩, rfl, rfl⟩ [0] rfl rfl rfl (Nat.le_of_ble_eq_true rfl) rfl dX12_house_114 ?_
      refine j_istore (lv' := [(13, .int q21), (12, .int q19), (0, .ref (a 0)), (1, .int x1), (2, .int x2), (3, .int v3), (4, .int v4), (5, .int v5), (6, .int v6), (7, .int v7), (8, .int v8), (9, .int v9), (10, .int v10), (11, .int v11)]) hE dX12_house_117 (by decide) rfl ?_
      refine j_iload hE dX12_house_119 1 rfl ?_
      refine j_if_le (tgt := 194) hE hf dX12_house_121 (by decide) (fun c23 hf => ?_) (fun c23 hf => ?_)
      · refine j_iinc (v := (v11 + 1)) (lv' := [(11, .int (v11 + 1)), (13, .int q21), (12, .int q19), (0, .ref (a 0)), (1, .int x1), (2, .int x2), (3, .int v3), (4, .int v4), (5, .int v5), (6, .int v6), (7, .int v7), (8, .int v8), (9, .int v9), (10, .int v10)]) hE dX12_house_194 13 rfl rfl (by decide) rfl ?_
        refine j_goto (tgt := 87) hE dX12_house_197 (by decide) ?_
        exact j_sub [3, 4, 5, 6, 7, 8, 9, 10, 11, 12, 13, 0] rfl (ih mo_z v3 v4 v5 v6 v7 v8 v9 v10 (v11 + 1) hf)
      · refine j_iload hE dX12_house_124 0 rfl ?_
        refine j_iconst (v := (-1)) hE dX12_house_126 (by decide) ?_
        refine j_icmp_ne (tgt := 133) hE hf dX12_house_127 (by decide) (fun c24 hf => ?_) (fun c24 hf => ?_)
        · refine j_bipush (v := 100) hE dX12_house_133 (by decide) ?_
          refine j_iload hE dX12_house_135 1 rfl ?_
          refine j_iload hE dX12_house_137 0 rfl ?_
          refine j_isub hE dX12_house_139 ?_
          refine j_imul hE dX12_house_140 ?_
          refine j_iload hE dX12_house_141 1 rfl ?_
          refine j_idiv hE hf dX12_house_143 (fun hf => ?_)
          refine j_istore (lv' := [(14, .int ((100 * (q19 - q21)) / q19)), (13, .int q21), (12, .int q19), (0, .ref (a 0)), (1, .int x1), (2, .int x2), (3, .int v3), (4, .int v4), (5, .int v5), (6, .int v6), (7, .int v7), (8, .int v8), (9, .int v9), (10, .int v10), (11, .int v11)]) hE dX12_house_144 (by decide) rfl ?_
          refine j_iload hE dX12_house_146 7 rfl ?_
          refine j_ldcw hE co_Mo_298 dX12_house_148 ?_
          refine j_icmp_ne (tgt := 159) hE hf dX12_house_151 (by decide) (fun c25 hf => ?_) (fun c25 hf => ?_)
          · refine j_iload hE dX12_house_159 8 rfl ?_
            refine j_iload hE dX12_house_161 0 rfl ?_
            refine j_mmin hE fm_mmin ml_Mo_303 ⟨⟨Nat.le_of_ble_eq_true rfl, Nat.le_of_ble_eq_true rfl⟩, Nat.zero_le _, Nat.zero_le _⟩ dX12_house_163 ?_
            exact j_sub [3, 4, 5, 6, 7, 9, 10, 11, 12, 13, 14, 0] rfl (j_Mo_house_166 E g a mo_y x1 x2 res hE hq k66 hk66 k75 hk75 (fun mo_z v3 v4 v5 v6 v7 v8 v9 v10 v11 => f_Mo_house_87 x1 x2 k66 k75 n mo_z v3 v4 v5 v6 v7 v8 v9 v10 v11) (fun mo_z v3 v4 v5 v6 v7 v8 v9 v10 v11 hf => ih mo_z v3 v4 v5 v6 v7 v8 v9 v10 v11 hf) mo_z v3 v4 v6 v7 v8 v9 v10 v11 ((100 * (q19 - q21)) / q19) (if ((100 * (q19 - q21)) / q19) < v5 then ((100 * (q19 - q21)) / q19) else v5) hf)
          · refine j_iload hE dX12_house_154 0 rfl ?_
            refine j_goto (tgt := 166) hE dX12_house_156 (by decide) ?_
            exact j_sub [3, 4, 5, 6, 7, 9, 10, 11, 12, 13, 14, 0] rfl (j_Mo_house_166 E g a mo_y x1 x2 res hE hq k66 hk66 k75 hk75 (fun mo_z v3 v4 v5 v6 v7 v8 v9 v10 v11 => f_Mo_house_87 x1 x2 k66 k75 n mo_z v3 v4 v5 v6 v7 v8 v9 v10 v11) (fun mo_z v3 v4 v5 v6 v7 v8 v9 v10 v11 hf => ih mo_z v3 v4 v5 v6 v7 v8 v9 v10 v11 hf) mo_z v3 v4 v6 v7 v8 v9 v10 v11 ((100 * (q19 - q21)) / q19) ((100 * (q19 - q21)) / q19) hf)
        · refine j_goto (tgt := 194) hE dX12_house_130 (by decide) ?_
          refine j_iinc (v := (v11 + 1)) (lv' := [(11, .int (v11 + 1)), (13, .int q21), (12, .int q19), (0, .ref (a 0)), (1, .int x1), (2, .int x2), (3, .int v3), (4, .int v4), (5, .int v5), (6, .int v6), (7, .int v7), (8, .int v8), (9, .int v9), (10, .int v10)]) hE dX12_house_194 13 rfl rfl (by decide) rfl ?_
          refine j_goto (tgt := 87) hE dX12_house_197 (by decide) ?_
          exact j_sub [3, 4, 5, 6, 7, 8, 9, 10, 11, 12, 13, 0] rfl (ih mo_z v3 v4 v5 v6 v7 v8 v9 v10 (v11 + 1) hf)
set_option maxRecDepth 100000 in
theorem j_Mo_house_75 (E : jT) (g : jG) (a : Nat → Nat) (mo_y : jY) (x1 : Int32) (x2 : Int32) (res : jZ × Int32) (hE : jOk E g RX12 cX12_house 15 (some .int) rm_Mo_house) (hq : jEnd E g (some (.int res.2)) (([n_Mo g a res.1 mo_y] : List va_W)) 0 0) (k66 : jZ → Int32 → Int32 → Int32 → Int32 → Int32 → Int32 → Int32 → Option (jZ × Int32)) (hk66 : ∀ (mo_z : jZ) (v3 : Int32) (v4 : Int32) (v5 : Int32) (v6 : Int32) (v7 : Int32) (v8 : Int32) (v9 : Int32), k66 mo_z v3 v4 v5 v6 v7 v8 v9 = some res → J E g 0 0 (([n_Mo g a mo_z mo_y] : List va_W)) [(0, .ref (a 0)), (1, .int x1), (2, .int x2), (3, .int v3), (4, .int v4), (5, .int v5), (6, .int v6), (7, .int v7), (8, .int v8), (9, .int v9)] 66 []) : ∀ (n : Nat) (mo_z : jZ) (v3 : Int32) (v4 : Int32) (v5 : Int32) (v6 : Int32) (v7 : Int32) (v8 : Int32) (v9 : Int32) (v10 : Int32), f_Mo_house_75 x1 x2 k66 n mo_z v3 v4 v5 v6 v7 v8 v9 v10 = some res → J E g 0 0 (([n_Mo g a mo_z mo_y] : List va_W)) [(0, .ref (a 0)), (1, .int x1), (2, .int x2), (3, .int v3), (4, .int v4), (5, .int v5), (6, .int v6), (7, .int v7), (8, .int v8), (9, .int v9), (10, .int v10)] 75 [] := by
  intro n
  induction n with
  | zero =>
    intro mo_z v3 v4 v5 v6 v7 v8 v9 v10 hf
    rw [f_Mo_house_75] at hf
    cases hf
  | succ n ih =>
    intro mo_z v3 v4 v5 v6 v7 v8 v9 v10 hf
    rw [f_Mo_house_75] at hf
    refine j_iload hE dX12_house_75 10 rfl ?_
    refine j_iload hE dX12_house_77 9 rfl ?_
    refine j_iadd hE dX12_house_79 ?_
    refine j_iload_n hE dX12_house_80 rfl 3 rfl ?_
    refine j_icmp_gt (tgt := 206) hE hf dX12_house_81 (by decide) (fun c17 hf => ?_) (fun c17 hf => ?_)
    · refine j_iinc (v := (v9 + 1)) (lv' := [(9, .int (v9 + 1)), (0, .ref (a 0)), (1, .int x1), (2, .int x2), (3, .int v3), (4, .int v4), (5, .int v5), (6, .int v6), (7, .int v7), (8, .int v8), (10, .int v10)]) hE dX12_house_206 9 rfl rfl (by decide) rfl ?_
      refine j_goto (tgt := 66) hE dX12_house_209 (by decide) ?_
      exact j_sub [1, 2, 3, 4, 5, 6, 7, 8, 9, 0] rfl (hk66 mo_z v3 v4 v5 v6 v7 v8 (v9 + 1) hf)
    · refine j_iload_n hE dX12_house_84 rfl 3 rfl ?_
      refine j_istore (lv' := [(11, .int v3), (0, .ref (a 0)), (1, .int x1), (2, .int x2), (3, .int v3), (4, .int v4), (5, .int v5), (6, .int v6), (7, .int v7), (8, .int v8), (9, .int v9), (10, .int v10)]) hE dX12_house_85 (by decide) rfl ?_
      exact j_sub [1, 2, 3, 4, 5, 6, 7, 8, 9, 10, 11, 0] rfl (j_Mo_house_87 E g a mo_y x1 x2 res hE hq k66 hk66 (fun mo_z v3 v4 v5 v6 v7 v8 v9 v10 => f_Mo_house_75 x1 x2 k66 n mo_z v3 v4 v5 v6 v7 v8 v9 v10) (fun mo_z v3 v4 v5 v6 v7 v8 v9 v10 hf => ih mo_z v3 v4 v5 v6 v7 v8 v9 v10 hf) FU mo_z v3 v4 v5 v6 v7 v8 v9 v10 v3 hf)
set_option maxRecDepth 100000 in
theorem j_Mo_house_66 (E : jT) (g : jG) (a : Nat → Nat) (mo_y : jY) (x1 : Int32) (x2 : Int32) (res : jZ × Int32) (hE : jOk E g RX12 cX12_house 15 (some .int) rm_Mo_house) (hq : jEnd E g (some (.int res.2)) (([n_Mo g a res.1 mo_y] : List va_W)) 0 0)  : ∀ (n : Nat) (mo_z : jZ) (v3 : Int32) (v4 : Int32) (v5 : Int32) (v6 : Int32) (v7 : Int32) (v8 : Int32) (v9 : Int32), f_Mo_house_66 x1 x2 n mo_z v3 v4 v5 v6 v7 v8 v9 = some res → J E g 0 0 (([n_Mo g a mo_z mo_y] : List va_W)) [(0, .ref (a 0)), (1, .int x1), (2, .int x2), (3, .int v3), (4, .int v4), (5, .int v5), (6, .int v6), (7, .int v7), (8, .int v8), (9, .int v9)] 66 [] := by
  intro n
  induction n with
  | zero =>
    intro mo_z v3 v4 v5 v6 v7 v8 v9 hf
    rw [f_Mo_house_66] at hf
    cases hf
  | succ n ih =>
    intro mo_z v3 v4 v5 v6 v7 v8 v9 hf
    rw [f_Mo_house_66] at hf
    refine j_iload hE dX12_house_66 9 rfl ?_
    refine j_iconst (v := 3) hE dX12_house_68 (by decide) ?_
    refine j_icmp_gt (tgt := 212) hE hf dX12_house_69 (by decide) (fun c11 hf => ?_) (fun c11 hf => ?_)
    · refine j_iload hE dX12_house_212 4 rfl ?_
      refine j_ldcw hE co_Mo_298 dX12_house_214 ?_
      refine j_icmp_ne (tgt := 224) hE hf dX12_house_217 (by decide) (fun c12 hf => ?_) (fun c12 hf => ?_)
      · refine j_iload_n hE dX12_house_224 rfl 2 rfl ?_
        refine j_case hf (fun c13 hf => ?_) (fun c13 hf => ?_)
        · refine j_tableIn (tgt := 256) hE dX12_house_225 (by rw [c13]; decide) (by rw [c13]; decide) (by rw [c13]; try rfl) (by decide) ?_
          refine j_iload hE dX12_house_256 4 rfl ?_
          obtain rfl := Option.some.inj hf
          exact j_iret hE hq rfl rfl dX12_house_258
        refine j_case hf (fun c14 hf => ?_) (fun c14 hf => ?_)
        · refine j_tableIn (tgt := 259) hE dX12_house_225 (by rw [c14]; decide) (by rw [c14]; decide) (by rw [c14]; try rfl) (by decide) ?_
          refine j_iload hE dX12_house_259 5 rfl ?_
          obtain rfl := Option.some.inj hf
          exact j_iret hE hq rfl rfl dX12_house_261
        refine j_case hf (fun c15 hf => ?_) (fun c15 hf => ?_)
        · refine j_tableIn (tgt := 262) hE dX12_house_225 (by rw [c15]; decide) (by rw [c15]; decide) (by rw [c15]; try rfl) (by decide) ?_
          refine j_iload hE dX12_house_262 6 rfl ?_
          obtain rfl := Option.some.inj hf
          exact j_iret hE hq rfl rfl dX12_house_264
        refine j_case hf (fun c16 hf => ?_) (fun c16 hf => ?_)
        · refine j_tableIn (tgt := 265) hE dX12_house_225 (by rw [c16]; decide) (by rw [c16]; decide) (by rw [c16]; try rfl) (by decide) ?_
          refine j_iload hE dX12_house_265 7 rfl ?_
          obtain rfl := Option.some.inj hf
          exact j_iret hE hq rfl rfl dX12_house_267
        have t_c13 : 0 ≠ Int32.toInt x2 := fun h => c13 (Int32.toInt_inj.mp (h.symm.trans (by decide)))
        have t_c14 : 1 ≠ Int32.toInt x2 := fun h => c14 (Int32.toInt_inj.mp (h.symm.trans (by decide)))
        have t_c15 : 2 ≠ Int32.toInt x2 := fun h => c15 (Int32.toInt_inj.mp (h.symm.trans (by decide)))
        have t_c16 : 3 ≠ Int32.toInt x2 := fun h => c16 (Int32.toInt_inj.mp (h.symm.trans (by decide)))
        refine j_tableOut (tgt := 268) hE dX12_house_225 (by omega) (by decide) ?_
        refine j_iload hE dX12_house_268 8 rfl ?_
        obtain rfl := Option.some.inj hf
        exact j_iret hE hq rfl rfl dX12_house_270
      · refine j_ldcw hE co_Mo_298 dX12_house_220 ?_
        obtain rfl := Option.some.inj hf
        exact j_iret hE hq rfl rfl dX12_house_223
    · refine j_iconst (v := 0) hE dX12_house_72 (by decide) ?_
      refine j_istore (lv' := [(10, .int 0), (0, .ref (a 0)), (1, .int x1), (2, .int x2), (3, .int v3), (4, .int v4), (5, .int v5), (6, .int v6), (7, .int v7), (8, .int v8), (9, .int v9)]) hE dX12_house_73 (by decide) rfl ?_
      exact j_sub [1, 2, 3, 4, 5, 6, 7, 8, 9, 10, 0] rfl (j_Mo_house_75 E g a mo_y x1 x2 res hE hq (fun mo_z v3 v4 v5 v6 v7 v8 v9 => f_Mo_house_66 x1 x2 n mo_z v3 v4 v5 v6 v7 v8 v9) (fun mo_z v3 v4 v5 v6 v7 v8 v9 hf => ih mo_z v3 v4 v5 v6 v7 v8 v9 hf) FU mo_z v3 v4 v5 v6 v7 v8 v9 0 hf)
set_option maxRecDepth 100000 in
theorem c_Mo_house (l : Launch) (g : jG) (a : Nat → Nat) (mo_z : jZ) (mo_y : jY) (x1 : Int32) (x2 : Int32) (res : jZ × Int32) (hf : f_Mo_house mo_z x1 x2 = some res) : MC l g yX12_house cX12_house 15 (some .int) rm_Mo_house [.ref (a 0), .int x1, .int x2] (([n_Mo g a mo_z mo_y] : List va_W)) (some (.int res.2)) (([n_Mo g a res.1 mo_y] : List va_W)) 0 0 := by
  refine MC_of (own := RX12) (lv := [(0, .ref (a 0)), (1, .int x1), (2, .int x2)]) (by decide) rfl (Nat.le_of_ble_eq_true rfl) rfl rfl (fun E hE hq => ?_)
  unfold f_Mo_house at hf
  refine j_aload_n hE dX12_house_0 rfl 0 rfl ?_
  refine j_iconst (v := 0) hE dX12_house_1 (by decide) ?_
  refine j_put (v := .int 0) (ws' := ([n_Mo g a (up2 mo_z 0 0 0) mo_y] : List va_W)) hE lp_Mo_87 0 rfl 0 (wg_Mo_0 g a mo_z mo_y) rfl rfl (Nat.le_of_ble_eq_true rfl) (wp_Mo_0 g a mo_z mo_y 0) rfl dX12_house_2 ?_
  refine j_aload_n hE dX12_house_5 rfl 0 rfl ?_
  refine j_iload_n hE dX12_house_6 rfl 1 rfl ?_
  obtain ⟨q1, hc2, hf⟩ := bind_of hf
  refine j_callV (ws' := ([n_Mo g a (up2 mo_z 0 0 0) mo_y] : List va_W)) (As := [.int x1]) (rest := []) (st2 := [.int q1]) hE (fun l => c_Mo_isPlace l g a (up2 mo_z 0 0 0) mo_y x1 q1 hc2) cd_X12_isPlace cv_X12_isPlace ml_Mo_252 rfl rfl rfl (wg_Mo_0 _ _ _ _) ⟨⟨Nat.le_of_ble_eq_true rfl, Nat.le_of_ble_eq_true rfl⟩, ⟨Nat.zero_le _, Nat.zero_le _⟩, rfl, rfl⟩ [0] rfl rfl rfl (Nat.le_of_ble_eq_true rfl) rfl dX12_house_7 ?_
  refine j_if_eq (tgt := 31) hE hf dX12_house_10 (by decide) (fun c3 hf => ?_) (fun c3 hf => ?_)
  · refine j_ldcw hE co_Mo_298 dX12_house_31 ?_
    obtain rfl := Option.some.inj hf
    exact j_iret hE hq rfl rfl dX12_house_34
  · refine j_iload_n hE dX12_house_13 rfl 2 rfl ?_
    refine j_if_lt (tgt := 31) hE hf dX12_house_14 (by decide) (fun c4 hf => ?_) (fun c4 hf => ?_)
    · refine j_ldcw hE co_Mo_298 dX12_house_31 ?_
      obtain rfl := Option.some.inj hf
      exact j_iret hE hq rfl rfl dX12_house_34
    · refine j_iload_n hE dX12_house_17 rfl 2 rfl ?_
      refine j_iconst (v := 4) hE dX12_house_18 (by decide) ?_
      refine j_icmp_gt (tgt := 31) hE hf dX12_house_19 (by decide) (fun c5 hf => ?_) (fun c5 hf => ?_)
      · refine j_ldcw hE co_Mo_298 dX12_house_31 ?_
        obtain rfl := Option.some.inj hf
        exact j_iret hE hq rfl rfl dX12_house_34
      · refine j_aload_n hE dX12_house_22 rfl 0 rfl ?_
        refine j_get (v := .ref (a 8)) hE lg_Mo_34 0 rfl 0 (wg_Mo_0 g a (up2 mo_z 0 0 0) mo_y) rfl dX12_house_23 ?_
        refine j_iload_n hE dX12_house_26 rfl 1 rfl ?_
        refine j_iald hE hf 0 rfl 8 (wg_Mo_8 g a (up2 mo_z 0 0 0) mo_y) dX12_house_27 (fun hf => ?_)
        refine j_st (st' := [.int (mo_z 11 (Int32.toNatClampNeg x1))]) rfl ?_
        refine j_if_ne (tgt := 35) hE hf dX12_house_28 (by decide) (fun c7 hf => ?_) (fun c7 hf => ?_)
        · refine j_aload_n hE dX12_house_35 rfl 0 rfl ?_
          obtain ⟨q8, hc9, hf⟩ := bind_of hf
          refine j_callV (ws' := ([n_Mo g a q8 mo_y] : List va_W)) (As := []) (rest := []) (st2 := []) hE (fun l => c_Mo_knows l g a (up2 mo_z 0 0 0) mo_y q8 hc9) cd_X12_knows cv_X12_knows ml_Mo_255 rfl rfl rfl (wg_Mo_0 _ _ _ _) ⟨⟨Nat.le_of_ble_eq_true rfl, Nat.le_of_ble_eq_true rfl⟩, ⟨Nat.zero_le _, Nat.zero_le _⟩, rfl, rfl⟩ [0] rfl rfl rfl (Nat.le_of_ble_eq_true rfl) rfl dX12_house_36 ?_
          refine j_aload_n hE dX12_house_39 rfl 0 rfl ?_
          refine j_get (v := .ref (a 8)) hE lg_Mo_34 0 rfl 0 (wg_Mo_0 g a q8 mo_y) rfl dX12_house_40 ?_
          refine j_iload_n hE dX12_house_43 rfl 1 rfl ?_
          refine j_iald hE hf 0 rfl 8 (wg_Mo_8 g a q8 mo_y) dX12_house_44 (fun hf => ?_)
          refine j_istore_n (lv' := [(3, .int (q8 11 (Int32.toNatClampNeg x1))), (0, .ref (a 0)), (1, .int x1), (2, .int x2)]) hE dX12_house_45 rfl (by decide) rfl ?_
          refine j_ldcw hE co_Mo_298 dX12_house_46 ?_
          refine j_istore (lv' := [(4, .int (-2147483648)), (3, .int (q8 11 (Int32.toNatClampNeg x1))), (0, .ref (a 0)), (1, .int x1), (2, .int x2)]) hE dX12_house_49 (by decide) rfl ?_
          refine j_iconst (v := 0) hE dX12_house_51 (by decide) ?_
          refine j_istore (lv' := [(5, .int 0), (4, .int (-2147483648)), (3, .int (q8 11 (Int32.toNatClampNeg x1))), (0, .ref (a 0)), (1, .int x1), (2, .int x2)]) hE dX12_house_52 (by decide) rfl ?_
          refine j_iconst (v := 0) hE dX12_house_54 (by decide) ?_
          refine j_istore (lv' := [(6, .int 0), (5, .int 0), (4, .int (-2147483648)), (3, .int (q8 11 (Int32.toNatClampNeg x1))), (0, .ref (a 0)), (1, .int x1), (2, .int x2)]) hE dX12_house_55 (by decide) rfl ?_
          refine j_iconst (v := 0) hE dX12_house_57 (by decide) ?_
          refine j_istore (lv' := [(7, .int 0), (6, .int 0), (5, .int 0), (4, .int (-2147483648)), (3, .int (q8 11 (Int32.toNatClampNeg x1))), (0, .ref (a 0)), (1, .int x1), (2, .int x2)]) hE dX12_house_58 (by decide) rfl ?_
          refine j_iconst (v := 0) hE dX12_house_60 (by decide) ?_
          refine j_istore (lv' := [(8, .int 0), (7, .int 0), (6, .int 0), (5, .int 0), (4, .int (-2147483648)), (3, .int (q8 11 (Int32.toNatClampNeg x1))), (0, .ref (a 0)), (1, .int x1), (2, .int x2)]) hE dX12_house_61 (by decide) rfl ?_
          refine j_iconst (v := 1) hE dX12_house_63 (by decide) ?_
          refine j_istore (lv' := [(9, .int 1), (8, .int 0), (7, .int 0), (6, .int 0), (5, .int 0), (4, .int (-2147483648)), (3, .int (q8 11 (Int32.toNatClampNeg x1))), (0, .ref (a 0)), (1, .int x1), (2, .int x2)]) hE dX12_house_64 (by decide) rfl ?_
          exact j_sub [7, 8, 9, 6, 5, 4, 3, 2, 1, 0] rfl (j_Mo_house_66 E g a mo_y x1 x2 res hE hq FU q8 (q8 11 (Int32.toNatClampNeg x1)) (-2147483648) 0 0 0 0 1 hf)
        · refine j_ldcw hE co_Mo_298 dX12_house_31 ?_
          obtain rfl := Option.some.inj hf
          exact j_iret hE hq rfl rfl dX12_house_34
def rm_Mo_allRates : Room := { frames := 3, cells := 0, slots := 0, locals := 82 }
def f_Mo_allRates_37    : Nat → jZ → jY → Int32 → Int32 → Option (jZ × jY)
  | 0, _, _, _, _ => none
  | n + 1, mo_z, mo_y, v1, v2 => (if (mo_z 4 0) ≤ v2 then some (mo_z, mo_y)
    else (ix v2 12).bind fun _ => (if v1 = (-1) then f_Mo_allRates_37  n (up2 mo_z 56 (Int32.toNatClampNeg v2) 0) mo_y v1 (v2 + 1)
    else (f_Mo_rates (up2 mo_z 56 (Int32.toNatClampNeg v2) 0) mo_y v2 (if 0 < (v1 - 5) then (v1 - 5) else 0) v1).bind fun q6 => (if (lg_cmp (q6 46 0) 0) = 0 then (ix v2 12).bind fun _ => f_Mo_allRates_37  n (up2 (up2 mo_z 56 (Int32.toNatClampNeg v2) 0) 56 (Int32.toNatClampNeg v2) 0) q6 v1 (v2 + 1)
    else (nzl (q6 46 0)).bind fun _ => (ix v2 12).bind fun _ => f_Mo_allRates_37  n (up2 (up2 mo_z 56 (Int32.toNatClampNeg v2) 0) 56 (Int32.toNatClampNeg v2) (Int64.toInt32 ((1000 * (q6 45 0)) / (q6 46 0)))) q6 v1 (v2 + 1))))
def f_Mo_allRates_4    : Nat → jZ → jY → Int32 → Int32 → Option (jZ × jY)
  | 0, _, _, _, _ => none
  | n + 1, mo_z, mo_y, v1, v2 => (if 108 ≤ v2 then f_Mo_allRates_37 FU mo_z mo_y v1 0
    else (ix v2 108).bind fun _ => (if (mo_z 44 (Int32.toNatClampNeg v2)) = (-1) then f_Mo_allRates_4  n mo_z mo_y v1 (v2 + 1)
    else f_Mo_allRates_4  n mo_z mo_y (if v1 < (v2 - v2 / 9 * 9) then (v2 - v2 / 9 * 9) else v1) (v2 + 1)))
def f_Mo_allRates (mo_z : jZ) (mo_y : jY)  : Option (jZ × jY) := f_Mo_allRates_4 FU mo_z mo_y (-1) 0
set_option maxRecDepth 100000 in
theorem j_Mo_allRates_37 (E : jT) (g : jG) (a : Nat → Nat)   (res : jZ × jY) (hE : jOk E g RX12 cX12_allRates 3 (none : Option Jvm.ClassFile.FieldType) rm_Mo_allRates) (hq : jEnd E g none (([n_Mo g a res.1 res.2] : List va_W)) 0 0)  : ∀ (n : Nat) (mo_z : jZ) (mo_y : jY) (v1 : Int32) (v2 : Int32), f_Mo_allRates_37 n mo_z mo_y v1 v2 = some res → J E g 0 0 (([n_Mo g a mo_z mo_y] : List va_W)) [(0, .ref (a 0)), (1, .int v1), (2, .int v2)] 37 [] := by
  intro n
  induction n with
  | zero =>
    intro mo_z mo_y v1 v2 hf
    rw [f_Mo_allRates_37] at hf
    cases hf
  | succ n ih =>
    intro mo_z mo_y v1 v2 hf
    rw [f_Mo_allRates_37] at hf
    refine j_iload_n hE dX12_allRates_37 rfl 2 rfl ?_
    refine j_aload_n hE dX12_allRates_38 rfl 0 rfl ?_
    refine j_get (v := .int (mo_z 4 0)) hE lg_Mo_240 0 rfl 0 (wg_Mo_0 g a mo_z mo_y) rfl dX12_allRates_39 ?_
    refine j_icmp_ge (tgt := 112) hE hf dX12_allRates_42 (by decide) (fun c4 hf => ?_) (fun c4 hf => ?_)
    · obtain rfl := Option.some.inj hf
      exact j_vret hE hq rfl rfl dX12_allRates_112
    · refine j_aload_n hE dX12_allRates_45 rfl 0 rfl ?_
      refine j_get (v := .ref (a 21)) hE lg_Mo_84 0 rfl 0 (wg_Mo_0 g a mo_z mo_y) rfl dX12_allRates_46 ?_
      refine j_iload_n hE dX12_allRates_49 rfl 2 rfl ?_
      refine j_iconst (v := 0) hE dX12_allRates_50 (by decide) ?_
      refine j_iast (ws' := ([n_Mo g a (up2 mo_z 56 (Int32.toNatClampNeg v2) 0) mo_y] : List va_W)) hE hf 0 rfl 21 (wg_Mo_21 g a mo_z mo_y) (wa_Mo_21 g a mo_z mo_y (Int32.toNatClampNeg v2) 0) rfl dX12_allRates_51 (fun hf => ?_)
      refine j_iload_n hE dX12_allRates_52 rfl 1 rfl ?_
      refine j_iconst (v := (-1)) hE dX12_allRates_53 (by decide) ?_
      refine j_icmp_ne (tgt := 60) hE hf dX12_allRates_54 (by decide) (fun c5 hf => ?_) (fun c5 hf => ?_)
      · refine j_aload_n hE dX12_allRates_60 rfl 0 rfl ?_
        refine j_iload_n hE dX12_allRates_61 rfl 2 rfl ?_
        refine j_iconst (v := 0) hE dX12_allRates_62 (by decide) ?_
        refine j_iload_n hE dX12_allRates_63 rfl 1 rfl ?_
        refine j_iconst (v := 5) hE dX12_allRates_64 (by decide) ?_
        refine j_isub hE dX12_allRates_65 ?_
        refine j_mmax hE fm_mmax ml_Mo_306 ⟨⟨Nat.le_of_ble_eq_true rfl, Nat.le_of_ble_eq_true rfl⟩, Nat.zero_le _, Nat.zero_le _⟩ dX12_allRates_66 ?_
        refine j_iload_n hE dX12_allRates_69 rfl 1 rfl ?_
        obtain ⟨q6, hc7, hf⟩ := bind_of hf
        refine j_callV (ws' := ([n_Mo g a (up2 mo_z 56 (Int32.toNatClampNeg v2) 0) q6] : List va_W)) (As := [.int v2, .int (if 0 < (v1 - 5) then (v1 - 5) else 0), .int v1]) (rest := []) (st2 := []) hE (fun l => c_Mo_rates l g a (up2 mo_z 56 (Int32.toNatClampNeg v2) 0) mo_y v2 (if 0 < (v1 - 5) then (v1 - 5) else 0) v1 q6 hc7) cd_X12_rates cv_X12_rates ml_Mo_294 rfl rfl rfl (wg_Mo_0 _ _ _ _) ⟨⟨Nat.le_of_ble_eq_true rfl, Nat.le_of_ble_eq_true rfl⟩, ⟨Nat.zero_le _, Nat.zero_le _⟩, rfl, rfl⟩ [0] rfl rfl rfl (Nat.le_of_ble_eq_true rfl) rfl dX12_allRates_70 ?_
        refine j_aload_n hE dX12_allRates_73 rfl 0 rfl ?_
        refine j_get (v := .ref (a 21)) hE lg_Mo_84 0 rfl 0 (wg_Mo_0 g a (up2 mo_z 56 (Int32.toNatClampNeg v2) 0) q6) rfl dX12_allRates_74 ?_
        refine j_iload_n hE dX12_allRates_77 rfl 2 rfl ?_
        refine j_aload_n hE dX12_allRates_78 rfl 0 rfl ?_
        refine j_get (v := .long (q6 46 0)) hE lg_Mo_271 0 rfl 0 (wg_Mo_0 g a (up2 mo_z 56 (Int32.toNatClampNeg v2) 0) q6) rfl dX12_allRates_79 ?_
        refine j_lconst (v := 0) hE dX12_allRates_82 (by decide) ?_
        refine j_lcmp hE dX12_allRates_83 ?_
        refine j_if_ne (tgt := 91) hE hf dX12_allRates_84 (by decide) (fun c8 hf => ?_) (fun c8 hf => ?_)
        · refine j_ldc2 hE co_Mo_382 dX12_allRates_91 ?_
          refine j_aload_n hE dX12_allRates_94 rfl 0 rfl ?_
          refine j_get (v := .long (q6 45 0)) hE lg_Mo_267 0 rfl 0 (wg_Mo_0 g a (up2 mo_z 56 (Int32.toNatClampNeg v2) 0) q6) rfl dX12_allRates_95 ?_
          refine j_lmul hE dX12_allRates_98 ?_
          refine j_aload_n hE dX12_allRates_99 rfl 0 rfl ?_
          refine j_get (v := .long (q6 46 0)) hE lg_Mo_271 0 rfl 0 (wg_Mo_0 g a (up2 mo_z 56 (Int32.toNatClampNeg v2) 0) q6) rfl dX12_allRates_100 ?_
          refine j_ldiv hE hf dX12_allRates_103 (fun hf => ?_)
          refine j_l2i hE dX12_allRates_104 ?_
          refine j_iast (ws' := ([n_Mo g a (up2 (up2 mo_z 56 (Int32.toNatClampNeg v2) 0) 56 (Int32.toNatClampNeg v2) (Int64.toInt32 ((1000 * (q6 45 0)) / (q6 46 0)))) q6] : List va_W)) hE hf 0 rfl 21 (wg_Mo_21 g a (up2 mo_z 56 (Int32.toNatClampNeg v2) 0) q6) (wa_Mo_21 g a (up2 mo_z 56 (Int32.toNatClampNeg v2) 0) q6 (Int32.toNatClampNeg v2) (Int64.toInt32 ((1000 * (q6 45 0)) / (q6 46 0)))) rfl dX12_allRates_105 (fun hf => ?_)
          refine j_iinc (v := (v2 + 1)) (lv' := [(2, .int (v2 + 1)), (0, .ref (a 0)), (1, .int v1)]) hE dX12_allRates_106 2 rfl rfl (by decide) rfl ?_
          refine j_goto (tgt := 37) hE dX12_allRates_109 (by decide) ?_
          exact j_sub [1, 2, 0] rfl (ih (up2 (up2 mo_z 56 (Int32.toNatClampNeg v2) 0) 56 (Int32.toNatClampNeg v2) (Int64.toInt32 ((1000 * (q6 45 0)) / (q6 46 0)))) q6 v1 (v2 + 1) hf)
        · refine j_iconst (v := 0) hE dX12_allRates_87 (by decide) ?_
          refine j_goto (tgt := 105) hE dX12_allRates_88 (by decide) ?_
          refine j_iast (ws' := ([n_Mo g a (up2 (up2 mo_z 56 (Int32.toNatClampNeg v2) 0) 56 (Int32.toNatClampNeg v2) 0) q6] : List va_W)) hE hf 0 rfl 21 (wg_Mo_21 g a (up2 mo_z 56 (Int32.toNatClampNeg v2) 0) q6) (wa_Mo_21 g a (up2 mo_z 56 (Int32.toNatClampNeg v2) 0) q6 (Int32.toNatClampNeg v2) 0) rfl dX12_allRates_105 (fun hf => ?_)
          refine j_iinc (v := (v2 + 1)) (lv' := [(2, .int (v2 + 1)), (0, .ref (a 0)), (1, .int v1)]) hE dX12_allRates_106 2 rfl rfl (by decide) rfl ?_
          refine j_goto (tgt := 37) hE dX12_allRates_109 (by decide) ?_
          exact j_sub [1, 2, 0] rfl (ih (up2 (up2 mo_z 56 (Int32.toNatClampNeg v2) 0) 56 (Int32.toNatClampNeg v2) 0) q6 v1 (v2 + 1) hf)
      · refine j_goto (tgt := 106) hE dX12_allRates_57 (by decide) ?_
        refine j_iinc (v := (v2 + 1)) (lv' := [(2, .int (v2 + 1)), (0, .ref (a 0)), (1, .int v1)]) hE dX12_allRates_106 2 rfl rfl (by decide) rfl ?_
        refine j_goto (tgt := 37) hE dX12_allRates_109 (by decide) ?_
        exact j_sub [1, 2, 0] rfl (ih (up2 mo_z 56 (Int32.toNatClampNeg v2) 0) mo_y v1 (v2 + 1) hf)
set_option maxRecDepth 100000 in
theorem j_Mo_allRates_4 (E : jT) (g : jG) (a : Nat → Nat)   (res : jZ × jY) (hE : jOk E g RX12 cX12_allRates 3 (none : Option Jvm.ClassFile.FieldType) rm_Mo_allRates) (hq : jEnd E g none (([n_Mo g a res.1 res.2] : List va_W)) 0 0)  : ∀ (n : Nat) (mo_z : jZ) (mo_y : jY) (v1 : Int32) (v2 : Int32), f_Mo_allRates_4 n mo_z mo_y v1 v2 = some res → J E g 0 0 (([n_Mo g a mo_z mo_y] : List va_W)) [(0, .ref (a 0)), (1, .int v1), (2, .int v2)] 4 [] := by
  intro n
  induction n with
  | zero =>
    intro mo_z mo_y v1 v2 hf
    rw [f_Mo_allRates_4] at hf
    cases hf
  | succ n ih =>
    intro mo_z mo_y v1 v2 hf
    rw [f_Mo_allRates_4] at hf
    refine j_iload_n hE dX12_allRates_4 rfl 2 rfl ?_
    refine j_bipush (v := 108) hE dX12_allRates_5 (by decide) ?_
    refine j_icmp_ge (tgt := 35) hE hf dX12_allRates_7 (by decide) (fun c1 hf => ?_) (fun c1 hf => ?_)
    · refine j_iconst (v := 0) hE dX12_allRates_35 (by decide) ?_
      refine j_istore_n (lv' := [(2, .int 0), (0, .ref (a 0)), (1, .int v1)]) hE dX12_allRates_36 rfl (by decide) rfl ?_
      exact j_sub [1, 2, 0] rfl (j_Mo_allRates_37 E g a res hE hq FU mo_z mo_y v1 0 hf)
    · refine j_aload_n hE dX12_allRates_10 rfl 0 rfl ?_
      refine j_get (v := .ref (a 18)) hE lg_Mo_74 0 rfl 0 (wg_Mo_0 g a mo_z mo_y) rfl dX12_allRates_11 ?_
      refine j_iload_n hE dX12_allRates_14 rfl 2 rfl ?_
      refine j_iald hE hf 0 rfl 18 (wg_Mo_18 g a mo_z mo_y) dX12_allRates_15 (fun hf => ?_)
      refine j_iconst (v := (-1)) hE dX12_allRates_16 (by decide) ?_
      refine j_icmp_eq (tgt := 29) hE hf dX12_allRates_17 (by decide) (fun c3 hf => ?_) (fun c3 hf => ?_)
      · refine j_iinc (v := (v2 + 1)) (lv' := [(2, .int (v2 + 1)), (0, .ref (a 0)), (1, .int v1)]) hE dX12_allRates_29 2 rfl rfl (by decide) rfl ?_
        refine j_goto (tgt := 4) hE dX12_allRates_32 (by decide) ?_
        exact j_sub [1, 2, 0] rfl (ih mo_z mo_y v1 (v2 + 1) hf)
      · refine j_iload_n hE dX12_allRates_20 rfl 1 rfl ?_
        refine j_iload_n hE dX12_allRates_21 rfl 2 rfl ?_
        refine j_bipush (v := 9) hE dX12_allRates_22 (by decide) ?_
        refine j_irem_c hE (by decide) dX12_allRates_24 ?_
        refine j_mmax hE fm_mmax ml_Mo_306 ⟨⟨Nat.le_of_ble_eq_true rfl, Nat.le_of_ble_eq_true rfl⟩, Nat.zero_le _, Nat.zero_le _⟩ dX12_allRates_25 ?_
        refine j_istore_n (lv' := [(1, .int (if v1 < (v2 - v2 / 9 * 9) then (v2 - v2 / 9 * 9) else v1)), (0, .ref (a 0)), (2, .int v2)]) hE dX12_allRates_28 rfl (by decide) rfl ?_
        refine j_iinc (v := (v2 + 1)) (lv' := [(2, .int (v2 + 1)), (1, .int (if v1 < (v2 - v2 / 9 * 9) then (v2 - v2 / 9 * 9) else v1)), (0, .ref (a 0))]) hE dX12_allRates_29 2 rfl rfl (by decide) rfl ?_
        refine j_goto (tgt := 4) hE dX12_allRates_32 (by decide) ?_
        exact j_sub [2, 1, 0] rfl (ih mo_z mo_y (if v1 < (v2 - v2 / 9 * 9) then (v2 - v2 / 9 * 9) else v1) (v2 + 1) hf)
set_option maxRecDepth 100000 in
theorem c_Mo_allRates (l : Launch) (g : jG) (a : Nat → Nat) (mo_z : jZ) (mo_y : jY)  (res : jZ × jY) (hf : f_Mo_allRates mo_z mo_y = some res) : MC l g yX12_allRates cX12_allRates 3 (none : Option Jvm.ClassFile.FieldType) rm_Mo_allRates [.ref (a 0)] (([n_Mo g a mo_z mo_y] : List va_W)) none (([n_Mo g a res.1 res.2] : List va_W)) 0 0 := by
  refine MC_of (own := RX12) (lv := [(0, .ref (a 0))]) (by decide) rfl (Nat.le_of_ble_eq_true rfl) rfl rfl (fun E hE hq => ?_)
  unfold f_Mo_allRates at hf
  refine j_iconst (v := (-1)) hE dX12_allRates_0 (by decide) ?_
  refine j_istore_n (lv' := [(1, .int (-1)), (0, .ref (a 0))]) hE dX12_allRates_1 rfl (by decide) rfl ?_
  refine j_iconst (v := 0) hE dX12_allRates_2 (by decide) ?_
  refine j_istore_n (lv' := [(2, .int 0), (1, .int (-1)), (0, .ref (a 0))]) hE dX12_allRates_3 rfl (by decide) rfl ?_
  exact j_sub [2, 1, 0] rfl (j_Mo_allRates_4 E g a res hE hq FU mo_z mo_y (-1) 0 hf)
