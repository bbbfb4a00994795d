def rm_Mo_coin : Room := { frames := 1, cells := 0, slots := 0, locals := 21 }
def f_Mo_coin (mo_z : jZ) (x1 : Int32) (x2 : Int32) : Option (jZ × Int32) := (f_Mo_isPlace (up2 mo_z 0 0 0) x1).bind fun q1 => (if q1 = 0 then some ((up2 mo_z 0 0 0), 0)
    else (if x2 < 0 then some ((up2 mo_z 0 0 0), 0)
    else (if x2 ≤ 99 then (ix x1 12).bind fun _ => some ((up2 (up2 mo_z 0 0 0) 14 (Int32.toNatClampNeg x1) x2), 1)
    else some ((up2 mo_z 0 0 0), 0))))
set_option maxRecDepth 100000 in
theorem c_Mo_coin (l : Launch) (g : jG) (a : Nat → Nat) (mo_z : jZ) (mo_y : jY) (x1 : Int32) (x2 : Int32) (res : jZ × Int32) (hf : f_Mo_coin mo_z x1 x2 = some res) : MC l g yX12_coin cX12_coin 3 (some .boolean) rm_Mo_coin [.ref (a 0), .int x1, .int x2] (([n_Mo g a mo_z mo_y] : List va_W)) (some (.int res.2)) (([n_Mo g a res.1 mo_y] : List va_W)) 0 0 := by
  refine MC_of (own := RX12) (lv := [(0, .ref (a 0)), (1, .int x1), (2, .int x2)]) (by decide) rfl (Nat.le_of_ble_eq_true rfl) rfl rfl (fun E hE hq => ?_)
  unfold f_Mo_coin at hf
  refine j_aload_n hE dX12_coin_0 rfl 0 rfl ?_
  refine j_iconst (v := 0) hE dX12_coin_1 (by decide) ?_
  refine j_put (v := .int 0) (ws' := ([n_Mo g a (up2 mo_z 0 0 0) mo_y] : List va_W)) hE lp_Mo_87 0 rfl 0 (wg_Mo_0 g a mo_z mo_y) rfl rfl (Nat.le_of_ble_eq_true rfl) (wp_Mo_0 g a mo_z mo_y 0) rfl dX12_coin_2 ?_
  refine j_aload_n hE dX12_coin_5 rfl 0 rfl ?_
  refine j_iload_n hE dX12_coin_6 rfl 1 rfl ?_
  obtain ⟨q1, hc2, hf⟩ := bind_of hf
  refine j_callV (ws' := ([n_Mo g a (up2 mo_z 0 0 0) mo_y] : List va_W)) (As := [.int x1]) (rest := []) (st2 := [.int q1]) hE (fun l => c_Mo_isPlace l g a (up2 mo_z 0 0 0) mo_y x1 q1 hc2) cd_X12_isPlace cv_X12_isPlace ml_Mo_252 rfl rfl rfl (wg_Mo_0 _ _ _ _) ⟨⟨Nat.le_of_ble_eq_true rfl, Nat.le_of_ble_eq_true rfl⟩, ⟨Nat.zero_le _, Nat.zero_le _⟩, rfl, rfl⟩ [0] rfl rfl rfl (Nat.le_of_ble_eq_true rfl) rfl dX12_coin_7 ?_
  refine j_if_eq (tgt := 23) hE hf dX12_coin_10 (by decide) (fun c3 hf => ?_) (fun c3 hf => ?_)
  · refine j_iconst (v := 0) hE dX12_coin_23 (by decide) ?_
    obtain rfl := Option.some.inj hf
    exact j_zret_c hE (Or.inl rfl) hq rfl rfl dX12_coin_24
  · refine j_iload_n hE dX12_coin_13 rfl 2 rfl ?_
    refine j_if_lt (tgt := 23) hE hf dX12_coin_14 (by decide) (fun c4 hf => ?_) (fun c4 hf => ?_)
    · refine j_iconst (v := 0) hE dX12_coin_23 (by decide) ?_
      obtain rfl := Option.some.inj hf
      exact j_zret_c hE (Or.inl rfl) hq rfl rfl dX12_coin_24
    · refine j_iload_n hE dX12_coin_17 rfl 2 rfl ?_
      refine j_bipush (v := 99) hE dX12_coin_18 (by decide) ?_
      refine j_icmp_le (tgt := 25) hE hf dX12_coin_20 (by decide) (fun c5 hf => ?_) (fun c5 hf => ?_)
      · refine j_aload_n hE dX12_coin_25 rfl 0 rfl ?_
        refine j_get (v := .ref (a 11)) hE lg_Mo_43 0 rfl 0 (wg_Mo_0 g a (up2 mo_z 0 0 0) mo_y) rfl dX12_coin_26 ?_
        refine j_iload_n hE dX12_coin_29 rfl 1 rfl ?_
        refine j_iload_n hE dX12_coin_30 rfl 2 rfl ?_
        refine j_iast (ws' := ([n_Mo g a (up2 (up2 mo_z 0 0 0) 14 (Int32.toNatClampNeg x1) x2) mo_y] : List va_W)) hE hf 0 rfl 11 (wg_Mo_11 g a (up2 mo_z 0 0 0) mo_y) (wa_Mo_11 g a (up2 mo_z 0 0 0) mo_y (Int32.toNatClampNeg x1) x2) rfl dX12_coin_31 (fun hf => ?_)
        refine j_iconst (v := 1) hE dX12_coin_32 (by decide) ?_
        obtain rfl := Option.some.inj hf
        exact j_zret_c hE (Or.inr rfl) hq rfl rfl dX12_coin_33
      · refine j_iconst (v := 0) hE dX12_coin_23 (by decide) ?_
        obtain rfl := Option.some.inj hf
        exact j_zret_c hE (Or.inl rfl) hq rfl rfl dX12_coin_24
def rm_Mo_bits : Room := { frames := 0, cells := 0, slots := 0, locals := 0 }
def f_Mo_bits_4  (x0 : Int32)  : Nat → Int32 → Int32 → Option (Int32)
  | 0, _, _ => none
  | n + 1, v1, v2 => (if 12 ≤ v2 then some v1
    else f_Mo_bits_4 x0 n (v1 + ((x0 >>> (v2 &&& 31)) &&& 1)) (v2 + 1))
def f_Mo_bits  (x0 : Int32) : Option (Int32) := f_Mo_bits_4 x0 FU 0 0
set_option maxRecDepth 100000 in
theorem j_Mo_bits_4 (E : jT) (g : jG)   (x0 : Int32) (res : Int32) (hE : jOk E g RX12 cX12_bits 3 (some .int) rm_Mo_bits) (hq : jEnd E g (some (.int res)) (([] : List va_W)) 0 0)  : ∀ (n : Nat) (v1 : Int32) (v2 : Int32), f_Mo_bits_4 x0 n v1 v2 = some res → J E g 0 0 (([] : List va_W)) [(0, .int x0), (1, .int v1), (2, .int v2)] 4 [] := by
  intro n
  induction n with
  | zero =>
    intro v1 v2 hf
    rw [f_Mo_bits_4] at hf
    cases hf
  | succ n ih =>
    intro v1 v2 hf
    rw [f_Mo_bits_4] at hf
    refine j_iload_n hE dX12_bits_4 rfl 2 rfl ?_
    refine j_bipush (v := 12) hE dX12_bits_5 (by decide) ?_
    refine j_icmp_ge (tgt := 24) hE hf dX12_bits_7 (by decide) (fun c1 hf => ?_) (fun c1 hf => ?_)
    · refine j_iload_n hE dX12_bits_24 rfl 1 rfl ?_
      obtain rfl := Option.some.inj hf
      exact j_iret hE hq rfl rfl dX12_bits_25
    · refine j_iload_n hE dX12_bits_10 rfl 1 rfl ?_
      refine j_iload_n hE dX12_bits_11 rfl 0 rfl ?_
      refine j_iload_n hE dX12_bits_12 rfl 2 rfl ?_
      refine j_ishr hE dX12_bits_13 ?_
      refine j_iconst (v := 1) hE dX12_bits_14 (by decide) ?_
      refine j_iand hE dX12_bits_15 ?_
      refine j_iadd hE dX12_bits_16 ?_
      refine j_istore_n (lv' := [(1, .int (v1 + ((x0 >>> (v2 &&& 31)) &&& 1))), (0, .int x0), (2, .int v2)]) hE dX12_bits_17 rfl (by decide) rfl ?_
      refine j_iinc (v := (v2 + 1)) (lv' := [(2, .int (v2 + 1)), (1, .int (v1 + ((x0 >>> (v2 &&& 31)) &&& 1))), (0, .int x0)]) hE dX12_bits_18 2 rfl rfl (by decide) rfl ?_
      refine j_goto (tgt := 4) hE dX12_bits_21 (by decide) ?_
      exact j_sub [2, 1, 0] rfl (ih (v1 + ((x0 >>> (v2 &&& 31)) &&& 1)) (v2 + 1) hf)
set_option maxRecDepth 100000 in
theorem c_Mo_bits (l : Launch) (g : jG)   (x0 : Int32) (res : Int32) (hf : f_Mo_bits x0 = some res) : MC l g yX12_bits cX12_bits 3 (some .int) rm_Mo_bits [.int x0] (([] : List va_W)) (some (.int res)) (([] : List va_W)) 0 0 := by
  refine MC_of (own := RX12) (lv := [(0, .int x0)]) (by decide) rfl (Nat.le_of_ble_eq_true rfl) rfl rfl (fun E hE hq => ?_)
  unfold f_Mo_bits at hf
  refine j_iconst (v := 0) hE dX12_bits_0 (by decide) ?_
  refine j_istore_n (lv' := [(1, .int 0), (0, .int x0)]) hE dX12_bits_1 rfl (by decide) rfl ?_
  refine j_iconst (v := 0) hE dX12_bits_2 (by decide) ?_
  refine j_istore_n (lv' := [(2, .int 0), (1, .int 0), (0, .int x0)]) hE dX12_bits_3 rfl (by decide) rfl ?_
  exact j_sub [2, 1, 0] rfl (j_Mo_bits_4 E g x0 res hE hq FU 0 0 hf)
def rm_Mo_savedBy : Room := { frames := 0, cells := 0, slots := 0, locals := 0 }
def f_Mo_savedBy_4 (mo_z : jZ) (x1 : Int32)  : Nat → Int32 → Int32 → Option (Int32)
  | 0, _, _ => none
  | n + 1, v2, v3 => (if (mo_z 4 0) ≤ v3 then some v2
    else (if ((x1 >>> (v3 &&& 31)) &&& 1) = 0 then f_Mo_savedBy_4 mo_z x1 n v2 (v3 + 1)
    else (ix v3 12).bind fun _ => (if (mo_z 4 0) ≤ (v3 + 1) then f_Mo_savedBy_4 mo_z x1 n (v2 + ((((mo_z 56 (Int32.toNatClampNeg v3)) * (mo_z 18 0)) / 10) - 0)) (v3 + 1)
    else (if ((x1 >>> ((v3 + 1) &&& 31)) &&& 1) = 0 then f_Mo_savedBy_4 mo_z x1 n (v2 + ((((mo_z 56 (Int32.toNatClampNeg v3)) * (mo_z 18 0)) / 10) - (((((mo_z 56 (Int32.toNatClampNeg v3)) * (mo_z 18 0)) / 10) * (mo_z 19 0)) / 10))) (v3 + 1)
    else f_Mo_savedBy_4 mo_z x1 n (v2 + ((((mo_z 56 (Int32.toNatClampNeg v3)) * (mo_z 18 0)) / 10) - 0)) (v3 + 1)))))
def f_Mo_savedBy (mo_z : jZ) (x1 : Int32) : Option (Int32) := f_Mo_savedBy_4 mo_z x1 FU 0 0
set_option maxRecDepth 100000 in
theorem j_Mo_savedBy_4 (E : jT) (g : jG) (a : Nat → Nat) (mo_z : jZ) (mo_y : jY) (x1 : Int32) (res : Int32) (hE : jOk E g RX12 cX12_savedBy 5 (some .int) rm_Mo_savedBy) (hq : jEnd E g (some (.int res)) (([n_Mo g a mo_z mo_y] : List va_W)) 0 0)  : ∀ (n : Nat) (v2 : Int32) (v3 : Int32), f_Mo_savedBy_4 mo_z x1 n v2 v3 = some res → J E g 0 0 (([n_Mo g a mo_z mo_y] : List va_W)) [(0, .ref (a 0)), (1, .int x1), (2, .int v2), (3, .int v3)] 4 [] := by
  intro n
  induction n with
  | zero =>
    intro v2 v3 hf
    rw [f_Mo_savedBy_4] at hf
    cases hf
  | succ n ih =>
    intro v2 v3 hf
    rw [f_Mo_savedBy_4] at hf
    refine j_iload_n hE dX12_savedBy_4 rfl 3 rfl ?_
    refine j_aload_n hE dX12_savedBy_5 rfl 0 rfl ?_
    refine j_get (v := .int (mo_z 4 0)) hE lg_Mo_240 0 rfl 0 (wg_Mo_0 g a mo_z mo_y) rfl dX12_savedBy_6 ?_
    refine j_icmp_ge (tgt := 85) hE hf dX12_savedBy_9 (by decide) (fun c1 hf => ?_) (fun c1 hf => ?_)
    · refine j_iload_n hE dX12_savedBy_85 rfl 2 rfl ?_
      obtain rfl := Option.some.inj hf
      exact j_iret hE hq rfl rfl dX12_savedBy_86
    · refine j_iload_n hE dX12_savedBy_12 rfl 1 rfl ?_
      refine j_iload_n hE dX12_savedBy_13 rfl 3 rfl ?_
      refine j_ishr hE dX12_savedBy_14 ?_
      refine j_iconst (v := 1) hE dX12_savedBy_15 (by decide) ?_
      refine j_iand hE dX12_savedBy_16 ?_
      refine j_if_ne (tgt := 23) hE hf dX12_savedBy_17 (by decide) (fun c2 hf => ?_) (fun c2 hf => ?_)
      · refine j_aload_n hE dX12_savedBy_23 rfl 0 rfl ?_
        refine j_get (v := .ref (a 21)) hE lg_Mo_84 0 rfl 0 (wg_Mo_0 g a mo_z mo_y) rfl dX12_savedBy_24 ?_
        refine j_iload_n hE dX12_savedBy_27 rfl 3 rfl ?_
        refine j_iald hE hf 0 rfl 21 (wg_Mo_21 g a mo_z mo_y) dX12_savedBy_28 (fun hf => ?_)
        refine j_aload_n hE dX12_savedBy_29 rfl 0 rfl ?_
        refine j_get (v := .int (mo_z 18 0)) hE lg_Mo_52 0 rfl 0 (wg_Mo_0 g a mo_z mo_y) rfl dX12_savedBy_30 ?_
        refine j_imul hE dX12_savedBy_33 ?_
        refine j_bipush (v := 10) hE dX12_savedBy_34 (by decide) ?_
        refine j_idiv_c hE (by decide) dX12_savedBy_36 ?_
        refine j_istore (lv' := [(4, .int (((mo_z 56 (Int32.toNatClampNeg v3)) * (mo_z 18 0)) / 10)), (0, .ref (a 0)), (1, .int x1), (2, .int v2), (3, .int v3)]) hE dX12_savedBy_37 (by decide) rfl ?_
        refine j_iload_n hE dX12_savedBy_39 rfl 3 rfl ?_
        refine j_iload hE dX12_savedBy_40 0 rfl ?_
        refine j_iload_n hE dX12_savedBy_42 rfl 4 rfl ?_
        refine j_iconst (v := 1) hE dX12_savedBy_43 (by decide) ?_
        refine j_iadd hE dX12_savedBy_44 ?_
        refine j_aload_n hE dX12_savedBy_45 rfl 1 rfl ?_
        refine j_get (v := .int (mo_z 4 0)) hE lg_Mo_240 0 rfl 0 (wg_Mo_0 g a mo_z mo_y) rfl dX12_savedBy_46 ?_
        refine j_icmp_ge (tgt := 75) hE hf dX12_savedBy_49 (by decide) (fun c4 hf => ?_) (fun c4 hf => ?_)
        · refine j_iconst (v := 0) hE dX12_savedBy_75 (by decide) ?_
          refine j_isub hE dX12_savedBy_76 ?_
          refine j_iadd hE dX12_savedBy_77 ?_
          refine j_istore_n (lv' := [(2, .int (v2 + ((((mo_z 56 (Int32.toNatClampNeg v3)) * (mo_z 18 0)) / 10) - 0))), (4, .int (((mo_z 56 (Int32.toNatClampNeg v3)) * (mo_z 18 0)) / 10)), (0, .ref (a 0)), (1, .int x1), (3, .int v3)]) hE dX12_savedBy_78 rfl (by decide) rfl ?_
          refine j_iinc (v := (v3 + 1)) (lv' := [(3, .int (v3 + 1)), (2, .int (v2 + ((((mo_z 56 (Int32.toNatClampNeg v3)) * (mo_z 18 0)) / 10) - 0))), (4, .int (((mo_z 56 (Int32.toNatClampNeg v3)) * (mo_z 18 0)) / 10)), (0, .ref (a 0)), (1, .int x1)]) hE dX12_savedBy_79 4 rfl rfl (by decide) rfl ?_
          refine j_goto (tgt := 4) hE dX12_savedBy_82 (by decide) ?_
          exact j_sub [3, 4, 1, 0] rfl (ih (v2 + ((((mo_z 56 (Int32.toNatClampNeg v3)) * (mo_z 18 0)) / 10) - 0)) (v3 + 1) hf)
        · refine j_iload_n hE dX12_savedBy_52 rfl 2 rfl ?_
          refine j_iload_n hE dX12_savedBy_53 rfl 4 rfl ?_
          refine j_iconst (v := 1) hE dX12_savedBy_54 (by decide) ?_
          refine j_iadd hE dX12_savedBy_55 ?_
          refine j_ishr hE dX12_savedBy_56 ?_
          refine j_iconst (v := 1) hE dX12_savedBy_57 (by decide) ?_
          refine j_iand hE dX12_savedBy_58 ?_
          refine j_if_ne (tgt := 75) hE hf dX12_savedBy_59 (by decide) (fun c5 hf => ?_) (fun c5 hf => ?_)
          · refine j_iconst (v := 0) hE dX12_savedBy_75 (by decide) ?_
            refine j_isub hE dX12_savedBy_76 ?_
            refine j_iadd hE dX12_savedBy_77 ?_
            refine j_istore_n (lv' := [(2, .int (v2 + ((((mo_z 56 (Int32.toNatClampNeg v3)) * (mo_z 18 0)) / 10) - 0))), (4, .int (((mo_z 56 (Int32.toNatClampNeg v3)) * (mo_z 18 0)) / 10)), (0, .ref (a 0)), (1, .int x1), (3, .int v3)]) hE dX12_savedBy_78 rfl (by decide) rfl ?_
            refine j_iinc (v := (v3 + 1)) (lv' := [(3, .int (v3 + 1)), (2, .int (v2 + ((((mo_z 56 (Int32.toNatClampNeg v3)) * (mo_z 18 0)) / 10) - 0))), (4, .int (((mo_z 56 (Int32.toNatClampNeg v3)) * (mo_z 18 0)) / 10)), (0, .ref (a 0)), (1, .int x1)]) hE dX12_savedBy_79 4 rfl rfl (by decide) rfl ?_
            refine j_goto (tgt := 4) hE dX12_savedBy_82 (by decide) ?_
            exact j_sub [3, 4, 1, 0] rfl (ih (v2 + ((((mo_z 56 (Int32.toNatClampNeg v3)) * (mo_z 18 0)) / 10) - 0)) (v3 + 1) hf)
          · refine j_iload hE dX12_savedBy_62 0 rfl ?_
            refine j_aload_n hE dX12_savedBy_64 rfl 1 rfl ?_
            refine j_get (v := .int (mo_z 19 0)) hE lg_Mo_246 0 rfl 0 (wg_Mo_0 g a mo_z mo_y) rfl dX12_savedBy_65 ?_
            refine j_imul hE dX12_savedBy_68 ?_
            refine j_bipush (v := 10) hE dX12_savedBy_69 (by decide) ?_
            refine j_idiv_c hE (by decide) dX12_savedBy_71 ?_
            refine j_goto (tgt := 76) hE dX12_savedBy_72 (by decide) ?_
            refine j_isub hE dX12_savedBy_76 ?_
            refine j_iadd hE dX12_savedBy_77 ?_
            refine j_istore_n (lv' := [(2, .int (v2 + ((((mo_z 56 (Int32.toNatClampNeg v3)) * (mo_z 18 0)) / 10) - (((((mo_z 56 (Int32.toNatClampNeg v3)) * (mo_z 18 0)) / 10) * (mo_z 19 0)) / 10)))), (4, .int (((mo_z 56 (Int32.toNatClampNeg v3)) * (mo_z 18 0)) / 10)), (0, .ref (a 0)), (1, .int x1), (3, .int v3)]) hE dX12_savedBy_78 rfl (by decide) rfl ?_
            refine j_iinc (v := (v3 + 1)) (lv' := [(3, .int (v3 + 1)), (2, .int (v2 + ((((mo_z 56 (Int32.toNatClampNeg v3)) * (mo_z 18 0)) / 10) - (((((mo_z 56 (Int32.toNatClampNeg v3)) * (mo_z 18 0)) / 10) * (mo_z 19 0)) / 10)))), (4, .int (((mo_z 56 (Int32.toNatClampNeg v3)) * (mo_z 18 0)) / 10)), (0, .ref (a 0)), (1, .int x1)]) hE dX12_savedBy_79 4 rfl rfl (by decide) rfl ?_
            refine j_goto (tgt := 4) hE dX12_savedBy_82 (by decide) ?_
            exact j_sub [3, 4, 1, 0] rfl (ih (v2 + ((((mo_z 56 (Int32.toNatClampNeg v3)) * (mo_z 18 0)) / 10) - (((((mo_z 56 (Int32.toNatClampNeg v3)) * (mo_z 18 0)) / 10) * (mo_z 19 0)) / 10))) (v3 + 1) hf)
      · refine j_goto (tgt := 79) hE dX12_savedBy_20 (by decide) ?_
        refine j_iinc (v := (v3 + 1)) (lv' := [(3, .int (v3 + 1)), (0, .ref (a 0)), (1, .int x1), (2, .int v2)]) hE dX12_savedBy_79 3 rfl rfl (by decide) rfl ?_
        refine j_goto (tgt := 4) hE dX12_savedBy_82 (by decide) ?_
        exact j_sub [1, 2, 3, 0] rfl (ih v2 (v3 + 1) hf)
set_option maxRecDepth 100000 in
theorem c_Mo_savedBy (l : Launch) (g : jG) (a : Nat → Nat) (mo_z : jZ) (mo_y : jY) (x1 : Int32) (res : Int32) (hf : f_Mo_savedBy mo_z x1 = some res) : MC l g yX12_savedBy cX12_savedBy 5 (some .int) rm_Mo_savedBy [.ref (a 0), .int x1] (([n_Mo g a mo_z mo_y] : List va_W)) (some (.int res)) (([n_Mo g a mo_z mo_y] : List va_W)) 0 0 := by
  refine MC_of (own := RX12) (lv := [(0, .ref (a 0)), (1, .int x1)]) (by decide) rfl (Nat.le_of_ble_eq_true rfl) rfl rfl (fun E hE hq => ?_)
  unfold f_Mo_savedBy at hf
  refine j_iconst (v := 0) hE dX12_savedBy_0 (by decide) ?_
  refine j_istore_n (lv' := [(2, .int 0), (0, .ref (a 0)), (1, .int x1)]) hE dX12_savedBy_1 rfl (by decide) rfl ?_
  refine j_iconst (v := 0) hE dX12_savedBy_2 (by decide) ?_
  refine j_istore_n (lv' := [(3, .int 0), (2, .int 0), (0, .ref (a 0)), (1, .int x1)]) hE dX12_savedBy_3 rfl (by decide) rfl ?_
  exact j_sub [2, 3, 1, 0] rfl (j_Mo_savedBy_4 E g a mo_z mo_y x1 res hE hq FU 0 0 hf)
def rm_Mo_coinOf : Room := { frames := 0, cells := 0, slots := 0, locals := 0 }
def f_Mo_coinOf_4 (mo_z : jZ) (x1 : Int32)  : Nat → Int32 → Int32 → Option (Int32)
  | 0, _, _ => none
  | n + 1, v2, v3 => (if (mo_z 4 0) ≤ v3 then some v2
    else (if ((x1 >>> (v3 &&& 31)) &&& 1) = 1 then (ix v3 12).bind fun _ => f_Mo_coinOf_4 mo_z x1 n (v2 + (mo_z 14 (Int32.toNatClampNeg v3))) (v3 + 1)
    else f_Mo_coinOf_4 mo_z x1 n (v2 + 0) (v3 + 1)))
def f_Mo_coinOf (mo_z : jZ) (x1 : Int32) : Option (Int32) := f_Mo_coinOf_4 mo_z x1 FU 0 0
set_option maxRecDepth 100000 in
theorem j_Mo_coinOf_4 (E : jT) (g : jG) (a : Nat → Nat) (mo_z : jZ) (mo_y : jY) (x1 : Int32) (res : Int32) (hE : jOk E g RX12 cX12_coinOf 4 (some .int) rm_Mo_coinOf) (hq : jEnd E g (some (.int res)) (([n_Mo g a mo_z mo_y] : List va_W)) 0 0)  : ∀ (n : Nat) (v2 : Int32) (v3 : Int32), f_Mo_coinOf_4 mo_z x1 n v2 v3 = some res → J E g 0 0 (([n_Mo g a mo_z mo_y] : List va_W)) [(0, .ref (a 0)), (1, .int x1), (2, .int v2), (3, .int v3)] 4 [] := by
  intro n
  induction n with
  | zero =>
    intro v2 v3 hf
    rw [f_Mo_coinOf_4] at hf
    cases hf
  | succ n ih =>
    intro v2 v3 hf
    rw [f_Mo_coinOf_4] at hf
    refine j_iload_n hE dX12_coinOf_4 rfl 3 rfl ?_
    refine j_aload_n hE dX12_coinOf_5 rfl 0 rfl ?_
    refine j_get (v := .int (mo_z 4 0)) hE lg_Mo_240 0 rfl 0 (wg_Mo_0 g a mo_z mo_y) rfl dX12_coinOf_6 ?_
    refine j_icmp_ge (tgt := 40) hE hf dX12_coinOf_9 (by decide) (fun c1 hf => ?_) (fun c1 hf => ?_)
    · refine j_iload_n hE dX12_coinOf_40 rfl 2 rfl ?_
      obtain rfl := Option.some.inj hf
      exact j_iret hE hq rfl rfl dX12_coinOf_41
    · refine j_iload_n hE dX12_coinOf_12 rfl 2 rfl ?_
      refine j_iload_n hE dX12_coinOf_13 rfl 1 rfl ?_
      refine j_iload_n hE dX12_coinOf_14 rfl 3 rfl ?_
      refine j_ishr hE dX12_coinOf_15 ?_
      refine j_iconst (v := 1) hE dX12_coinOf_16 (by decide) ?_
      refine j_iand hE dX12_coinOf_17 ?_
      refine j_iconst (v := 1) hE dX12_coinOf_18 (by decide) ?_
      refine j_icmp_ne (tgt := 31) hE hf dX12_coinOf_19 (by decide) (fun c2 hf => ?_) (fun c2 hf => ?_)
      · refine j_iconst (v := 0) hE dX12_coinOf_31 (by decide) ?_
        refine j_iadd hE dX12_coinOf_32 ?_
        refine j_istore_n (lv' := [(2, .int (v2 + 0)), (0, .ref (a 0)), (1, .int x1), (3, .int v3)]) hE dX12_coinOf_33 rfl (by decide) rfl ?_
        refine j_iinc (v := (v3 + 1)) (lv' := [(3, .int (v3 + 1)), (2, .int (v2 + 0)), (0, .ref (a 0)), (1, .int x1)]) hE dX12_coinOf_34 3 rfl rfl (by decide) rfl ?_
        refine j_goto (tgt := 4) hE dX12_coinOf_37 (by decide) ?_
        exact j_sub [2, 3, 1, 0] rfl (ih (v2 + 0) (v3 + 1) hf)
      · refine j_aload_n hE dX12_coinOf_22 rfl 0 rfl ?_
        refine j_get (v := .ref (a 11)) hE lg_Mo_43 0 rfl 0 (wg_Mo_0 g a mo_z mo_y) rfl dX12_coinOf_23 ?_
        refine j_iload_n hE dX12_coinOf_26 rfl 3 rfl ?_
        refine j_iald hE hf 0 rfl 11 (wg_Mo_11 g a mo_z mo_y) dX12_coinOf_27 (fun hf => ?_)
        refine j_goto (tgt := 32) hE dX12_coinOf_28 (by decide) ?_
        refine j_iadd hE dX12_coinOf_32 ?_
        refine j_istore_n (lv' := [(2, .int (v2 + (mo_z 14 (Int32.toNatClampNeg v3)))), (0, .ref (a 0)), (1, .int x1), (3, .int v3)]) hE dX12_coinOf_33 rfl (by decide) rfl ?_
        refine j_iinc (v := (v3 + 1)) (lv' := [(3, .int (v3 + 1)), (2, .int (v2 + (mo_z 14 (Int32.toNatClampNeg v3)))), (0, .ref (a 0)), (1, .int x1)]) hE dX12_coinOf_34 3 rfl rfl (by decide) rfl ?_
        refine j_goto (tgt := 4) hE dX12_coinOf_37 (by decide) ?_
        exact j_sub [2, 3, 1, 0] rfl (ih (v2 + (mo_z 14 (Int32.toNatClampNeg v3))) (v3 + 1) hf)
set_option maxRecDepth 100000 in
theorem c_Mo_coinOf (l : Launch) (g : jG) (a : Nat → Nat) (mo_z : jZ) (mo_y : jY) (x1 : Int32) (res : Int32) (hf : f_Mo_coinOf mo_z x1 = some res) : MC l g yX12_coinOf cX12_coinOf 4 (some .int) rm_Mo_coinOf [.ref (a 0), .int x1] (([n_Mo g a mo_z mo_y] : List va_W)) (some (.int res)) (([n_Mo g a mo_z mo_y] : List va_W)) 0 0 := by
  refine MC_of (own := RX12) (lv := [(0, .ref (a 0)), (1, .int x1)]) (by decide) rfl (Nat.le_of_ble_eq_true rfl) rfl rfl (fun E hE hq => ?_)
  unfold f_Mo_coinOf at hf
  refine j_iconst (v := 0) hE dX12_coinOf_0 (by decide) ?_
  refine j_istore_n (lv' := [(2, .int 0), (0, .ref (a 0)), (1, .int x1)]) hE dX12_coinOf_1 rfl (by decide) rfl ?_
  refine j_iconst (v := 0) hE dX12_coinOf_2 (by decide) ?_
  refine j_istore_n (lv' := [(3, .int 0), (2, .int 0), (0, .ref (a 0)), (1, .int x1)]) hE dX12_coinOf_3 rfl (by decide) rfl ?_
  exact j_sub [2, 3, 1, 0] rfl (j_Mo_coinOf_4 E g a mo_z mo_y x1 res hE hq FU 0 0 hf)
def rm_Mo_poles : Room := { frames := 4, cells := 0, slots := 0, locals := 104 }
def f_Mo_poles_96  (x1 : Int32) (x2 : Int32) (x3 : Int32) (k54 : jZ → jY → Int32 → Int32 → Int32 → Option (jZ × jY × Int32)) (mo_z : jZ) (mo_y : jY) (v4 : Int32) (v5 : Int32) (v6 : Int32) (s0 : Int32) : Option (jZ × jY × Int32) := (if v4 = (-1) then k54 mo_z mo_y v6 s0 (v6 + 1)
    else (if v5 < s0 then k54 mo_z mo_y v6 s0 (v6 + 1)
    else k54 mo_z mo_y v4 v5 (v6 + 1)))
def f_Mo_poles_54  (x1 : Int32) (x2 : Int32) (x3 : Int32)  : Nat → jZ → jY → Int32 → Int32 → Int32 → Option (jZ × jY × Int32)
  | 0, _, _, _, _, _ => none
  | n + 1, mo_z, mo_y, v4, v5, v6 => (if (1 <<< ((mo_z 4 0) &&& 31)) ≤ v6 then (if x3 = 0 then some (mo_z, mo_y, v4)
    else (if x3 = 1 then (f_Mo_savedBy mo_z v4).bind fun q16 => some (mo_z, mo_y, q16)
    else (f_Mo_coinOf mo_z v4).bind fun q14 => some (mo_z, mo_y, q14)))
    else (f_Mo_bits v6).bind fun q18 => (if q18 = x1 then (if x2 = 0 then (f_Mo_savedBy mo_z v6).bind fun q24 => f_Mo_poles_96 x1 x2 x3 (fun mo_z mo_y v4 v5 v6 => f_Mo_poles_54 x1 x2 x3 n mo_z mo_y v4 v5 v6) mo_z mo_y v4 v5 v6 q24
    else (f_Mo_coinOf mo_z v6).bind fun q22 => f_Mo_poles_96 x1 x2 x3 (fun mo_z mo_y v4 v5 v6 => f_Mo_poles_54 x1 x2 x3 n mo_z mo_y v4 v5 v6) mo_z mo_y v4 v5 v6 q22)
    else f_Mo_poles_54 x1 x2 x3 n mo_z mo_y v4 v5 (v6 + 1)))
def f_Mo_poles (mo_z : jZ) (mo_y : jY) (x1 : Int32) (x2 : Int32) (x3 : Int32) : Option (jZ × jY × Int32) := (if x1 < 0 then some ((up2 mo_z 0 0 0), mo_y, (-1))
    else (if (mo_z 4 0) < x1 then some ((up2 mo_z 0 0 0), mo_y, (-1))
    else (if x2 < 0 then some ((up2 mo_z 0 0 0), mo_y, (-1))
    else (if 1 < x2 then some ((up2 mo_z 0 0 0), mo_y, (-1))
    else (if x3 < 0 then some ((up2 mo_z 0 0 0), mo_y, (-1))
    else (if x3 ≤ 2 then (f_Mo_knows (up2 mo_z 0 0 0)).bind fun q7 => (f_Mo_allRates q7 mo_y).bind fun q9 => f_Mo_poles_54 x1 x2 x3 FU q9.1 q9.2 (-1) 0 0
    else some ((up2 mo_z 0 0 0), mo_y, (-1))))))))
set_option maxRecDepth 100000 in
theorem j_Mo_poles_96 (E : jT) (g : jG) (a : Nat → Nat)  (x1 : Int32) (x2 : Int32) (x3 : Int32) (res : jZ × jY × Int32) (hE : jOk E g RX12 cX12_poles 8 (some .int) rm_Mo_poles) (hq : jEnd E g (some (.int res.2.2)) (([n_Mo g a res.1 res.2.1] : List va_W)) 0 0) (k54 : jZ → jY → Int32 → Int32 → Int32 → Option (jZ × jY × Int32)) (hk54 : ∀ (mo_z : jZ) (mo_y : jY) (v4 : Int32) (v5 : Int32) (v6 : Int32), k54 mo_z mo_y v4 v5 v6 = some res → J E g 0 0 (([n_Mo g a mo_z mo_y] : List va_W)) [(0, .ref (a 0)), (1, .int x1), (2, .int x2), (3, .int x3), (4, .int v4), (5, .int v5), (6, .int v6)] 54 []) (mo_z : jZ) (mo_y : jY) (v4 : Int32) (v5 : Int32) (v6 : Int32) (s0 : Int32) (hf : f_Mo_poles_96 x1 x2 x3 k54 mo_z mo_y v4 v5 v6 s0 = some res) : J E g 0 0 (([n_Mo g a mo_z mo_y] : List va_W)) [(0, .ref (a 0)), (1, .int x1), (2, .int x2), (3, .int x3), (4, .int v4), (5, .int v5), (6, .int v6)] 96 [.int s0] := by
  unfold f_Mo_poles_96 at hf
  refine j_istore (lv' := [(7, .int s0), (0, .ref (a 0)), (1, .int x1), (2, .int x2), (3, .int x3), (4, .int v4), (5, .int v5), (6, .int v6)]) hE dX12_poles_96 (by decide) rfl ?_
  refine j_iload hE dX12_poles_98 5 rfl ?_
  refine j_iconst (v := (-1)) hE dX12_poles_100 (by decide) ?_
  refine j_icmp_eq (tgt := 114) hE hf dX12_poles_101 (by decide) (fun c26 hf => ?_) (fun c26 hf => ?_)
  · refine j_iload hE dX12_poles_114 7 rfl ?_
    refine j_istore (lv' := [(4, .int v6), (7, .int s0), (0, .ref (a 0)), (1, .int x1), (2, .int x2), (3, .int x3), (5, .int v5), (6, .int v6)]) hE dX12_poles_116 (by decide) rfl ?_
    refine j_iload hE dX12_poles_118 1 rfl ?_
    refine j_istore (lv' := [(5, .int s0), (4, .int v6), (7, .int s0), (0, .ref (a 0)), (1, .int x1), (2, .int x2), (3, .int x3), (6, .int v6)]) hE dX12_poles_120 (by decide) rfl ?_
    refine j_iinc (v := (v6 + 1)) (lv' := [(6, .int (v6 + 1)), (5, .int s0), (4, .int v6), (7, .int s0), (0, .ref (a 0)), (1, .int x1), (2, .int x2), (3, .int x3)]) hE dX12_poles_122 7 rfl rfl (by decide) rfl ?_
    refine j_goto (tgt := 54) hE dX12_poles_125 (by decide) ?_
    exact j_sub [4, 5, 6, 7, 2, 1, 0] rfl (hk54 mo_z mo_y v6 s0 (v6 + 1) hf)
  · refine j_iload hE dX12_poles_104 0 rfl ?_
    refine j_iload hE dX12_poles_106 6 rfl ?_
    refine j_icmp_gt (tgt := 114) hE hf dX12_poles_108 (by decide) (fun c27 hf => ?_) (fun c27 hf => ?_)
    · refine j_iload hE dX12_poles_114 7 rfl ?_
      refine j_istore (lv' := [(4, .int v6), (7, .int s0), (0, .ref (a 0)), (1, .int x1), (2, .int x2), (3, .int x3), (5, .int v5), (6, .int v6)]) hE dX12_poles_116 (by decide) rfl ?_
      refine j_iload hE dX12_poles_118 1 rfl ?_
      refine j_istore (lv' := [(5, .int s0), (4, .int v6), (7, .int s0), (0, .ref (a 0)), (1, .int x1), (2, .int x2), (3, .int x3), (6, .int v6)]) hE dX12_poles_120 (by decide) rfl ?_
      refine j_iinc (v := (v6 + 1)) (lv' := [(6, .int (v6 + 1)), (5, .int s0), (4, .int v6), (7, .int s0), (0, .ref (a 0)), (1, .int x1), (2, .int x2), (3, .int x3)]) hE dX12_poles_122 7 rfl rfl (by decide) rfl ?_
      refine j_goto (tgt := 54) hE dX12_poles_125 (by decide) ?_
      exact j_sub [4, 5, 6, 7, 2, 1, 0] rfl (hk54 mo_z mo_y v6 s0 (v6 + 1) hf)
    · refine j_goto (tgt := 122) hE dX12_poles_111 (by decide) ?_
      refine j_iinc (v := (v6 + 1)) (lv' := [(6, .int (v6 + 1)), (7, .int s0), (0, .ref (a 0)), (1, .int x1), (2, .int x2), (3, .int x3), (4, .int v4), (5, .int v5)]) hE dX12_poles_122 7 rfl rfl (by decide) rfl ?_
      refine j_goto (tgt := 54) hE dX12_poles_125 (by decide) ?_
      exact j_sub [2, 3, 4, 5, 6, 7, 0] rfl (hk54 mo_z mo_y v4 v5 (v6 + 1) hf)
set_option maxRecDepth 100000 in
theorem j_Mo_poles_54 (E : jT) (g : jG) (a : Nat → Nat)  (x1 : Int32) (x2 : Int32) (x3 : Int32) (res : jZ × jY × Int32) (hE : jOk E g RX12 cX12_poles 8 (some .int) rm_Mo_poles) (hq : jEnd E g (some (.int res.2.2)) (([n_Mo g a res.1 res.2.1] : List va_W)) 0 0)  : ∀ (n : Nat) (mo_z : jZ) (mo_y : jY) (v4 : Int32) (v5 : Int32) (v6 : Int32), f_Mo_poles_54 x1 x2 x3 n mo_z mo_y v4 v5 v6 = some res → J E g 0 0 (([n_Mo g a mo_z mo_y] : List va_W)) [(0, .ref (a 0)), (1, .int x1), (2, .int x2), (3, .int x3), (4, .int v4), (5, .int v5), (6, .int v6)] 54 [] := by
  intro n
  induction n with
  | zero =>
    intro mo_z mo_y v4 v5 v6 hf
    rw [f_Mo_poles_54] at hf
    cases hf
  | succ n ih =>
    intro mo_z mo_y v4 v5 v6 hf
    rw [f_Mo_poles_54] at hf
    refine j_iload hE dX12_poles_54 6 rfl ?_
    refine j_iconst (v := 1) hE dX12_poles_56 (by decide) ?_
    refine j_aload_n hE dX12_poles_57 rfl 0 rfl ?_
    refine j_get (v := .int (mo_z 4 0)) hE lg_Mo_240 0 rfl 0 (wg_Mo_0 g a mo_z mo_y) rfl dX12_poles_58 ?_
    refine j_ishl hE dX12_poles_61 ?_
    refine j_icmp_ge (tgt := 128) hE hf dX12_poles_62 (by decide) (fun c11 hf => ?_) (fun c11 hf => ?_)
    · refine j_iload_n hE dX12_poles_128 rfl 3 rfl ?_
      refine j_if_ne (tgt := 137) hE hf dX12_poles_129 (by decide) (fun c12 hf => ?_) (fun c12 hf => ?_)
      · refine j_iload_n hE dX12_poles_137 rfl 3 rfl ?_
        refine j_iconst (v := 1) hE dX12_poles_138 (by decide) ?_
        refine j_icmp_ne (tgt := 151) hE hf dX12_poles_139 (by decide) (fun c13 hf => ?_) (fun c13 hf => ?_)
        · refine j_aload_n hE dX12_poles_151 rfl 0 rfl ?_
          refine j_iload hE dX12_poles_152 4 rfl ?_
          obtain ⟨q14, hc15, hf⟩ := bind_of hf
          refine j_callV (ws' := ([n_Mo g a mo_z mo_y] : List va_W)) (As := [.int v4]) (rest := []) (st2 := [.int q14]) hE (fun l => c_Mo_coinOf l g a mo_z mo_y v4 q14 hc15) cd_X12_coinOf cv_X12_coinOf ml_Mo_393 rfl rfl rfl (wg_Mo_0 _ _ _ _) ⟨⟨Nat.le_of_ble_eq_true rfl, Nat.le_of_ble_eq_true rfl⟩, ⟨Nat.zero_le _, Nat.zero_le _⟩, rfl, rfl⟩ [0] rfl rfl rfl (Nat.le_of_ble_eq_true rfl) rfl dX12_poles_154 ?_
          obtain rfl := Option.some.inj hf
          exact j_iret hE hq rfl rfl dX12_poles_157
        · refine j_aload_n hE dX12_poles_142 rfl 0 rfl ?_
          refine j_iload hE dX12_poles_143 4 rfl ?_
          obtain ⟨q16, hc17, hf⟩ := bind_of hf
          refine j_callV (ws' := ([n_Mo g a mo_z mo_y] : List va_W)) (As := [.int v4]) (rest := []) (st2 := [.int q16]) hE (fun l => c_Mo_savedBy l g a mo_z mo_y v4 q16 hc17) cd_X12_savedBy cv_X12_savedBy ml_Mo_390 rfl rfl rfl (wg_Mo_0 _ _ _ _) ⟨⟨Nat.le_of_ble_eq_true rfl, Nat.le_of_ble_eq_true rfl⟩, ⟨Nat.zero_le _, Nat.zero_le _⟩, rfl, rfl⟩ [0] rfl rfl rfl (Nat.le_of_ble_eq_true rfl) rfl dX12_poles_145 ?_
          refine j_goto (tgt := 157) hE dX12_poles_148 (by decide) ?_
          obtain rfl := Option.some.inj hf
          exact j_iret hE hq rfl rfl dX12_poles_157
      · refine j_iload hE dX12_poles_132 4 rfl ?_
        refine j_goto (tgt := 157) hE dX12_poles_134 (by decide) ?_
        obtain rfl := Option.some.inj hf
        exact j_iret hE hq rfl rfl dX12_poles_157
    · refine j_iload hE dX12_poles_65 6 rfl ?_
      obtain ⟨q18, hc19, hf⟩ := bind_of hf
      refine j_callS (ws' := ([n_Mo g a mo_z mo_y] : List va_W)) (As := [.int v6]) (rest := []) (st2 := [.int q18]) hE (fun l => c_Mo_bits l g v6 q18 hc19) cd_X12_bits st_X12_bits ml_Mo_387 rfl rfl ⟨⟨Nat.le_of_ble_eq_true rfl, Nat.le_of_ble_eq_true rfl⟩, ⟨Nat.zero_le _, Nat.zero_le _⟩, rfl, rfl⟩ [] rfl rfl rfl (Nat.le_of_ble_eq_true rfl) rfl dX12_poles_67 ?_
      refine j_iload_n hE dX12_poles_70 rfl 1 rfl ?_
      refine j_icmp_eq (tgt := 77) hE hf dX12_poles_71 (by decide) (fun c20 hf => ?_) (fun c20 hf => ?_)
      · refine j_iload_n hE dX12_poles_77 rfl 2 rfl ?_
        refine j_if_ne (tgt := 90) hE hf dX12_poles_78 (by decide) (fun c21 hf => ?_) (fun c21 hf => ?_)
        · refine j_aload_n hE dX12_poles_90 rfl 0 rfl ?_
          refine j_iload hE dX12_poles_91 6 rfl ?_
          obtain ⟨q22, hc23, hf⟩ := bind_of hf
          refine j_callV (ws' := ([n_Mo g a mo_z mo_y] : List va_W)) (As := [.int v6]) (rest := []) (st2 := [.int q22]) hE (fun l => c_Mo_coinOf l g a mo_z mo_y v6 q22 hc23) cd_X12_coinOf cv_X12_coinOf ml_Mo_393 rfl rfl rfl (wg_Mo_0 _ _ _ _) ⟨⟨Nat.le_of_ble_eq_true rfl, Nat.le_of_ble_eq_true rfl⟩, ⟨Nat.zero_le _, Nat.zero_le _⟩, rfl, rfl⟩ [0] rfl rfl rfl (Nat.le_of_ble_eq_true rfl) rfl dX12_poles_93 ?_
          exact j_Mo_poles_96 E g a x1 x2 x3 res hE hq (fun mo_z mo_y v4 v5 v6 => f_Mo_poles_54 x1 x2 x3 n mo_z mo_y v4 v5 v6) (fun mo_z mo_y v4 v5 v6 hf => ih mo_z mo_y v4 v5 v6 hf) mo_z mo_y v4 v5 v6 q22 hf
        · refine j_aload_n hE dX12_poles_81 rfl 0 rfl ?_
          refine j_iload hE dX12_poles_82 6 rfl ?_
          obtain ⟨q24, hc25, hf⟩ := bind_of hf
          refine j_callV (ws' := ([n_Mo g a mo_z mo_y] : List va_W)) (As := [.int v6]) (rest := []) (st2 := [.int q24]) hE (fun l => c_Mo_savedBy l g a mo_z mo_y v6 q24 hc25) cd_X12_savedBy cv_X12_savedBy ml_Mo_390 rfl rfl rfl (wg_Mo_0 _ _ _ _) ⟨⟨Nat.le_of_ble_eq_true rfl, Nat.le_of_ble_eq_true rfl⟩, ⟨Nat.zero_le _, Nat.zero_le _⟩, rfl, rfl⟩ [0] rfl rfl rfl (Nat.le_of_ble_eq_true rfl) rfl dX12_poles_84 ?_
          refine j_goto (tgt := 96) hE dX12_poles_87 (by decide) ?_
          exact j_Mo_poles_96 E g a x1 x2 x3 res hE hq (fun mo_z mo_y v4 v5 v6 => f_Mo_poles_54 x1 x2 x3 n mo_z mo_y v4 v5 v6) (fun mo_z mo_y v4 v5 v6 hf => ih mo_z mo_y v4 v5 v6 hf) mo_z mo_y v4 v5 v6 q24 hf
      · refine j_goto (tgt := 122) hE dX12_poles_74 (by decide) ?_
        refine j_iinc (v := (v6 + 1)) (lv' := [(6, .int (v6 + 1)), (0, .ref (a 0)), (1, .int x1), (2, .int x2), (3, .int x3), (4, .int v4), (5, .int v5)]) hE dX12_poles_122 6 rfl rfl (by decide) rfl ?_
        refine j_goto (tgt := 54) hE dX12_poles_125 (by decide) ?_
        exact j_sub [1, 2, 3, 4, 5, 6, 0] rfl (ih mo_z mo_y v4 v5 (v6 + 1) hf)
set_option maxRecDepth 100000 in
theorem c_Mo_poles (l : Launch) (g : jG) (a : Nat → Nat) (mo_z : jZ) (mo_y : jY) (x1 : Int32) (x2 : Int32) (x3 : Int32) (res : jZ × jY × Int32) (hf : f_Mo_poles mo_z mo_y x1 x2 x3 = some res) : MC l g yX12_poles cX12_poles 8 (some .int) rm_Mo_poles [.ref (a 0), .int x1, .int x2, .int x3] (([n_Mo g a mo_z mo_y] : List va_W)) (some (.int res.2.2)) (([n_Mo g a res.1 res.2.1] : List va_W)) 0 0 := by
  refine MC_of (own := RX12) (lv := [(0, .ref (a 0)), (1, .int x1), (2, .int x2), (3, .int x3)]) (by decide) rfl (Nat.le_of_ble_eq_true rfl) rfl rfl (fun E hE hq => ?_)
  unfold f_Mo_poles at hf
  refine j_aload_n hE dX12_poles_0 rfl 0 rfl ?_
  refine j_iconst (v := 0) hE dX12_poles_1 (by decide) ?_
  refine j_put (v := .int 0) (ws' := ([n_Mo g a (up2 mo_z 0 0 0) mo_y] : List va_W)) hE lp_Mo_87 0 rfl 0 (wg_Mo_0 g a mo_z mo_y) rfl rfl (Nat.le_of_ble_eq_true rfl) (wp_Mo_0 g a mo_z mo_y 0) rfl dX12_poles_2 ?_
  refine j_iload_n hE dX12_poles_5 rfl 1 rfl ?_
  refine j_if_lt (tgt := 35) hE hf dX12_poles_6 (by decide) (fun c1 hf => ?_) (fun c1 hf => ?_)
  · refine j_iconst (v := (-1)) hE dX12_poles_35 (by decide) ?_
    obtain rfl := Option.some.inj hf
    exact j_iret hE hq rfl rfl dX12_poles_36
  · refine j_iload_n hE dX12_poles_9 rfl 1 rfl ?_
    refine j_aload_n hE dX12_poles_10 rfl 0 rfl ?_
    refine j_get (v := .int (mo_z 4 0)) hE lg_Mo_240 0 rfl 0 (wg_Mo_0 g a (up2 mo_z 0 0 0) mo_y) rfl dX12_poles_11 ?_
    refine j_icmp_gt (tgt := 35) hE hf dX12_poles_14 (by decide) (fun c2 hf => ?_) (fun c2 hf => ?_)
    · refine j_iconst (v := (-1)) hE dX12_poles_35 (by decide) ?_
      obtain rfl := Option.some.inj hf
      exact j_iret hE hq rfl rfl dX12_poles_36
    · refine j_iload_n hE dX12_poles_17 rfl 2 rfl ?_
      refine j_if_lt (tgt := 35) hE hf dX12_poles_18 (by decide) (fun c3 hf => ?_) (fun c3 hf => ?_)
      · refine j_iconst (v := (-1)) hE dX12_poles_35 (by decide) ?_
        obtain rfl := Option.some.inj hf
        exact j_iret hE hq rfl rfl dX12_poles_36
      · refine j_iload_n hE dX12_poles_21 rfl 2 rfl ?_
        refine j_iconst (v := 1) hE dX12_poles_22 (by decide) ?_
        refine j_icmp_gt (tgt := 35) hE hf dX12_poles_23 (by decide) (fun c4 hf => ?_) (fun c4 hf => ?_)
        · refine j_iconst (v := (-1)) hE dX12_poles_35 (by decide) ?_
          obtain rfl := Option.some.inj hf
          exact j_iret hE hq rfl rfl dX12_poles_36
        · refine j_iload_n hE dX12_poles_26 rfl 3 rfl ?_
          refine j_if_lt (tgt := 35) hE hf dX12_poles_27 (by decide) (fun c5 hf => ?_) (fun c5 hf => ?_)
          · refine j_iconst (v := (-1)) hE dX12_poles_35 (by decide) ?_
            obtain rfl := Option.some.inj hf
            exact j_iret hE hq rfl rfl dX12_poles_36
          · refine j_iload_n hE dX12_poles_30 rfl 3 rfl ?_
            refine j_iconst (v := 2) hE dX12_poles_31 (by decide) ?_
            refine j_icmp_le (tgt := 37) hE hf dX12_poles_32 (by decide) (fun c6 hf => ?_) (fun c6 hf => ?_)
            · refine j_aload_n hE dX12_poles_37 rfl 0 rfl ?_
              obtain ⟨q7, hc8, hf⟩ := bind_of hf
              refine j_callV (ws' := ([n_Mo g a q7 mo_y] : List va_W)) (As := []) (rest := []) (st2 := []) hE (fun l => c_Mo_knows l g a (up2 mo_z 0 0 0) mo_y q7 hc8) cd_X12_knows cv_X12_knows ml_Mo_255 rfl rfl rfl (wg_Mo_0 _ _ _ _) ⟨⟨Nat.le_of_ble_eq_true rfl, Nat.le_of_ble_eq_true rfl⟩, ⟨Nat.zero_le _, Nat.zero_le _⟩, rfl, rfl⟩ [0] rfl rfl rfl (Nat.le_of_ble_eq_true rfl) rfl dX12_poles_38 ?_
              refine j_aload_n hE dX12_poles_41 rfl 0 rfl ?_
              obtain ⟨q9, hc10, hf⟩ := bind_of hf
              refine j_callV (ws' := ([n_Mo g a q9.1 q9.2] : List va_W)) (As := []) (rest := []) (st2 := []) hE (fun l => c_Mo_allRates l g a q7 mo_y q9 hc10) cd_X12_allRates cv_X12_allRates ml_Mo_384 rfl rfl rfl (wg_Mo_0 _ _ _ _) ⟨⟨Nat.le_of_ble_eq_true rfl, Nat.le_of_ble_eq_true rfl⟩, ⟨Nat.zero_le _, Nat.zero_le _⟩, rfl, rfl⟩ [0] rfl rfl rfl (Nat.le_of_ble_eq_true rfl) rfl dX12_poles_42 ?_
              refine j_iconst (v := (-1)) hE dX12_poles_45 (by decide) ?_
              refine j_istore (lv' := [(4, .int (-1)), (0, .ref (a 0)), (1, .int x1), (2, .int x2), (3, .int x3)]) hE dX12_poles_46 (by decide) rfl ?_
              refine j_iconst (v := 0) hE dX12_poles_48 (by decide) ?_
              refine j_istore (lv' := [(5, .int 0), (4, .int (-1)), (0, .ref (a 0)), (1, .int x1), (2, .int x2), (3, .int x3)]) hE dX12_poles_49 (by decide) rfl ?_
              refine j_iconst (v := 0) hE dX12_poles_51 (by decide) ?_
              refine j_istore (lv' := [(6, .int 0), (5, .int 0), (4, .int (-1)), (0, .ref (a 0)), (1, .int x1), (2, .int x2), (3, .int x3)]) hE dX12_poles_52 (by decide) rfl ?_
              exact j_sub [3, 4, 5, 6, 2, 1, 0] rfl (j_Mo_poles_54 E g a x1 x2 x3 res hE hq FU q9.1 q9.2 (-1) 0 0 hf)
            · refine j_iconst (v := (-1)) hE dX12_poles_35 (by decide) ?_
              obtain rfl := Option.some.inj hf
              exact j_iret hE hq rfl rfl dX12_poles_36
def rm_Mo_never : Room := { frames := 4, cells := 0, slots := 0, locals := 104 }
def f_Mo_never_108   (k66 : jZ → jY → Int32 → Int32 → Int32 → Option (jZ × jY × Int32)) : Nat → jZ → jY → Int32 → Int32 → Int32 → Int32 → Int32 → Option (jZ × jY × Int32)
  | 0, _, _, _, _, _, _, _ => none
  | n + 1, mo_z, mo_y, v1, v2, v3, v4, v5 => (if 9 < v5 then (if v4 = 0 then k66 mo_z mo_y v1 v2 (v3 + 1)
    else k66 mo_z mo_y v1 (v2 ||| (1 <<< (v3 &&& 31))) (v3 + 1))
    else (if v4 = 0 then (if v4 = 0 then k66 mo_z mo_y v1 v2 (v3 + 1)
    else k66 mo_z mo_y v1 (v2 ||| (1 <<< (v3 &&& 31))) (v3 + 1))
    else (f_Mo_isTaken mo_z mo_y v3 v5).bind fun q23 => (if q23.2.2 = 0 then f_Mo_never_108 k66 n q23.1 q23.2.1 v1 v2 v3 1 (v5 + 1)
    else f_Mo_never_108 k66 n q23.1 q23.2.1 v1 v2 v3 0 (v5 + 1))))
def f_Mo_never_66    : Nat → jZ → jY → Int32 → Int32 → Int32 → Option (jZ × jY × Int32)
  | 0, _, _, _, _, _ => none
  | n + 1, mo_z, mo_y, v1, v2, v3 => (if (mo_z 4 0) ≤ v3 then some (mo_z, mo_y, v2)
    else (if v1 = (-1) then f_Mo_never_108 (fun mo_z mo_y v1 v2 v3 => f_Mo_never_66  n mo_z mo_y v1 v2 v3) FU mo_z mo_y v1 v2 v3 0 3
    else (ix v3 24).bind fun _ => (if (mo_z 11 (Int32.toNatClampNeg v3)) = 0 then (ix v3 12).bind fun _ => (if (mo_z 56 (Int32.toNatClampNeg v3)) ≤ v1 then f_Mo_never_108 (fun mo_z mo_y v1 v2 v3 => f_Mo_never_66  n mo_z mo_y v1 v2 v3) FU mo_z mo_y v1 v2 v3 0 3
    else f_Mo_never_108 (fun mo_z mo_y v1 v2 v3 => f_Mo_never_66  n mo_z mo_y v1 v2 v3) FU mo_z mo_y v1 v2 v3 1 3)
    else f_Mo_never_108 (fun mo_z mo_y v1 v2 v3 => f_Mo_never_66  n mo_z mo_y v1 v2 v3) FU mo_z mo_y v1 v2 v3 0 3)))
def f_Mo_never_17    : Nat → jZ → jY → Int32 → Int32 → Option (jZ × jY × Int32)
  | 0, _, _, _, _ => none
  | n + 1, mo_z, mo_y, v1, v2 => (if (mo_z 4 0) ≤ v2 then f_Mo_never_66 FU mo_z mo_y v1 0 0
    else (ix v2 24).bind fun _ => (if (mo_z 11 (Int32.toNatClampNeg v2)) = 0 then f_Mo_never_17  n mo_z mo_y v1 (v2 + 1)
    else (if v1 = (-1) then (ix v2 12).bind fun _ => f_Mo_never_17  n mo_z mo_y (mo_z 56 (Int32.toNatClampNeg v2)) (v2 + 1)
    else (ix v2 12).bind fun _ => (if v1 ≤ (mo_z 56 (Int32.toNatClampNeg v2)) then f_Mo_never_17  n mo_z mo_y v1 (v2 + 1)
    else (ix v2 12).bind fun _ => f_Mo_never_17  n mo_z mo_y (mo_z 56 (Int32.toNatClampNeg v2)) (v2 + 1)))))
def f_Mo_never (mo_z : jZ) (mo_y : jY)  : Option (jZ × jY × Int32) := (f_Mo_knows (up2 mo_z 0 0 0)).bind fun q1 => (f_Mo_allRates q1 mo_y).bind fun q3 => f_Mo_never_17 FU q3.1 q3.2 (-1) 0
set_option maxRecDepth 100000 in
theorem j_Mo_never_108 (E : jT) (g : jG) (a : Nat → Nat)   (res : jZ × jY × Int32) (hE : jOk E g RX12 cX12_never 6 (some .int) rm_Mo_never) (hq : jEnd E g (some (.int res.2.2)) (([n_Mo g a res.1 res.2.1] : List va_W)) 0 0) (k66 : jZ → jY → Int32 → Int32 → Int32 → Option (jZ × jY × Int32)) (hk66 : ∀ (mo_z : jZ) (mo_y : jY) (v1 : Int32) (v2 : Int32) (v3 : Int32), k66 mo_z mo_y v1 v2 v3 = some res → J E g 0 0 (([n_Mo g a mo_z mo_y] : List va_W)) [(0, .ref (a 0)), (1, .int v1), (2, .int v2), (3, .int v3)] 66 []) : ∀ (n : Nat) (mo_z : jZ) (mo_y : jY) (v1 : Int32) (v2 : Int32) (v3 : Int32) (v4 : Int32) (v5 : Int32), f_Mo_never_108 k66 n mo_z mo_y v1 v2 v3 v4 v5 = some res → J E g 0 0 (([n_Mo g a mo_z mo_y] : List va_W)) [(0, .ref (a 0)), (1, .int v1), (2, .int v2), (3, .int v3), (4, .int v4), (5, .int v5)] 108 [] := by
  intro n
  induction n with
  | zero =>
    intro mo_z mo_y v1 v2 v3 v4 v5 hf
    rw [f_Mo_never_108] at hf
    cases hf
  | succ n ih =>
    intro mo_z mo_y v1 v2 v3 v4 v5 hf
    rw [f_Mo_never_108] at hf
    refine j_iload hE dX12_never_108 5 rfl ?_
    refine j_bipush (v := 9) hE dX12_never_110 (by decide) ?_
    refine j_icmp_gt (tgt := 143) hE hf dX12_never_112 (by decide) (fun c19 hf => ?_) (fun c19 hf => ?_)
    · refine j_iload hE dX12_never_143 4 rfl ?_
      refine j_if_eq (tgt := 154) hE hf dX12_never_145 (by decide) (fun c20 hf => ?_) (fun c20 hf => ?_)
      · refine j_iinc (v := (v3 + 1)) (lv' := [(3, .int (v3 + 1)), (0, .ref (a 0)), (1, .int v1), (2, .int v2), (4, .int v4), (5, .int v5)]) hE dX12_never_154 3 rfl rfl (by decide) rfl ?_
        refine j_goto (tgt := 66) hE dX12_never_157 (by decide) ?_
        exact j_sub [1, 2, 3, 0] rfl (hk66 mo_z mo_y v1 v2 (v3 + 1) hf)
      · refine j_iload_n hE dX12_never_148 rfl 2 rfl ?_
        refine j_iconst (v := 1) hE dX12_never_149 (by decide) ?_
        refine j_iload_n hE dX12_never_150 rfl 3 rfl ?_
        refine j_ishl hE dX12_never_151 ?_
        refine j_ior hE dX12_never_152 ?_
        refine j_istore_n (lv' := [(2, .int (v2 ||| (1 <<< (v3 &&& 31)))), (0, .ref (a 0)), (1, .int v1), (3, .int v3), (4, .int v4), (5, .int v5)]) hE dX12_never_153 rfl (by decide) rfl ?_
        refine j_iinc (v := (v3 + 1)) (lv' := [(3, .int (v3 + 1)), (2, .int (v2 ||| (1 <<< (v3 &&& 31)))), (0, .ref (a 0)), (1, .int v1), (4, .int v4), (5, .int v5)]) hE dX12_never_154 3 rfl rfl (by decide) rfl ?_
        refine j_goto (tgt := 66) hE dX12_never_157 (by decide) ?_
        exact j_sub [2, 3, 1, 0] rfl (hk66 mo_z mo_y v1 (v2 ||| (1 <<< (v3 &&& 31))) (v3 + 1) hf)
    · refine j_iload hE dX12_never_115 4 rfl ?_
      refine j_if_eq (tgt := 143) hE hf dX12_never_117 (by decide) (fun c21 hf => ?_) (fun c21 hf => ?_)
      · refine j_iload hE dX12_never_143 4 rfl ?_
        refine j_if_eq (tgt := 154) hE hf dX12_never_145 (by decide) (fun c22 hf => ?_) (fun c22 hf => ?_)
        · refine j_iinc (v := (v3 + 1)) (lv' := [(3, .int (v3 + 1)), (0, .ref (a 0)), (1, .int v1), (2, .int v2), (4, .int v4), (5, .int v5)]) hE dX12_never_154 3 rfl rfl (by decide) rfl ?_
          refine j_goto (tgt := 66) hE dX12_never_157 (by decide) ?_
          exact j_sub [1, 2, 3, 0] rfl (hk66 mo_z mo_y v1 v2 (v3 + 1) hf)
        · refine j_iload_n hE dX12_never_148 rfl 2 rfl ?_
          refine j_iconst (v := 1) hE dX12_never_149 (by decide) ?_
          refine j_iload_n hE dX12_never_150 rfl 3 rfl ?_
          refine j_ishl hE dX12_never_151 ?_
          refine j_ior hE dX12_never_152 ?_
          refine j_istore_n (lv' := [(2, .int (v2 ||| (1 <<< (v3 &&& 31)))), (0, .ref (a 0)), (1, .int v1), (3, .int v3), (4, .int v4), (5, .int v5)]) hE dX12_never_153 rfl (by decide) rfl ?_
          refine j_iinc (v := (v3 + 1)) (lv' := [(3, .int (v3 + 1)), (2, .int (v2 ||| (1 <<< (v3 &&& 31)))), (0, .ref (a 0)), (1, .int v1), (4, .int v4), (5, .int v5)]) hE dX12_never_154 3 rfl rfl (by decide) rfl ?_
          refine j_goto (tgt := 66) hE dX12_never_157 (by decide) ?_
          exact j_sub [2, 3, 1, 0] rfl (hk66 mo_z mo_y v1 (v2 ||| (1 <<< (v3 &&& 31))) (v3 + 1) hf)
      · refine j_aload_n hE dX12_never_120 rfl 0 rfl ?_
        refine j_iload_n hE dX12_never_121 rfl 3 rfl ?_
        refine j_iload hE dX12_never_122 5 rfl ?_
        obtain ⟨q23, hc24, hf⟩ := bind_of hf
        refine j_callV (ws' := ([n_Mo g a q23.1 q23.2.1] : List va_W)) (As := [.int v3, .int v5]) (rest := []) (st2 := [.int q23.2.2]) hE (fun l => c_Mo_isTaken l g a mo_z mo_y v3 v5 q23 hc24) cd_X12_isTaken cv_X12_isTaken ml_Mo_330 rfl rfl rfl (wg_Mo_0 _ _ _ _) ⟨⟨Nat.le_of_ble_eq_true rfl, Nat.le_of_ble_eq_true rfl⟩, ⟨Nat.zero_le _, Nat.zero_le _⟩, rfl, rfl⟩ [0] rfl rfl rfl (Nat.le_of_ble_eq_true rfl) rfl dX12_never_124 ?_
        refine j_if_ne (tgt := 134) hE hf dX12_never_127 (by decide) (fun c25 hf => ?_) (fun c25 hf => ?_)
        · refine j_iconst (v := 0) hE dX12_never_134 (by decide) ?_
          refine j_istore (lv' := [(4, .int 0), (0, .ref (a 0)), (1, .int v1), (2, .int v2), (3, .int v3), (5, .int v5)]) hE dX12_never_135 (by decide) rfl ?_
          refine j_iinc (v := (v5 + 1)) (lv' := [(5, .int (v5 + 1)), (4, .int 0), (0, .ref (a 0)), (1, .int v1), (2, .int v2), (3, .int v3)]) hE dX12_never_137 5 rfl rfl (by decide) rfl ?_
          refine j_goto (tgt := 108) hE dX12_never_140 (by decide) ?_
          exact j_sub [2, 3, 4, 5, 1, 0] rfl (ih q23.1 q23.2.1 v1 v2 v3 0 (v5 + 1) hf)
        · refine j_iconst (v := 1) hE dX12_never_130 (by decide) ?_
          refine j_goto (tgt := 135) hE dX12_never_131 (by decide) ?_
          refine j_istore (lv' := [(4, .int 1), (0, .ref (a 0)), (1, .int v1), (2, .int v2), (3, .int v3), (5, .int v5)]) hE dX12_never_135 (by decide) rfl ?_
          refine j_iinc (v := (v5 + 1)) (lv' := [(5, .int (v5 + 1)), (4, .int 1), (0, .ref (a 0)), (1, .int v1), (2, .int v2), (3, .int v3)]) hE dX12_never_137 5 rfl rfl (by decide) rfl ?_
          refine j_goto (tgt := 108) hE dX12_never_140 (by decide) ?_
          exact j_sub [2, 3, 4, 5, 1, 0] rfl (ih q23.1 q23.2.1 v1 v2 v3 1 (v5 + 1) hf)
set_option maxRecDepth 100000 in
theorem j_Mo_never_66 (E : jT) (g : jG) (a : Nat → Nat)   (res : jZ × jY × Int32) (hE : jOk E g RX12 cX12_never 6 (some .int) rm_Mo_never) (hq : jEnd E g (some (.int res.2.2)) (([n_Mo g a res.1 res.2.1] : List va_W)) 0 0)  : ∀ (n : Nat) (mo_z : jZ) (mo_y : jY) (v1 : Int32) (v2 : Int32) (v3 : Int32), f_Mo_never_66 n mo_z mo_y v1 v2 v3 = some res → J E g 0 0 (([n_Mo g a mo_z mo_y] : List va_W)) [(0, .ref (a 0)), (1, .int v1), (2, .int v2), (3, .int v3)] 66 [] := by
  intro n
  induction n with
  | zero =>
    intro mo_z mo_y v1 v2 v3 hf
    rw [f_Mo_never_66] at hf
    cases hf
  | succ n ih =>
    intro mo_z mo_y v1 v2 v3 hf
    rw [f_Mo_never_66] at hf
    refine j_iload_n hE dX12_never_66 rfl 3 rfl ?_
    refine j_aload_n hE dX12_never_67 rfl 0 rfl ?_
    refine j_get (v := .int (mo_z 4 0)) hE lg_Mo_240 0 rfl 0 (wg_Mo_0 g a mo_z mo_y) rfl dX12_never_68 ?_
    refine j_icmp_ge (tgt := 160) hE hf dX12_never_71 (by decide) (fun c13 hf => ?_) (fun c13 hf => ?_)
    · refine j_iload_n hE dX12_never_160 rfl 2 rfl ?_
      obtain rfl := Option.some.inj hf
      exact j_iret hE hq rfl rfl dX12_never_161
    · refine j_iload_n hE dX12_never_74 rfl 1 rfl ?_
      refine j_iconst (v := (-1)) hE dX12_never_75 (by decide) ?_
      refine j_icmp_eq (tgt := 102) hE hf dX12_never_76 (by decide) (fun c14 hf => ?_) (fun c14 hf => ?_)
      · refine j_iconst (v := 0) hE dX12_never_102 (by decide) ?_
        refine j_istore (lv' := [(4, .int 0), (0, .ref (a 0)), (1, .int v1), (2, .int v2), (3, .int v3)]) hE dX12_never_103 (by decide) rfl ?_
        refine j_iconst (v := 3) hE dX12_never_105 (by decide) ?_
        refine j_istore (lv' := [(5, .int 3), (4, .int 0), (0, .ref (a 0)), (1, .int v1), (2, .int v2), (3, .int v3)]) hE dX12_never_106 (by decide) rfl ?_
        exact j_sub [2, 3, 4, 5, 1, 0] rfl (j_Mo_never_108 E g a res hE hq (fun mo_z mo_y v1 v2 v3 => f_Mo_never_66  n mo_z mo_y v1 v2 v3) (fun mo_z mo_y v1 v2 v3 hf => ih mo_z mo_y v1 v2 v3 hf) FU mo_z mo_y v1 v2 v3 0 3 hf)
      · refine j_aload_n hE dX12_never_79 rfl 0 rfl ?_
        refine j_get (v := .ref (a 8)) hE lg_Mo_34 0 rfl 0 (wg_Mo_0 g a mo_z mo_y) rfl dX12_never_80 ?_
        refine j_iload_n hE dX12_never_83 rfl 3 rfl ?_
        refine j_iald hE hf 0 rfl 8 (wg_Mo_8 g a mo_z mo_y) dX12_never_84 (fun hf => ?_)
        refine j_if_ne (tgt := 102) hE hf dX12_never_85 (by decide) (fun c16 hf => ?_) (fun c16 hf => ?_)
        · refine j_iconst (v := 0) hE dX12_never_102 (by decide) ?_
          refine j_istore (lv' := [(4, .int 0), (0, .ref (a 0)), (1, .int v1), (2, .int v2), (3, .int v3)]) hE dX12_never_103 (by decide) rfl ?_
          refine j_iconst (v := 3) hE dX12_never_105 (by decide) ?_
          refine j_istore (lv' := [(5, .int 3), (4, .int 0), (0, .ref (a 0)), (1, .int v1), (2, .int v2), (3, .int v3)]) hE dX12_never_106 (by decide) rfl ?_
          exact j_sub [2, 3, 4, 5, 1, 0] rfl (j_Mo_never_108 E g a res hE hq (fun mo_z mo_y v1 v2 v3 => f_Mo_never_66  n mo_z mo_y v1 v2 v3) (fun mo_z mo_y v1 v2 v3 hf => ih mo_z mo_y v1 v2 v3 hf) FU mo_z mo_y v1 v2 v3 0 3 hf)
        · refine j_aload_n hE dX12_never_88 rfl 0 rfl ?_
          refine j_get (v := .ref (a 21)) hE lg_Mo_84 0 rfl 0 (wg_Mo_0 g a mo_z mo_y) rfl dX12_never_89 ?_
          refine j_iload_n hE dX12_never_92 rfl 3 rfl ?_
          refine j_iald hE hf 0 rfl 21 (wg_Mo_21 g a mo_z mo_y) dX12_never_93 (fun hf => ?_)
          refine j_iload_n hE dX12_never_94 rfl 1 rfl ?_
          refine j_icmp_le (tgt := 102) hE hf dX12_never_95 (by decide) (fun c18 hf => ?_) (fun c18 hf => ?_)
          · refine j_iconst (v := 0) hE dX12_never_102 (by decide) ?_
            refine j_istore (lv' := [(4, .int 0), (0, .ref (a 0)), (1, .int v1), (2, .int v2), (3, .int v3)]) hE dX12_never_103 (by decide) rfl ?_
            refine j_iconst (v := 3) hE dX12_never_105 (by decide) ?_
            refine j_istore (lv' := [(5, .int 3), (4, .int 0), (0, .ref (a 0)), (1, .int v1), (2, .int v2), (3, .int v3)]) hE dX12_never_106 (by decide) rfl ?_
            exact j_sub [2, 3, 4, 5, 1, 0] rfl (j_Mo_never_108 E g a res hE hq (fun mo_z mo_y v1 v2 v3 => f_Mo_never_66  n mo_z mo_y v1 v2 v3) (fun mo_z mo_y v1 v2 v3 hf => ih mo_z mo_y v1 v2 v3 hf) FU mo_z mo_y v1 v2 v3 0 3 hf)
          · refine j_iconst (v := 1) hE dX12_never_98 (by decide) ?_
            refine j_goto (tgt := 103) hE dX12_never_99 (by decide) ?_
            refine j_istore (lv' := [(4, .int 1), (0, .ref (a 0)), (1, .int v1), (2, .int v2), (3, .int v3)]) hE dX12_never_103 (by decide) rfl ?_
            refine j_iconst (v := 3) hE dX12_never_105 (by decide) ?_
            refine j_istore (lv' := [(5, .int 3), (4, .int 1), (0, .ref (a 0)), (1, .int v1), (2, .int v2), (3, .int v3)]) hE dX12_never_106 (by decide) rfl ?_
            exact j_sub [2, 3, 4, 5, 1, 0] rfl (j_Mo_never_108 E g a res hE hq (fun mo_z mo_y v1 v2 v3 => f_Mo_never_66  n mo_z mo_y v1 v2 v3) (fun mo_z mo_y v1 v2 v3 hf => ih mo_z mo_y v1 v2 v3 hf) FU mo_z mo_y v1 v2 v3 1 3 hf)
set_option maxRecDepth 100000 in
theorem j_Mo_never_17 (E : jT) (g : jG) (a : Nat → Nat)   (res : jZ × jY × Int32) (hE : jOk E g RX12 cX12_never 6 (some .int) rm_Mo_never) (hq : jEnd E g (some (.int res.2.2)) (([n_Mo g a res.1 res.2.1] : List va_W)) 0 0)  : ∀ (n : Nat) (mo_z : jZ) (mo_y : jY) (v1 : Int32) (v2 : Int32), f_Mo_never_17 n mo_z mo_y v1 v2 = some res → J E g 0 0 (([n_Mo g a mo_z mo_y] : List va_W)) [(0, .ref (a 0)), (1, .int v1), (2, .int v2)] 17 [] := by
  intro n
  induction n with
  | zero =>
    intro mo_z mo_y v1 v2 hf
    rw [f_Mo_never_17] at hf
    cases hf
  | succ n ih =>
    intro mo_z mo_y v1 v2 hf
    rw [f_Mo_never_17] at hf
    refine j_iload_n hE dX12_never_17 rfl 2 rfl ?_
    refine j_aload_n hE dX12_never_18 rfl 0 rfl ?_
    refine j_get (v := .int (mo_z 4 0)) hE lg_Mo_240 0 rfl 0 (wg_Mo_0 g a mo_z mo_y) rfl dX12_never_19 ?_
    refine j_icmp_ge (tgt := 62) hE hf dX12_never_22 (by decide) (fun c5 hf => ?_) (fun c5 hf => ?_)
    · refine j_iconst (v := 0) hE dX12_never_62 (by decide) ?_
      refine j_istore_n (lv' := [(2, .int 0), (0, .ref (a 0)), (1, .int v1)]) hE dX12_never_63 rfl (by decide) rfl ?_
      refine j_iconst (v := 0) hE dX12_never_64 (by decide) ?_
      refine j_istore_n (lv' := [(3, .int 0), (2, .int 0), (0, .ref (a 0)), (1, .int v1)]) hE dX12_never_65 rfl (by decide) rfl ?_
      exact j_sub [2, 3, 1, 0] rfl (j_Mo_never_66 E g a res hE hq FU mo_z mo_y v1 0 0 hf)
    · refine j_aload_n hE dX12_never_25 rfl 0 rfl ?_
      refine j_get (v := .ref (a 8)) hE lg_Mo_34 0 rfl 0 (wg_Mo_0 g a mo_z mo_y) rfl dX12_never_26 ?_
      refine j_iload_n hE dX12_never_29 rfl 2 rfl ?_
      refine j_iald hE hf 0 rfl 8 (wg_Mo_8 g a mo_z mo_y) dX12_never_30 (fun hf => ?_)
      refine j_if_eq (tgt := 56) hE hf dX12_never_31 (by decide) (fun c7 hf => ?_) (fun c7 hf => ?_)
      · refine j_iinc (v := (v2 + 1)) (lv' := [(2, .int (v2 + 1)), (0, .ref (a 0)), (1, .int v1)]) hE dX12_never_56 2 rfl rfl (by decide) rfl ?_
        refine j_goto (tgt := 17) hE dX12_never_59 (by decide) ?_
        exact j_sub [1, 2, 0] rfl (ih mo_z mo_y v1 (v2 + 1) hf)
      · refine j_iload_n hE dX12_never_34 rfl 1 rfl ?_
        refine j_iconst (v := (-1)) hE dX12_never_35 (by decide) ?_
        refine j_icmp_eq (tgt := 49) hE hf dX12_never_36 (by decide) (fun c8 hf => ?_) (fun c8 hf => ?_)
        · refine j_aload_n hE dX12_never_49 rfl 0 rfl ?_
          refine j_get (v := .ref (a 21)) hE lg_Mo_84 0 rfl 0 (wg_Mo_0 g a mo_z mo_y) rfl dX12_never_50 ?_
          refine j_iload_n hE dX12_never_53 rfl 2 rfl ?_
          refine j_iald hE hf 0 rfl 21 (wg_Mo_21 g a mo_z mo_y) dX12_never_54 (fun hf => ?_)
          refine j_istore_n (lv' := [(1, .int (mo_z 56 (Int32.toNatClampNeg v2))), (0, .ref (a 0)), (2, .int v2)]) hE dX12_never_55 rfl (by decide) rfl ?_
          refine j_iinc (v := (v2 + 1)) (lv' := [(2, .int (v2 + 1)), (1, .int (mo_z 56 (Int32.toNatClampNeg v2))), (0, .ref (a 0))]) hE dX12_never_56 2 rfl rfl (by decide) rfl ?_
          refine j_goto (tgt := 17) hE dX12_never_59 (by decide) ?_
          exact j_sub [2, 1, 0] rfl (ih mo_z mo_y (mo_z 56 (Int32.toNatClampNeg v2)) (v2 + 1) hf)
        · refine j_aload_n hE dX12_never_39 rfl 0 rfl ?_
          refine j_get (v := .ref (a 21)) hE lg_Mo_84 0 rfl 0 (wg_Mo_0 g a mo_z mo_y) rfl dX12_never_40 ?_
          refine j_iload_n hE dX12_never_43 rfl 2 rfl ?_
          refine j_iald hE hf 0 rfl 21 (wg_Mo_21 g a mo_z mo_y) dX12_never_44 (fun hf => ?_)
          refine j_iload_n hE dX12_never_45 rfl 1 rfl ?_
          refine j_icmp_ge (tgt := 56) hE hf dX12_never_46 (by decide) (fun c11 hf => ?_) (fun c11 hf => ?_)
          · refine j_iinc (v := (v2 + 1)) (lv' := [(2, .int (v2 + 1)), (0, .ref (a 0)), (1, .int v1)]) hE dX12_never_56 2 rfl rfl (by decide) rfl ?_
            refine j_goto (tgt := 17) hE dX12_never_59 (by decide) ?_
            exact j_sub [1, 2, 0] rfl (ih mo_z mo_y v1 (v2 + 1) hf)
          · refine j_aload_n hE dX12_never_49 rfl 0 rfl ?_
            refine j_get (v := .ref (a 21)) hE lg_Mo_84 0 rfl 0 (wg_Mo_0 g a mo_z mo_y) rfl dX12_never_50 ?_
            refine j_iload_n hE dX12_never_53 rfl 2 rfl ?_
            refine j_iald hE hf 0 rfl 21 (wg_Mo_21 g a mo_z mo_y) dX12_never_54 (fun hf => ?_)
            refine j_istore_n (lv' := [(1, .int (mo_z 56 (Int32.toNatClampNeg v2))), (0, .ref (a 0)), (2, .int v2)]) hE dX12_never_55 rfl (by decide) rfl ?_
            refine j_iinc (v := (v2 + 1)) (lv' := [(2, .int (v2 + 1)), (1, .int (mo_z 56 (Int32.toNatClampNeg v2))), (0, .ref (a 0))]) hE dX12_never_56 2 rfl rfl (by decide) rfl ?_
            refine j_goto (tgt := 17) hE dX12_never_59 (by decide) ?_
            exact j_sub [2, 1, 0] rfl (ih mo_z mo_y (mo_z 56 (Int32.toNatClampNeg v2)) (v2 + 1) hf)
set_option maxRecDepth 100000 in
theorem c_Mo_never (l : Launch) (g : jG) (a : Nat → Nat) (mo_z : jZ) (mo_y : jY)  (res : jZ × jY × Int32) (hf : f_Mo_never mo_z mo_y = some res) : MC l g yX12_never cX12_never 6 (some .int) rm_Mo_never [.ref (a 0)] (([n_Mo g a mo_z mo_y] : List va_W)) (some (.int res.2.2)) (([n_Mo g a res.1 res.2.1] : List va_W)) 0 0 := by
  refine MC_of (own := RX12) (lv := [(0, .ref (a 0))]) (by decide) rfl (Nat.le_of_ble_eq_true rfl) rfl rfl (fun E hE hq => ?_)
  unfold f_Mo_never at hf
  refine j_aload_n hE dX12_never_0 rfl 0 rfl ?_
  refine j_iconst (v := 0) hE dX12_never_1 (by decide) ?_
  refine j_put (v := .int 0) (ws' := ([n_Mo g a (up2 mo_z 0 0 0) mo_y] : List va_W)) hE lp_Mo_87 0 rfl 0 (wg_Mo_0 g a mo_z mo_y) rfl rfl (Nat.le_of_ble_eq_true rfl) (wp_Mo_0 g a mo_z mo_y 0) rfl dX12_never_2 ?_
  refine j_aload_n hE dX12_never_5 rfl 0 rfl ?_
  obtain ⟨q1, hc2, hf⟩ := bind_of hf
  refine j_callV (ws' := ([n_Mo g a q1 mo_y] : List va_W)) (As := []) (rest := []) (st2 := []) hE (fun l => c_Mo_knows l g a (up2 mo_z 0 0 0) mo_y q1 hc2) cd_X12_knows cv_X12_knows ml_Mo_255 rfl rfl rfl (wg_Mo_0 _ _ _ _) ⟨⟨Nat.le_of_ble_eq_true rfl, Nat.le_of_ble_eq_true rfl⟩, ⟨Nat.zero_le _, Nat.zero_le _⟩, rfl, rfl⟩ [0] rfl rfl rfl (Nat.le_of_ble_eq_true rfl) rfl dX12_never_6 ?_
  refine j_aload_n hE dX12_never_9 rfl 0 rfl ?_
  obtain ⟨q3, hc4, hf⟩ := bind_of hf
  refine j_callV (ws' := ([n_Mo g a q3.1 q3.2] : List va_W)) (As := []) (rest := []) (st2 := []) hE (fun l => c_Mo_allRates l g a q1 mo_y q3 hc4) cd_X12_allRates cv_X12_allRates ml_Mo_384 rfl rfl rfl (wg_Mo_0 _ _ _ _) ⟨⟨Nat.le_of_ble_eq_true rfl, Nat.le_of_ble_eq_true rfl⟩, ⟨Nat.zero_le _, Nat.zero_le _⟩, rfl, rfl⟩ [0] rfl rfl rfl (Nat.le_of_ble_eq_true rfl) rfl dX12_never_10 ?_
  refine j_iconst (v := (-1)) hE dX12_never_13 (by decide) ?_
  refine j_istore_n (lv' := [(1, .int (-1)), (0, .ref (a 0))]) hE dX12_never_14 rfl (by decide) rfl ?_
  refine j_iconst (v := 0) hE dX12_never_15 (by decide) ?_
  refine j_istore_n (lv' := [(2, .int 0), (1, .int (-1)), (0, .ref (a 0))]) hE dX12_never_16 rfl (by decide) rfl ?_
  exact j_sub [2, 1, 0] rfl (j_Mo_never_17 E g a res hE hq FU q3.1 q3.2 (-1) 0 hf)
def rm_Mo_draw : Room := { frames := 0, cells := 0, slots := 0, locals := 0 }
def f_Mo_draw (mo_z : jZ) (x1 : Int32) : Option (jZ × Int32) := (nz x1).bind fun _ => some ((up2 mo_z 57 0 ((((mo_z 57 0) * 1103515245) + 12345) &&& 2147483647)), ((((((mo_z 57 0) * 1103515245) + 12345) &&& 2147483647) >>> (16 &&& 31)) - (((((mo_z 57 0) * 1103515245) + 12345) &&& 2147483647) >>> (16 &&& 31)) / x1 * x1))
set_option maxRecDepth 100000 in
theorem c_Mo_draw (l : Launch) (g : jG) (a : Nat → Nat) (mo_z : jZ) (mo_y : jY) (x1 : Int32) (res : jZ × Int32) (hf : f_Mo_draw mo_z x1 = some res) : MC l g yX12_draw cX12_draw 2 (some .int) rm_Mo_draw [.ref (a 0), .int x1] (([n_Mo g a mo_z mo_y] : List va_W)) (some (.int res.2)) (([n_Mo g a res.1 mo_y] : List va_W)) 0 0 := by
  refine MC_of (own := RX12) (lv := [(0, .ref (a 0)), (1, .int x1)]) (by decide) rfl (Nat.le_of_ble_eq_true rfl) rfl rfl (fun E hE hq => ?_)
  unfold f_Mo_draw at hf
  refine j_aload_n hE dX12_draw_0 rfl 0 rfl ?_
  refine j_aload_n hE dX12_draw_1 rfl 0 rfl ?_
  refine j_get (v := .int (mo_z 57 0)) hE lg_Mo_396 0 rfl 0 (wg_Mo_0 g a mo_z mo_y) rfl dX12_draw_2 ?_
  refine j_ldcw hE co_Mo_399 dX12_draw_5 ?_
  refine j_imul hE dX12_draw_8 ?_
  refine j_sipush (v := 12345) hE dX12_draw_9 (by decide) ?_
  refine j_iadd hE dX12_draw_12 ?_
  refine j_ldcw hE co_Mo_400 dX12_draw_13 ?_
  refine j_iand hE dX12_draw_16 ?_
  refine j_put (v := .int ((((mo_z 57 0) * 1103515245) + 12345) &&& 2147483647)) (ws' := ([n_Mo g a (up2 mo_z 57 0 ((((mo_z 57 0) * 1103515245) + 12345) &&& 2147483647)) mo_y] : List va_W)) hE lp_Mo_396 0 rfl 0 (wg_Mo_0 g a mo_z mo_y) rfl rfl (Nat.le_of_ble_eq_true rfl) (wp_Mo_57 g a mo_z mo_y ((((mo_z 57 0) * 1103515245) + 12345) &&& 2147483647)) rfl dX12_draw_17 ?_
  refine j_aload_n hE dX12_draw_20 rfl 0 rfl ?_
  refine j_get (v := .int ((((mo_z 57 0) * 1103515245) + 12345) &&& 2147483647)) hE lg_Mo_396 0 rfl 0 (wg_Mo_0 g a (up2 mo_z 57 0 ((((mo_z 57 0) * 1103515245) + 12345) &&& 2147483647)) mo_y) rfl dX12_draw_21 ?_
  refine j_bipush (v := 16) hE dX12_draw_24 (by decide) ?_
  refine j_ishr hE dX12_draw_26 ?_
  refine j_iload_n hE dX12_draw_27 rfl 1 rfl ?_
  refine j_irem hE hf dX12_draw_28 (fun hf => ?_)
  obtain rfl := Option.some.inj hf
  exact j_iret hE hq rfl rfl dX12_draw_29
def rm_Mo_draws : Room := { frames := 3, cells := 0, slots := 0, locals := 70 }
def f_Mo_draws_182  (x1 : Int32) (x2 : Int32) (x3 : Int32) (k88 : jZ → jY → Int32 → Int32 → Int32 → Int32 → Option (jZ × jY × Int32)) (k141 : jZ → jY → Int32 → Int32 → Int32 → Int32 → Int32 → Int32 → Int32 → Option (jZ × jY × Int32)) (mo_z : jZ) (mo_y : jY) (v4 : Int32) (v5 : Int32) (v6 : Int32) (v7 : Int32) (v9 : Int32) (v10 : Int32) (v11 : Int32) (v12 : Int32) : Option (jZ × jY × Int32) := (if 3 ≤ v11 then k141 mo_z mo_y v4 v5 v6 v7 v9 (v10 + (-v12)) (v11 + 1)
    else k141 mo_z mo_y v4 v5 v6 v7 v9 (v10 + v12) (v11 + 1))
def f_Mo_draws_141  (x1 : Int32) (x2 : Int32) (x3 : Int32) (k88 : jZ → jY → Int32 → Int32 → Int32 → Int32 → Option (jZ × jY × Int32)) : Nat → jZ → jY → Int32 → Int32 → Int32 → Int32 → Int32 → Int32 → Int32 → Option (jZ × jY × Int32)
  | 0, _, _, _, _, _, _, _, _, _ => none
  | n + 1, mo_z, mo_y, v4, v5, v6, v7, v9, v10, v11 => (if 6 ≤ v11 then (f_Mo_takes mo_z mo_y 0).bind fun q17 => (if q17.2.2 = 0 then k88 q17.1 q17.2.1 v4 v5 v6 (v7 + 1)
    else k88 q17.1 q17.2.1 v4 (v5 + 1) (v6 + v10) (v7 + 1))
    else (f_Mo_draw mo_z 10).bind fun q20 => (ix ((10 * v9) + q20.2) 100).bind fun _ => (if 3 ≤ v11 then f_Mo_draws_182 x1 x2 x3 k88 (fun mo_z mo_y v4 v5 v6 v7 v9 v10 v11 => f_Mo_draws_141 x1 x2 x3 k88 n mo_z mo_y v4 v5 v6 v7 v9 v10 v11) q20.1 mo_y v4 v5 v6 v7 v9 v10 v11 (q20.1 7 (Int32.toNatClampNeg ((10 * v9) + q20.2)))
    else (ix v11 3).bind fun _ => f_Mo_draws_182 x1 x2 x3 k88 (fun mo_z mo_y v4 v5 v6 v7 v9 v10 v11 => f_Mo_draws_141 x1 x2 x3 k88 n mo_z mo_y v4 v5 v6 v7 v9 v10 v11) (up2 q20.1 49 (Int32.toNatClampNeg v11) (q20.1 7 (Int32.toNatClampNeg ((10 * v9) + q20.2)))) mo_y v4 v5 v6 v7 v9 v10 v11 (q20.1 7 (Int32.toNatClampNeg ((10 * v9) + q20.2)))))
def f_Mo_draws_105  (x1 : Int32) (x2 : Int32) (x3 : Int32) (k88 : jZ → jY → Int32 → Int32 → Int32 → Int32 → Option (jZ × jY × Int32)) : Nat → jZ → jY → Int32 → Int32 → Int32 → Int32 → Int32 → Int32 → Option (jZ × jY × Int32)
  | 0, _, _, _, _, _, _, _, _ => none
  | n + 1, mo_z, mo_y, v4, v5, v6, v7, v8, v9 => (ix v9 10).bind fun _ => (if v8 < (mo_z 6 (Int32.toNatClampNeg v9)) then f_Mo_draws_141 x1 x2 x3 k88 FU mo_z mo_y v4 v5 v6 v7 v9 0 0
    else (ix v9 10).bind fun _ => f_Mo_draws_105 x1 x2 x3 k88 n mo_z mo_y v4 v5 v6 v7 (v8 - (mo_z 6 (Int32.toNatClampNeg v9))) (v9 + 1))
def f_Mo_draws_88  (x1 : Int32) (x2 : Int32) (x3 : Int32)  : Nat → jZ → jY → Int32 → Int32 → Int32 → Int32 → Option (jZ × jY × Int32)
  | 0, _, _, _, _, _, _ => none
  | n + 1, mo_z, mo_y, v4, v5, v6, v7 => (if x2 ≤ v7 then (if x3 = 0 then some (mo_z, mo_y, v5)
    else some (mo_z, mo_y, v6))
    else (f_Mo_draw mo_z v4).bind fun q11 => f_Mo_draws_105 x1 x2 x3 (fun mo_z mo_y v4 v5 v6 v7 => f_Mo_draws_88 x1 x2 x3 n mo_z mo_y v4 v5 v6 v7) FU q11.1 mo_y v4 v5 v6 v7 q11.2 0)
def f_Mo_draws_47  (x1 : Int32) (x2 : Int32) (x3 : Int32)  : Nat → jZ → jY → Int32 → Int32 → Option (jZ × jY × Int32)
  | 0, _, _, _, _ => none
  | n + 1, mo_z, mo_y, v4, v5 => (if (mo_z 3 0) ≤ v5 then f_Mo_draws_88 x1 x2 x3 FU (up2 mo_z 57 0 x1) mo_y v4 0 0 0
    else (ix v5 10).bind fun _ => f_Mo_draws_47 x1 x2 x3 n mo_z mo_y (v4 + (mo_z 6 (Int32.toNatClampNeg v5))) (v5 + 1))
def f_Mo_draws (mo_z : jZ) (mo_y : jY) (x1 : Int32) (x2 : Int32) (x3 : Int32) : Option (jZ × jY × Int32) := (if x1 < 0 then some ((up2 mo_z 0 0 0), mo_y, (-2147483648))
    else (if x2 < 1 then some ((up2 mo_z 0 0 0), mo_y, (-2147483648))
    else (if 500 < x2 then some ((up2 mo_z 0 0 0), mo_y, (-2147483648))
    else (if x3 < 0 then some ((up2 mo_z 0 0 0), mo_y, (-2147483648))
    else (if 1 < x3 then some ((up2 mo_z 0 0 0), mo_y, (-2147483648))
    else (if (mo_z 3 0) = 0 then some ((up2 mo_z 0 0 0), mo_y, (-2147483648))
    else f_Mo_draws_47 x1 x2 x3 FU (up2 mo_z 0 0 0) mo_y 0 0))))))
set_option maxRecDepth 100000 in
theorem j_Mo_draws_182 (E : jT) (g : jG) (a : Nat → Nat)  (x1 : Int32) (x2 : Int32) (x3 : Int32) (res : jZ × jY × Int32) (hE : jOk E g RX12 cX12_draws 13 (some .int) rm_Mo_draws) (hq : jEnd E g (some (.int res.2.2)) (([n_Mo g a res.1 res.2.1] : List va_W)) 0 0) (k88 : jZ → jY → Int32 → Int32 → Int32 → Int32 → Option (jZ × jY × Int32)) (hk88 : ∀ (mo_z : jZ) (mo_y : jY) (v4 : Int32) (v5 : Int32) (v6 : Int32) (v7 : Int32), k88 mo_z mo_y v4 v5 v6 v7 = some res → J E g 0 0 (([n_Mo g a mo_z mo_y] : List va_W)) [(0, .ref (a 0)), (2, .int x2), (3, .int x3), (4, .int v4), (5, .int v5), (6, .int v6), (7, .int v7)] 88 []) (k141 : jZ → jY → Int32 → Int32 → Int32 → Int32 → Int32 → Int32 → Int32 → Option (jZ × jY × Int32)) (hk141 : ∀ (mo_z : jZ) (mo_y : jY) (v4 : Int32) (v5 : Int32) (v6 : Int32) (v7 : Int32) (v9 : Int32) (v10 : Int32) (v11 : Int32), k141 mo_z mo_y v4 v5 v6 v7 v9 v10 v11 = some res → J E g 0 0 (([n_Mo g a mo_z mo_y] : List va_W)) [(0, .ref (a 0)), (2, .int x2), (3, .int x3), (4, .int v4), (5, .int v5), (6, .int v6), (7, .int v7), (9, .int v9), (10, .int v10), (11, .int v11)] 141 []) (mo_z : jZ) (mo_y : jY) (v4 : Int32) (v5 : Int32) (v6 : Int32) (v7 : Int32) (v9 : Int32) (v10 : Int32) (v11 : Int32) (v12 : Int32) (hf : f_Mo_draws_182 x1 x2 x3 k88 k141 mo_z mo_y v4 v5 v6 v7 v9 v10 v11 v12 = some res) : J E g 0 0 (([n_Mo g a mo_z mo_y] : List va_W)) [(0, .ref (a 0)), (2, .int x2), (3, .int x3), (4, .int v4), (5, .int v5), (6, .int v6), (7, .int v7), (9, .int v9), (10, .int v10), (11, .int v11), (12, .int v12)] 182 [] := by
  unfold f_Mo_draws_182 at hf
  refine j_iload hE dX12_draws_182 8 rfl ?_
  refine j_iload hE dX12_draws_184 9 rfl ?_
  refine j_iconst (v := 3) hE dX12_draws_186 (by decide) ?_
  refine j_icmp_ge (tgt := 195) hE hf dX12_draws_187 (by decide) (fun c24 hf => ?_) (fun c24 hf => ?_)
  · refine j_iload hE dX12_draws_195 10 rfl ?_
    refine j_ineg hE dX12_draws_197 ?_
    refine j_iadd hE dX12_draws_198 ?_
    refine j_istore (lv' := [(10, .int (v10 + (-v12))), (0, .ref (a 0)), (2, .int x2), (3, .int x3), (4, .int v4), (5, .int v5), (6, .int v6), (7, .int v7), (9, .int v9), (11, .int v11), (12, .int v12)]) hE dX12_draws_199 (by decide) rfl ?_
    refine j_iinc (v := (v11 + 1)) (lv' := [(11, .int (v11 + 1)), (10, .int (v10 + (-v12))), (0, .ref (a 0)), (2, .int x2), (3, .int x3), (4, .int v4), (5, .int v5), (6, .int v6), (7, .int v7), (9, .int v9), (12, .int v12)]) hE dX12_draws_201 9 rfl rfl (by decide) rfl ?_
    refine j_goto (tgt := 141) hE dX12_draws_204 (by decide) ?_
    exact j_sub [2, 3, 4, 5, 6, 7, 8, 9, 1, 0] rfl (hk141 mo_z mo_y v4 v5 v6 v7 v9 (v10 + (-v12)) (v11 + 1) hf)
  · refine j_iload hE dX12_draws_190 10 rfl ?_
    refine j_goto (tgt := 198) hE dX12_draws_192 (by decide) ?_
    refine j_iadd hE dX12_draws_198 ?_
    refine j_istore (lv' := [(10, .int (v10 + v12)), (0, .ref (a 0)), (2, .int x2), (3, .int x3), (4, .int v4), (5, .int v5), (6, .int v6), (7, .int v7), (9, .int v9), (11, .int v11), (12, .int v12)]) hE dX12_draws_199 (by decide) rfl ?_
    refine j_iinc (v := (v11 + 1)) (lv' := [(11, .int (v11 + 1)), (10, .int (v10 + v12)), (0, .ref (a 0)), (2, .int x2), (3, .int x3), (4, .int v4), (5, .int v5), (6, .int v6), (7, .int v7), (9, .int v9), (12, .int v12)]) hE dX12_draws_201 9 rfl rfl (by decide) rfl ?_
    refine j_goto (tgt := 141) hE dX12_draws_204 (by decide) ?_
    exact j_sub [2, 3, 4, 5, 6, 7, 8, 9, 1, 0] rfl (hk141 mo_z mo_y v4 v5 v6 v7 v9 (v10 + v12) (v11 + 1) hf)
set_option maxRecDepth 100000 in
theorem j_Mo_draws_141 (E : jT) (g : jG) (a : Nat → Nat)  (x1 : Int32) (x2 : Int32) (x3 : Int32) (res : jZ × jY × Int32) (hE : jOk E g RX12 cX12_draws 13 (some .int) rm_Mo_draws) (hq : jEnd E g (some (.int res.2.2)) (([n_Mo g a res.1 res.2.1] : List va_W)) 0 0) (k88 : jZ → jY → Int32 → Int32 → Int32 → Int32 → Option (jZ × jY × Int32)) (hk88 : ∀ (mo_z : jZ) (mo_y : jY) (v4 : Int32) (v5 : Int32) (v6 : Int32) (v7 : Int32), k88 mo_z mo_y v4 v5 v6 v7 = some res → J E g 0 0 (([n_Mo g a mo_z mo_y] : List va_W)) [(0, .ref (a 0)), (2, .int x2), (3, .int x3), (4, .int v4), (5, .int v5), (6, .int v6), (7, .int v7)] 88 []) : ∀ (n : Nat) (mo_z : jZ) (mo_y : jY) (v4 : Int32) (v5 : Int32) (v6 : Int32) (v7 : Int32) (v9 : Int32) (v10 : Int32) (v11 : Int32), f_Mo_draws_141 x1 x2 x3 k88 n mo_z mo_y v4 v5 v6 v7 v9 v10 v11 = some res → J E g 0 0 (([n_Mo g a mo_z mo_y] : List va_W)) [(0, .ref (a 0)), (2, .int x2), (3, .int x3), (4, .int v4), (5, .int v5), (6, .int v6), (7, .int v7), (9, .int v9), (10, .int v10), (11, .int v11)] 141 [] := by
  intro n
  induction n with
  | zero =>
    intro mo_z mo_y v4 v5 v6 v7 v9 v10 v11 hf
    rw [f_Mo_draws_141] at hf
    cases hf
  | succ n ih =>
    intro mo_z mo_y v4 v5 v6 v7 v9 v10 v11 hf
    rw [f_Mo_draws_141] at hf
    refine j_iload hE dX12_draws_141 9 rfl ?_
    refine j_bipush (v := 6) hE dX12_draws_143 (by decide) ?_
    refine j_icmp_ge (tgt := 207) hE hf dX12_draws_145 (by decide) (fun c16 hf => ?_) (fun c16 hf => ?_)
    · refine j_aload_n hE dX12_draws_207 rfl 0 rfl ?_
      refine j_iconst (v := 0) hE dX12_draws_208 (by decide) ?_
      obtain ⟨q17, hc18, hf⟩ := bind_of hf
      refine j_callV (ws' := ([n_Mo g a q17.1 q17.2.1] : List va_W)) (As := [.int 0]) (rest := []) (st2 := [.int q17.2.2]) hE (fun l => c_Mo_takes l g a mo_z mo_y 0 q17 hc18) cd_X12_takes cv_X12_takes ml_Mo_327 rfl rfl rfl (wg_Mo_0 _ _ _ _) ⟨⟨Nat.le_of_ble_eq_true rfl, Nat.le_of_ble_eq_true rfl⟩, ⟨Nat.zero_le _, Nat.zero_le _⟩, rfl, rfl⟩ [0] rfl rfl rfl (Nat.le_of_ble_eq_true rfl) rfl dX12_draws_209 ?_
      refine j_if_ne (tgt := 218) hE hf dX12_draws_212 (by decide) (fun c19 hf => ?_) (fun c19 hf => ?_)
      · refine j_iinc (v := (v5 + 1)) (lv' := [(5, .int (v5 + 1)), (0, .ref (a 0)), (2, .int x2), (3, .int x3), (4, .int v4), (6, .int v6), (7, .int v7), (9, .int v9), (10, .int v10), (11, .int v11)]) hE dX12_draws_218 4 rfl rfl (by decide) rfl ?_
        refine j_iload hE dX12_draws_221 5 rfl ?_
        refine j_iload hE dX12_draws_223 8 rfl ?_
        refine j_iadd hE dX12_draws_225 ?_
        refine j_istore (lv' := [(6, .int (v6 + v10)), (5, .int (v5 + 1)), (0, .ref (a 0)), (2, .int x2), (3, .int x3), (4, .int v4), (7, .int v7), (9, .int v9), (10, .int v10), (11, .int v11)]) hE dX12_draws_226 (by decide) rfl ?_
        refine j_iinc (v := (v7 + 1)) (lv' := [(7, .int (v7 + 1)), (6, .int (v6 + v10)), (5, .int (v5 + 1)), (0, .ref (a 0)), (2, .int x2), (3, .int x3), (4, .int v4), (9, .int v9), (10, .int v10), (11, .int v11)]) hE dX12_draws_228 6 rfl rfl (by decide) rfl ?_
        refine j_goto (tgt := 88) hE dX12_draws_231 (by decide) ?_
        exact j_sub [3, 4, 5, 6, 2, 1, 0] rfl (hk88 q17.1 q17.2.1 v4 (v5 + 1) (v6 + v10) (v7 + 1) hf)
      · refine j_goto (tgt := 228) hE dX12_draws_215 (by decide) ?_
        refine j_iinc (v := (v7 + 1)) (lv' := [(7, .int (v7 + 1)), (0, .ref (a 0)), (2, .int x2), (3, .int x3), (4, .int v4), (5, .int v5), (6, .int v6), (9, .int v9), (10, .int v10), (11, .int v11)]) hE dX12_draws_228 6 rfl rfl (by decide) rfl ?_
        refine j_goto (tgt := 88) hE dX12_draws_231 (by decide) ?_
        exact j_sub [1, 2, 3, 4, 5, 6, 0] rfl (hk88 q17.1 q17.2.1 v4 v5 v6 (v7 + 1) hf)
    · refine j_aload_n hE dX12_draws_148 rfl 0 rfl ?_
      refine j_get (v := .ref (a 4)) hE lg_Mo_21 0 rfl 0 (wg_Mo_0 g a mo_z mo_y) rfl dX12_draws_149 ?_
      refine j_bipush (v := 10) hE dX12_draws_152 (by decide) ?_
      refine j_iload hE dX12_draws_154 7 rfl ?_
      refine j_imul hE dX12_draws_156 ?_
      refine j_aload_n hE dX12_draws_157 rfl 0 rfl ?_
      refine j_bipush (v := 10) hE dX12_draws_158 (by decide) ?_
      obtain ⟨q20, hc21, hf⟩ := bind_of hf
      refine j_callV (ws' := ([n_Mo g a q20.1 mo_y] : List va_W)) (As := [.int 10]) (rest := [.int (10 * v9), .ref (a 4)]) (st2 := [.int q20.2, .int (10 * v9), .ref (a 4)]) hE (fun l => c_Mo_draw l g a mo_z mo_y 10 q20 hc21) cd_X12_draw cv_X12_draw ml_Mo_401 rfl rfl rfl (wg_Mo_0 _ _ _ _) ⟨⟨Nat.le_of_ble_eq_true rfl, Nat.le_of_ble_eq_true rfl⟩, ⟨Nat.zero_le _, Nat.zero_le _⟩, rfl, rfl⟩ [0] rfl rfl rfl (Nat.le_of_ble_eq_true rfl) rfl dX12_draws_160 ?_
      refine j_iadd hE dX12_draws_163 ?_
      refine j_iald hE hf 0 rfl 4 (wg_Mo_4 g a q20.1 mo_y) dX12_draws_164 (fun hf => ?_)
      refine j_istore (lv' := [(12, .int (q20.1 7 (Int32.toNatClampNeg ((10 * v9) + q20.2)))), (0, .ref (a 0)), (2, .int x2), (3, .int x3), (4, .int v4), (5, .int v5), (6, .int v6), (7, .int v7), (9, .int v9), (10, .int v10), (11, .int v11)]) hE dX12_draws_165 (by decide) rfl ?_
      refine j_iload hE dX12_draws_167 10 rfl ?_
      refine j_iconst (v := 3) hE dX12_draws_169 (by decide) ?_
      refine j_icmp_ge (tgt := 182) hE hf dX12_draws_170 (by decide) (fun c23 hf => ?_) (fun c23 hf => ?_)
      · exact j_sub [1, 2, 3, 4, 5, 6, 7, 8, 9, 10, 0] rfl (j_Mo_draws_182 E g a x1 x2 x3 res hE hq k88 hk88 (fun mo_z mo_y v4 v5 v6 v7 v9 v10 v11 => f_Mo_draws_141 x1 x2 x3 k88 n mo_z mo_y v4 v5 v6 v7 v9 v10 v11) (fun mo_z mo_y v4 v5 v6 v7 v9 v10 v11 hf => ih mo_z mo_y v4 v5 v6 v7 v9 v10 v11 hf) q20.1 mo_y v4 v5 v6 v7 v9 v10 v11 (q20.1 7 (Int32.toNatClampNeg ((10 * v9) + q20.2))) hf)
      · refine j_aload_n hE dX12_draws_173 rfl 1 rfl ?_
        refine j_get (v := .ref (a 20)) hE lg_Mo_81 0 rfl 0 (wg_Mo_0 g a q20.1 mo_y) rfl dX12_draws_174 ?_
        refine j_iload hE dX12_draws_177 10 rfl ?_
        refine j_iload hE dX12_draws_179 0 rfl ?_
        refine j_iast (ws' := ([n_Mo g a (up2 q20.1 49 (Int32.toNatClampNeg v11) (q20.1 7 (Int32.toNatClampNeg ((10 * v9) + q20.2)))) mo_y] : List va_W)) hE hf 0 rfl 20 (wg_Mo_20 g a q20.1 mo_y) (wa_Mo_20 g a q20.1 mo_y (Int32.toNatClampNeg v11) (q20.1 7 (Int32.toNatClampNeg ((10 * v9) + q20.2)))) rfl dX12_draws_181 (fun hf => ?_)
        exact j_sub [1, 2, 3, 4, 5, 6, 7, 8, 9, 10, 0] rfl (j_Mo_draws_182 E g a x1 x2 x3 res hE hq k88 hk88 (fun mo_z mo_y v4 v5 v6 v7 v9 v10 v11 => f_Mo_draws_141 x1 x2 x3 k88 n mo_z mo_y v4 v5 v6 v7 v9 v10 v11) (fun mo_z mo_y v4 v5 v6 v7 v9 v10 v11 hf => ih mo_z mo_y v4 v5 v6 v7 v9 v10 v11 hf) (up2 q20.1 49 (Int32.toNatClampNeg v11) (q20.1 7 (Int32.toNatClampNeg ((10 * v9) + q20.2)))) mo_y v4 v5 v6 v7 v9 v10 v11 (q20.1 7 (Int32.toNatClampNeg ((10 * v9) + q20.2))) hf)
set_option maxRecDepth 100000 in
theorem j_Mo_draws_105 (E : jT) (g : jG) (a : Nat → Nat)  (x1 : Int32) (x2 : Int32) (x3 : Int32) (res : jZ × jY × Int32) (hE : jOk E g RX12 cX12_draws 13 (some .int) rm_Mo_draws) (hq : jEnd E g (some (.int res.2.2)) (([n_Mo g a res.1 res.2.1] : List va_W)) 0 0) (k88 : jZ → jY → Int32 → Int32 → Int32 → Int32 → Option (jZ × jY × Int32)) (hk88 : ∀ (mo_z : jZ) (mo_y : jY) (v4 : Int32) (v5 : Int32) (v6 : Int32) (v7 : Int32), k88 mo_z mo_y v4 v5 v6 v7 = some res → J E g 0 0 (([n_Mo g a mo_z mo_y] : List va_W)) [(0, .ref (a 0)), (2, .int x2), (3, .int x3), (4, .int v4), (5, .int v5), (6, .int v6), (7, .int v7)] 88 []) : ∀ (n : Nat) (mo_z : jZ) (mo_y : jY) (v4 : Int32) (v5 : Int32) (v6 : Int32) (v7 : Int32) (v8 : Int32) (v9 : Int32), f_Mo_draws_105 x1 x2 x3 k88 n mo_z mo_y v4 v5 v6 v7 v8 v9 = some res → J E g 0 0 (([n_Mo g a mo_z mo_y] : List va_W)) [(0, .ref (a 0)), (2, .int x2), (3, .int x3), (4, .int v4), (5, .int v5), (6, .int v6), (7, .int v7), (8, .int v8), (9, .int v9)] 105 [] := by
  intro n
  induction n with
  | zero =>
    intro mo_z mo_y v4 v5 v6 v7 v8 v9 hf
    rw [f_Mo_draws_105] at hf
    cases hf
  | succ n ih =>
    intro mo_z mo_y v4 v5 v6 v7 v8 v9 hf
    rw [f_Mo_draws_105] at hf
    refine j_iload hE dX12_draws_105 7 rfl ?_
    refine j_aload_n hE dX12_draws_107 rfl 0 rfl ?_
    refine j_get (v := .ref (a 3)) hE lg_Mo_18 0 rfl 0 (wg_Mo_0 g a mo_z mo_y) rfl dX12_draws_108 ?_
    refine j_iload hE dX12_draws_111 8 rfl ?_
    refine j_iald hE hf 0 rfl 3 (wg_Mo_3 g a mo_z mo_y) dX12_draws_113 (fun hf => ?_)
    refine j_icmp_lt (tgt := 135) hE hf dX12_draws_114 (by decide) (fun c14 hf => ?_) (fun c14 hf => ?_)
    · refine j_iconst (v := 0) hE dX12_draws_135 (by decide) ?_
      refine j_istore (lv' := [(10, .int 0), (0, .ref (a 0)), (2, .int x2), (3, .int x3), (4, .int v4), (5, .int v5), (6, .int v6), (7, .int v7), (8, .int v8), (9, .int v9)]) hE dX12_draws_136 (by decide) rfl ?_
      refine j_iconst (v := 0) hE dX12_draws_138 (by decide) ?_
      refine j_istore (lv' := [(11, .int 0), (10, .int 0), (0, .ref (a 0)), (2, .int x2), (3, .int x3), (4, .int v4), (5, .int v5), (6, .int v6), (7, .int v7), (8, .int v8), (9, .int v9)]) hE dX12_draws_139 (by decide) rfl ?_
      exact j_sub [2, 3, 4, 5, 6, 7, 8, 10, 1, 0] rfl (j_Mo_draws_141 E g a x1 x2 x3 res hE hq k88 hk88 FU mo_z mo_y v4 v5 v6 v7 v9 0 0 hf)
    · refine j_iload hE dX12_draws_117 7 rfl ?_
      refine j_aload_n hE dX12_draws_119 rfl 0 rfl ?_
      refine j_get (v := .ref (a 3)) hE lg_Mo_18 0 rfl 0 (wg_Mo_0 g a mo_z mo_y) rfl dX12_draws_120 ?_
      refine j_iload hE dX12_draws_123 8 rfl ?_
      refine j_iald hE hf 0 rfl 3 (wg_Mo_3 g a mo_z mo_y) dX12_draws_125 (fun hf => ?_)
      refine j_isub hE dX12_draws_126 ?_
      refine j_istore (lv' := [(8, .int (v8 - (mo_z 6 (Int32.toNatClampNeg v9)))), (0, .ref (a 0)), (2, .int x2), (3, .int x3), (4, .int v4), (5, .int v5), (6, .int v6), (7, .int v7), (9, .int v9)]) hE dX12_draws_127 (by decide) rfl ?_
      refine j_iinc (v := (v9 + 1)) (lv' := [(9, .int (v9 + 1)), (8, .int (v8 - (mo_z 6 (Int32.toNatClampNeg v9)))), (0, .ref (a 0)), (2, .int x2), (3, .int x3), (4, .int v4), (5, .int v5), (6, .int v6), (7, .int v7)]) hE dX12_draws_129 8 rfl rfl (by decide) rfl ?_
      refine j_goto (tgt := 105) hE dX12_draws_132 (by decide) ?_
      exact j_sub [2, 3, 4, 5, 6, 7, 8, 1, 0] rfl (ih mo_z mo_y v4 v5 v6 v7 (v8 - (mo_z 6 (Int32.toNatClampNeg v9))) (v9 + 1) hf)
set_option maxRecDepth 100000 in
theorem j_Mo_draws_88 (E : jT) (g : jG) (a : Nat → Nat)  (x1 : Int32) (x2 : Int32) (x3 : Int32) (res : jZ × jY × Int32) (hE : jOk E g RX12 cX12_draws 13 (some .int) rm_Mo_draws) (hq : jEnd E g (some (.int res.2.2)) (([n_Mo g a res.1 res.2.1] : List va_W)) 0 0)  : ∀ (n : Nat) (mo_z : jZ) (mo_y : jY) (v4 : Int32) (v5 : Int32) (v6 : Int32) (v7 : Int32), f_Mo_draws_88 x1 x2 x3 n mo_z mo_y v4 v5 v6 v7 = some res → J E g 0 0 (([n_Mo g a mo_z mo_y] : List va_W)) [(0, .ref (a 0)), (2, .int x2), (3, .int x3), (4, .int v4), (5, .int v5), (6, .int v6), (7, .int v7)] 88 [] := by
  intro n
  induction n with
  | zero =>
    intro mo_z mo_y v4 v5 v6 v7 hf
    rw [f_Mo_draws_88] at hf
    cases hf
  | succ n ih =>
    intro mo_z mo_y v4 v5 v6 v7 hf
    rw [f_Mo_draws_88] at hf
    refine j_iload hE dX12_draws_88 6 rfl ?_
    refine j_iload_n hE dX12_draws_90 rfl 1 rfl ?_
    refine j_icmp_ge (tgt := 234) hE hf dX12_draws_91 (by decide) (fun c9 hf => ?_) (fun c9 hf => ?_)
    · refine j_iload_n hE dX12_draws_234 rfl 2 rfl ?_
      refine j_if_ne (tgt := 243) hE hf dX12_draws_235 (by decide) (fun c10 hf => ?_) (fun c10 hf => ?_)
      · refine j_iload hE dX12_draws_243 5 rfl ?_
        obtain rfl := Option.some.inj hf
        exact j_iret hE hq rfl rfl dX12_draws_245
      · refine j_iload hE dX12_draws_238 4 rfl ?_
        refine j_goto (tgt := 245) hE dX12_draws_240 (by decide) ?_
        obtain rfl := Option.some.inj hf
        exact j_iret hE hq rfl rfl dX12_draws_245
    · refine j_aload_n hE dX12_draws_94 rfl 0 rfl ?_
      refine j_iload hE dX12_draws_95 3 rfl ?_
      obtain ⟨q11, hc12, hf⟩ := bind_of hf
      refine j_callV (ws' := ([n_Mo g a q11.1 mo_y] : List va_W)) (As := [.int v4]) (rest := []) (st2 := [.int q11.2]) hE (fun l => c_Mo_draw l g a mo_z mo_y v4 q11 hc12) cd_X12_draw cv_X12_draw ml_Mo_401 rfl rfl rfl (wg_Mo_0 _ _ _ _) ⟨⟨Nat.le_of_ble_eq_true rfl, Nat.le_of_ble_eq_true rfl⟩, ⟨Nat.zero_le _, Nat.zero_le _⟩, rfl, rfl⟩ [0] rfl rfl rfl (Nat.le_of_ble_eq_true rfl) rfl dX12_draws_97 ?_
      refine j_istore (lv' := [(8, .int q11.2), (0, .ref (a 0)), (2, .int x2), (3, .int x3), (4, .int v4), (5, .int v5), (6, .int v6), (7, .int v7)]) hE dX12_draws_100 (by decide) rfl ?_
      refine j_iconst (v := 0) hE dX12_draws_102 (by decide) ?_
      refine j_istore (lv' := [(9, .int 0), (8, .int q11.2), (0, .ref (a 0)), (2, .int x2), (3, .int x3), (4, .int v4), (5, .int v5), (6, .int v6), (7, .int v7)]) hE dX12_draws_103 (by decide) rfl ?_
      exact j_sub [2, 3, 4, 5, 6, 7, 8, 1, 0] rfl (j_Mo_draws_105 E g a x1 x2 x3 res hE hq (fun mo_z mo_y v4 v5 v6 v7 => f_Mo_draws_88 x1 x2 x3 n mo_z mo_y v4 v5 v6 v7) (fun mo_z mo_y v4 v5 v6 v7 hf => ih mo_z mo_y v4 v5 v6 v7 hf) FU q11.1 mo_y v4 v5 v6 v7 q11.2 0 hf)
set_option maxRecDepth 100000 in
theorem j_Mo_draws_47 (E : jT) (g : jG) (a : Nat → Nat)  (x1 : Int32) (x2 : Int32) (x3 : Int32) (res : jZ × jY × Int32) (hE : jOk E g RX12 cX12_draws 13 (some .int) rm_Mo_draws) (hq : jEnd E g (some (.int res.2.2)) (([n_Mo g a res.1 res.2.1] : List va_W)) 0 0)  : ∀ (n : Nat) (mo_z : jZ) (mo_y : jY) (v4 : Int32) (v5 : Int32), f_Mo_draws_47 x1 x2 x3 n mo_z mo_y v4 v5 = some res → J E g 0 0 (([n_Mo g a mo_z mo_y] : List va_W)) [(0, .ref (a 0)), (1, .int x1), (2, .int x2), (3, .int x3), (4, .int v4), (5, .int v5)] 47 [] := by
  intro n
  induction n with
  | zero =>
    intro mo_z mo_y v4 v5 hf
    rw [f_Mo_draws_47] at hf
    cases hf
  | succ n ih =>
    intro mo_z mo_y v4 v5 hf
    rw [f_Mo_draws_47] at hf
    refine j_iload hE dX12_draws_47 5 rfl ?_
    refine j_aload_n hE dX12_draws_49 rfl 0 rfl ?_
    refine j_get (v := .int (mo_z 3 0)) hE lg_Mo_237 0 rfl 0 (wg_Mo_0 g a mo_z mo_y) rfl dX12_draws_50 ?_
    refine j_icmp_ge (tgt := 74) hE hf dX12_draws_53 (by decide) (fun c7 hf => ?_) (fun c7 hf => ?_)
    · refine j_aload_n hE dX12_draws_74 rfl 0 rfl ?_
      refine j_iload_n hE dX12_draws_75 rfl 1 rfl ?_
      refine j_put (v := .int x1) (ws' := ([n_Mo g a (up2 mo_z 57 0 x1) mo_y] : List va_W)) hE lp_Mo_396 0 rfl 0 (wg_Mo_0 g a mo_z mo_y) rfl rfl (Nat.le_of_ble_eq_true rfl) (wp_Mo_57 g a mo_z mo_y x1) rfl dX12_draws_76 ?_
      refine j_iconst (v := 0) hE dX12_draws_79 (by decide) ?_
      refine j_istore (lv' := [(5, .int 0), (0, .ref (a 0)), (1, .int x1), (2, .int x2), (3, .int x3), (4, .int v4)]) hE dX12_draws_80 (by decide) rfl ?_
      refine j_iconst (v := 0) hE dX12_draws_82 (by decide) ?_
      refine j_istore (lv' := [(6, .int 0), (5, .int 0), (0, .ref (a 0)), (1, .int x1), (2, .int x2), (3, .int x3), (4, .int v4)]) hE dX12_draws_83 (by decide) rfl ?_
      refine j_iconst (v := 0) hE dX12_draws_85 (by decide) ?_
      refine j_istore (lv' := [(7, .int 0), (6, .int 0), (5, .int 0), (0, .ref (a 0)), (1, .int x1), (2, .int x2), (3, .int x3), (4, .int v4)]) hE dX12_draws_86 (by decide) rfl ?_
      exact j_sub [3, 5, 6, 7, 2, 1, 0] rfl (j_Mo_draws_88 E g a x1 x2 x3 res hE hq FU (up2 mo_z 57 0 x1) mo_y v4 0 0 0 hf)
    · refine j_iload hE dX12_draws_56 4 rfl ?_
      refine j_aload_n hE dX12_draws_58 rfl 0 rfl ?_
      refine j_get (v := .ref (a 3)) hE lg_Mo_18 0 rfl 0 (wg_Mo_0 g a mo_z mo_y) rfl dX12_draws_59 ?_
      refine j_iload hE dX12_draws_62 5 rfl ?_
      refine j_iald hE hf 0 rfl 3 (wg_Mo_3 g a mo_z mo_y) dX12_draws_64 (fun hf => ?_)
      refine j_iadd hE dX12_draws_65 ?_
      refine j_istore (lv' := [(4, .int (v4 + (mo_z 6 (Int32.toNatClampNeg v5)))), (0, .ref (a 0)), (1, .int x1), (2, .int x2), (3, .int x3), (5, .int v5)]) hE dX12_draws_66 (by decide) rfl ?_
      refine j_iinc (v := (v5 + 1)) (lv' := [(5, .int (v5 + 1)), (4, .int (v4 + (mo_z 6 (Int32.toNatClampNeg v5)))), (0, .ref (a 0)), (1, .int x1), (2, .int x2), (3, .int x3)]) hE dX12_draws_68 5 rfl rfl (by decide) rfl ?_
      refine j_goto (tgt := 47) hE dX12_draws_71 (by decide) ?_
      exact j_sub [2, 3, 4, 5, 1, 0] rfl (ih mo_z mo_y (v4 + (mo_z 6 (Int32.toNatClampNeg v5))) (v5 + 1) hf)
set_option maxRecDepth 100000 in
theorem c_Mo_draws (l : Launch) (g : jG) (a : Nat → Nat) (mo_z : jZ) (mo_y : jY) (x1 : Int32) (x2 : Int32) (x3 : Int32) (res : jZ × jY × Int32) (hf : f_Mo_draws mo_z mo_y x1 x2 x3 = some res) : MC l g yX12_draws cX12_draws 13 (some .int) rm_Mo_draws [.ref (a 0), .int x1, .int x2, .int x3] (([n_Mo g a mo_z mo_y] : List va_W)) (some (.int res.2.2)) (([n_Mo g a res.1 res.2.1] : List va_W)) 0 0 := by
  refine MC_of (own := RX12) (lv := [(0, .ref (a 0)), (1, .int x1), (2, .int x2), (3, .int x3)]) (by decide) rfl (Nat.le_of_ble_eq_true rfl) rfl rfl (fun E hE hq => ?_)
  unfold f_Mo_draws at hf
  refine j_aload_n hE dX12_draws_0 rfl 0 rfl ?_
  refine j_iconst (v := 0) hE dX12_draws_1 (by decide) ?_
  refine j_put (v := .int 0) (ws' := ([n_Mo g a (up2 mo_z 0 0 0) mo_y] : List va_W)) hE lp_Mo_87 0 rfl 0 (wg_Mo_0 g a mo_z mo_y) rfl rfl (Nat.le_of_ble_eq_true rfl) (wp_Mo_0 g a mo_z mo_y 0) rfl dX12_draws_2 ?_
  refine j_iload_n hE dX12_draws_5 rfl 1 rfl ?_
  refine j_if_lt (tgt := 37) hE hf dX12_draws_6 (by decide) (fun c1 hf => ?_) (fun c1 hf => ?_)
  · refine j_ldcw hE co_Mo_298 dX12_draws_37 ?_
    obtain rfl := Option.some.inj hf
    exact j_iret hE hq rfl rfl dX12_draws_40
  · refine j_iload_n hE dX12_draws_9 rfl 2 rfl ?_
    refine j_iconst (v := 1) hE dX12_draws_10 (by decide) ?_
    refine j_icmp_lt (tgt := 37) hE hf dX12_draws_11 (by decide) (fun c2 hf => ?_) (fun c2 hf => ?_)
    · refine j_ldcw hE co_Mo_298 dX12_draws_37 ?_
      obtain rfl := Option.some.inj hf
      exact j_iret hE hq rfl rfl dX12_draws_40
    · refine j_iload_n hE dX12_draws_14 rfl 2 rfl ?_
      refine j_sipush (v := 500) hE dX12_draws_15 (by decide) ?_
      refine j_icmp_gt (tgt := 37) hE hf dX12_draws_18 (by decide) (fun c3 hf => ?_) (fun c3 hf => ?_)
      · refine j_ldcw hE co_Mo_298 dX12_draws_37 ?_
        obtain rfl := Option.some.inj hf
        exact j_iret hE hq rfl rfl dX12_draws_40
      · refine j_iload_n hE dX12_draws_21 rfl 3 rfl ?_
        refine j_if_lt (tgt := 37) hE hf dX12_draws_22 (by decide) (fun c4 hf => ?_) (fun c4 hf => ?_)
        · refine j_ldcw hE co_Mo_298 dX12_draws_37 ?_
          obtain rfl := Option.some.inj hf
          exact j_iret hE hq rfl rfl dX12_draws_40
        · refine j_iload_n hE dX12_draws_25 rfl 3 rfl ?_
          refine j_iconst (v := 1) hE dX12_draws_26 (by decide) ?_
          refine j_icmp_gt (tgt := 37) hE hf dX12_draws_27 (by decide) (fun c5 hf => ?_) (fun c5 hf => ?_)
          · refine j_ldcw hE co_Mo_298 dX12_draws_37 ?_
            obtain rfl := Option.some.inj hf
            exact j_iret hE hq rfl rfl dX12_draws_40
          · refine j_aload_n hE dX12_draws_30 rfl 0 rfl ?_
            refine j_get (v := .int (mo_z 3 0)) hE lg_Mo_237 0 rfl 0 (wg_Mo_0 g a (up2 mo_z 0 0 0) mo_y) rfl dX12_draws_31 ?_
            refine j_if_ne (tgt := 41) hE hf dX12_draws_34 (by decide) (fun c6 hf => ?_) (fun c6 hf => ?_)
            · refine j_iconst (v := 0) hE dX12_draws_41 (by decide) ?_
              refine j_istore (lv' := [(4, .int 0), (0, .ref (a 0)), (1, .int x1), (2, .int x2), (3, .int x3)]) hE dX12_draws_42 (by decide) rfl ?_
              refine j_iconst (v := 0) hE dX12_draws_44 (by decide) ?_
              refine j_istore (lv' := [(5, .int 0), (4, .int 0), (0, .ref (a 0)), (1, .int x1), (2, .int x2), (3, .int x3)]) hE dX12_draws_45 (by decide) rfl ?_
              exact j_sub [2, 3, 4, 5, 1, 0] rfl (j_Mo_draws_47 E g a x1 x2 x3 res hE hq FU (up2 mo_z 0 0 0) mo_y 0 0 hf)
            · refine j_ldcw hE co_Mo_298 dX12_draws_37 ?_
              obtain rfl := Option.some.inj hf
              exact j_iret hE hq rfl rfl dX12_draws_40
def rm_Mo_number : Room := { frames := 0, cells := 0, slots := 0, locals := 0 }
def f_Mo_number (mo_z : jZ) (x1 : Int32) : Option (jZ × Int32) := (if x1 = 0 then some ((up2 mo_z 0 0 0), (mo_z 3 0))
    else (if x1 = 1 then some ((up2 mo_z 0 0 0), (mo_z 4 0))
    else (if x1 = 2 then some ((up2 mo_z 0 0 0), (mo_z 38 0))
    else (if x1 = 3 then (if (mo_z 39 0) = (-1) then some ((up2 mo_z 0 0 0), (mo_z 38 0))
    else some ((up2 mo_z 0 0 0), (mo_z 39 0)))
    else (if x1 = 4 then some ((up2 mo_z 0 0 0), (mo_z 17 0))
    else (if x1 = 5 then some ((up2 mo_z 0 0 0), (mo_z 18 0))
    else (if x1 = 6 then some ((up2 mo_z 0 0 0), (mo_z 19 0))
    else some ((up2 mo_z 0 0 0), (-1)))))))))
set_option maxRecDepth 100000 in
theorem c_Mo_number (l : Launch) (g : jG) (a : Nat → Nat) (mo_z : jZ) (mo_y : jY) (x1 : Int32) (res : jZ × Int32) (hf : f_Mo_number mo_z x1 = some res) : MC l g yX12_number cX12_number 2 (some .int) rm_Mo_number [.ref (a 0), .int x1] (([n_Mo g a mo_z mo_y] : List va_W)) (some (.int res.2)) (([n_Mo g a res.1 mo_y] : List va_W)) 0 0 := by
  refine MC_of (own := RX12) (lv := [(0, .ref (a 0)), (1, .int x1)]) (by decide) rfl (Nat.le_of_ble_eq_true rfl) rfl rfl (fun E hE hq => ?_)
  unfold f_Mo_number at hf
  refine j_aload_n hE dX12_number_0 rfl 0 rfl ?_
  refine j_iconst (v := 0) hE dX12_number_1 (by decide) ?_
  refine j_put (v := .int 0) (ws' := ([n_Mo g a (up2 mo_z 0 0 0) mo_y] : List va_W)) hE lp_Mo_87 0 rfl 0 (wg_Mo_0 g a mo_z mo_y) rfl rfl (Nat.le_of_ble_eq_true rfl) (wp_Mo_0 g a mo_z mo_y 0) rfl dX12_number_2 ?_
  refine j_iload_n hE dX12_number_5 rfl 1 rfl ?_
  refine j_case hf (fun c1 hf => ?_) (fun c1 hf => ?_)
  · refine j_tableIn (tgt := 48) hE dX12_number_6 (by rw [c1]; decide) (by rw [c1]; decide) (by rw [c1]; try rfl) (by decide) ?_
    refine j_aload_n hE dX12_number_48 rfl 0 rfl ?_
    refine j_get (v := .int (mo_z 3 0)) hE lg_Mo_237 0 rfl 0 (wg_Mo_0 g a (up2 mo_z 0 0 0) mo_y) rfl dX12_number_49 ?_
    obtain rfl := Option.some.inj hf
    exact j_iret hE hq rfl rfl dX12_number_52
  refine j_case hf (fun c2 hf => ?_) (fun c2 hf => ?_)
  · refine j_tableIn (tgt := 53) hE dX12_number_6 (by rw [c2]; decide) (by rw [c2]; decide) (by rw [c2]; try rfl) (by decide) ?_
    refine j_aload_n hE dX12_number_53 rfl 0 rfl ?_
    refine j_get (v := .int (mo_z 4 0)) hE lg_Mo_240 0 rfl 0 (wg_Mo_0 g a (up2 mo_z 0 0 0) mo_y) rfl dX12_number_54 ?_
    obtain rfl := Option.some.inj hf
    exact j_iret hE hq rfl rfl dX12_number_57
  refine j_case hf (fun c3 hf => ?_) (fun c3 hf => ?_)
  · refine j_tableIn (tgt := 58) hE dX12_number_6 (by rw [c3]; decide) (by rw [c3]; decide) (by rw [c3]; try rfl) (by decide) ?_
    refine j_aload_n hE dX12_number_58 rfl 0 rfl ?_
    refine j_get (v := .int (mo_z 38 0)) hE lg_Mo_249 0 rfl 0 (wg_Mo_0 g a (up2 mo_z 0 0 0) mo_y) rfl dX12_number_59 ?_
    obtain rfl := Option.some.inj hf
    exact j_iret hE hq rfl rfl dX12_number_62
  refine j_case hf (fun c4 hf => ?_) (fun c4 hf => ?_)
  · refine j_tableIn (tgt := 63) hE dX12_number_6 (by rw [c4]; decide) (by rw [c4]; decide) (by rw [c4]; try rfl) (by decide) ?_
    refine j_aload_n hE dX12_number_63 rfl 0 rfl ?_
    refine j_get (v := .int (mo_z 39 0)) hE lg_Mo_59 0 rfl 0 (wg_Mo_0 g a (up2 mo_z 0 0 0) mo_y) rfl dX12_number_64 ?_
    refine j_iconst (v := (-1)) hE dX12_number_67 (by decide) ?_
    refine j_icmp_ne (tgt := 78) hE hf dX12_number_68 (by decide) (fun c5 hf => ?_) (fun c5 hf => ?_)
    · refine j_aload_n hE dX12_number_78 rfl 0 rfl ?_
      refine j_get (v := .int (mo_z 39 0)) hE lg_Mo_59 0 rfl 0 (wg_Mo_0 g a (up2 mo_z 0 0 0) mo_y) rfl dX12_number_79 ?_
      obtain rfl := Option.some.inj hf
      exact j_iret hE hq rfl rfl dX12_number_82
    · refine j_aload_n hE dX12_number_71 rfl 0 rfl ?_
      refine j_get (v := .int (mo_z 38 0)) hE lg_Mo_249 0 rfl 0 (wg_Mo_0 g a (up2 mo_z 0 0 0) mo_y) rfl dX12_number_72 ?_
      refine j_goto (tgt := 82) hE dX12_number_75 (by decide) ?_
      obtain rfl := Option.some.inj hf
      exact j_iret hE hq rfl rfl dX12_number_82
  refine j_case hf (fun c6 hf => ?_) (fun c6 hf => ?_)
  · refine j_tableIn (tgt := 83) hE dX12_number_6 (by rw [c6]; decide) (by rw [c6]; decide) (by rw [c6]; try rfl) (by decide) ?_
    refine j_aload_n hE dX12_number_83 rfl 0 rfl ?_
    refine j_get (v := .int (mo_z 17 0)) hE lg_Mo_243 0 rfl 0 (wg_Mo_0 g a (up2 mo_z 0 0 0) mo_y) rfl dX12_number_84 ?_
    obtain rfl := Option.some.inj hf
    exact j_iret hE hq rfl rfl dX12_number_87
  refine j_case hf (fun c7 hf => ?_) (fun c7 hf => ?_)
  · refine j_tableIn (tgt := 88) hE dX12_number_6 (by rw [c7]; decide) (by rw [c7]; decide) (by rw [c7]; try rfl) (by decide) ?_
    refine j_aload_n hE dX12_number_88 rfl 0 rfl ?_
    refine j_get (v := .int (mo_z 18 0)) hE lg_Mo_52 0 rfl 0 (wg_Mo_0 g a (up2 mo_z 0 0 0) mo_y) rfl dX12_number_89 ?_
    obtain rfl := Option.some.inj hf
    exact j_iret hE hq rfl rfl dX12_number_92
  refine j_case hf (fun c8 hf => ?_) (fun c8 hf => ?_)
  · refine j_tableIn (tgt := 93) hE dX12_number_6 (by rw [c8]; decide) (by rw [c8]; decide) (by rw [c8]; try rfl) (by decide) ?_
    refine j_aload_n hE dX12_number_93 rfl 0 rfl ?_
    refine j_get (v := .int (mo_z 19 0)) hE lg_Mo_246 0 rfl 0 (wg_Mo_0 g a (up2 mo_z 0 0 0) mo_y) rfl dX12_number_94 ?_
    obtain rfl := Option.some.inj hf
    exact j_iret hE hq rfl rfl dX12_number_97
  have t_c1 : 0 ≠ Int32.toInt x1 := fun h => c1 (Int32.toInt_inj.mp (h.symm.trans (by decide)))
  have t_c2 : 1 ≠ Int32.toInt x1 := fun h => c2 (Int32.toInt_inj.mp (h.symm.trans (by decide)))
  have t_c3 : 2 ≠ Int32.toInt x1 := fun h => c3 (Int32.toInt_inj.mp (h.symm.trans (by decide)))
  have t_c4 : 3 ≠ Int32.toInt x1 := fun h => c4 (Int32.toInt_inj.mp (h.symm.trans (by decide)))
  have t_c6 : 4 ≠ Int32.toInt x1 := fun h => c6 (Int32.toInt_inj.mp (h.symm.trans (by decide)))
  have t_c7 : 5 ≠ Int32.toInt x1 := fun h => c7 (Int32.toInt_inj.mp (h.symm.trans (by decide)))
  have t_c8 : 6 ≠ Int32.toInt x1 := fun h => c8 (Int32.toInt_inj.mp (h.symm.trans (by decide)))
  refine j_tableOut (tgt := 98) hE dX12_number_6 (by omega) (by decide) ?_
  refine j_iconst (v := (-1)) hE dX12_number_98 (by decide) ?_
  obtain rfl := Option.some.inj hf
  exact j_iret hE hq rfl rfl dX12_number_99
def f_Mo_grp : Nat → Nat → jZ → Option jZ
  | 0, _, _ => none
  | d + 1, k, z => if k = 0 then f_Mo_expression (f_Mo_grp d) z else if k = 1 then f_Mo_conjunction (f_Mo_grp d) z else if k = 2 then f_Mo_negation (f_Mo_grp d) z else if k = 3 then f_Mo_sum (f_Mo_grp d) z else if k = 4 then f_Mo_product (f_Mo_grp d) z else f_Mo_primary (f_Mo_grp d) z
theorem c_Mo_grp (g : jG) (a : Nat → Nat) (mo_y : jY) : ∀ (d k : Nat) (z z2 : jZ), f_Mo_grp d k z = some z2 → GC g a mo_y d k z z2
  | 0, k, z, z2, h => by cases h
  | d + 1, k, z, z2, h => by
    have hG := c_Mo_grp g a mo_y d
    intro l
    rw [f_Mo_grp] at h
    refine ⟨?_, ?_, ?_, ?_, ?_, ?_⟩ <;> intro hk <;> subst hk
    · rw [if_pos rfl] at h
      exact c_Mo_expression l g a z mo_y (f_Mo_grp d) d hG z2 h
    · rw [if_neg (by decide), if_pos rfl] at h
      exact c_Mo_conjunction l g a z mo_y (f_Mo_grp d) d hG z2 h
    · rw [if_neg (by decide), if_neg (by decide), if_pos rfl] at h
      exact c_Mo_negation l g a z mo_y (f_Mo_grp d) d hG z2 h
    · rw [if_neg (by decide), if_neg (by decide), if_neg (by decide), if_pos rfl] at h
      exact c_Mo_sum l g a z mo_y (f_Mo_grp d) d hG z2 h
    · rw [if_neg (by decide), if_neg (by decide), if_neg (by decide), if_neg (by decide), if_pos rfl] at h
      exact c_Mo_product l g a z mo_y (f_Mo_grp d) d hG z2 h
    · rw [if_neg (by decide), if_neg (by decide), if_neg (by decide), if_neg (by decide), if_neg (by decide)] at h
      exact c_Mo_primary l g a z mo_y (f_Mo_grp d) d hG z2 h
def rm_Mo_line : Room := { frames := 221, cells := 0, slots := 0, locals := 8420 }
def f_Mo_line_188    (mo_z : jZ) : Option (jZ) := (if (mo_z 32 0) = 0 then (f_Mo_isSign mo_z 59).bind fun q40 => (if q40 = 0 then (f_Mo_wrong mo_z 1).bind fun q45 => some (up2 q45 26 0 ((q45 26 0) + 1))
    else (f_Mo_next mo_z).bind fun q43 => some (up2 q43 26 0 ((q43 26 0) + 1)))
    else some mo_z)
def f_Mo_line_82    (mo_z : jZ) (v1 : Int32) : Option (jZ) := (if (mo_z 32 0) = 0 then (f_Mo_next (up2 mo_z 25 0 ((mo_z 25 0) ||| (1 <<< (v1 &&& 31))))).bind fun q24 => (if v1 = 0 then (f_Mo_kindLine q24 (5 + (q24 20 0))).bind fun q27 => f_Mo_line_188 q27
    else (if v1 = 1 then (f_Mo_placeLine q24 (12 + (q24 21 0))).bind fun q30 => f_Mo_line_188 q30
    else (if v1 = 2 then (f_Mo_grp DG 0 q24).bind fun q33 => f_Mo_line_188 q33
    else (f_Mo_numeral q24 0 9).bind fun q35 => (f_Mo_numeral (up2 q35.1 23 0 q35.2) 0 9).bind fun q37 => f_Mo_line_188 (up2 q37.1 24 0 q37.2))))
    else some mo_z)
def f_Mo_line_60    (mo_z : jZ) (v1 : Int32) : Option (jZ) := (if v1 < 2 then f_Mo_line_82 mo_z v1
    else (if (((mo_z 25 0) >>> (v1 &&& 31)) &&& 1) = 1 then (f_Mo_wrong mo_z 3).bind fun q21 => f_Mo_line_82 q21 v1
    else f_Mo_line_82 mo_z v1))
def f_Mo_line (mo_z : jZ)  : Option (jZ) := (if (mo_z 30 0) = 0 then (if (mo_z 31 0) ≤ 3 then (if (mo_z 31 0) = 0 then (if (mo_z 20 0) = 5 then (f_Mo_wrong mo_z 2).bind fun q11 => f_Mo_line_82 q11 (mo_z 31 0)
    else (if (mo_z 31 0) = 1 then (if (mo_z 21 0) = 12 then (f_Mo_wrong mo_z 2).bind fun q15 => f_Mo_line_82 q15 (mo_z 31 0)
    else f_Mo_line_60 mo_z (mo_z 31 0))
    else f_Mo_line_60 mo_z (mo_z 31 0)))
    else (if (mo_z 31 0) = 1 then (if (mo_z 21 0) = 12 then (f_Mo_wrong mo_z 2).bind fun q8 => f_Mo_line_82 q8 (mo_z 31 0)
    else f_Mo_line_60 mo_z (mo_z 31 0))
    else f_Mo_line_60 mo_z (mo_z 31 0)))
    else (f_Mo_wrong mo_z 1).bind fun q17 => some q17)
    else (f_Mo_wrong mo_z 1).bind fun q2 => some q2)
set_option maxRecDepth 100000 in
theorem j_Mo_line_188 (E : jT) (g : jG) (a : Nat → Nat) (mo_y : jY)  (res : jZ) (hE : jOk E g RX12 cX12_line 2 (none : Option Jvm.ClassFile.FieldType) rm_Mo_line) (hq : jEnd E g none (([n_Mo g a res mo_y] : List va_W)) 0 0)  (mo_z : jZ) (hf : f_Mo_line_188 mo_z = some res) : J E g 0 0 (([n_Mo g a mo_z mo_y] : List va_W)) [(0, .ref (a 0))] 188 [] := by
  unfold f_Mo_line_188 at hf
  refine j_aload_n hE dX12_line_188 rfl 0 rfl ?_
  refine j_get (v := .int (mo_z 32 0)) hE lg_Mo_140 0 rfl 0 (wg_Mo_0 g a mo_z mo_y) rfl dX12_line_189 ?_
  refine j_if_eq (tgt := 196) hE hf dX12_line_192 (by decide) (fun c39 hf => ?_) (fun c39 hf => ?_)
  · refine j_aload_n hE dX12_line_196 rfl 0 rfl ?_
    refine j_bipush (v := 59) hE dX12_line_197 (by decide) ?_
    obtain ⟨q40, hc41, hf⟩ := bind_of hf
    refine j_callV (ws' := ([n_Mo g a mo_z mo_y] : List va_W)) (As := [.int 59]) (rest := []) (st2 := [.int q40]) hE (fun l => c_Mo_isSign l g a mo_z mo_y 59 q40 hc41) cd_X12_isSign cv_X12_isSign ml_Mo_184 rfl rfl rfl (wg_Mo_0 _ _ _ _) ⟨⟨Nat.le_of_ble_eq_true rfl, Nat.le_of_ble_eq_true rfl⟩, ⟨Nat.zero_le _, Nat.zero_le _⟩, rfl, rfl⟩ [0] rfl rfl rfl (Nat.le_of_ble_eq_true rfl) rfl dX12_line_199 ?_
    refine j_if_ne (tgt := 213) hE hf dX12_line_202 (by decide) (fun c42 hf => ?_) (fun c42 hf => ?_)
    · refine j_aload_n hE dX12_line_213 rfl 0 rfl ?_
      obtain ⟨q43, hc44, hf⟩ := bind_of hf
      refine j_callV (ws' := ([n_Mo g a q43 mo_y] : List va_W)) (As := []) (rest := []) (st2 := []) hE (fun l => c_Mo_next l g a mo_z mo_y q43 hc44) cd_X12_next cv_X12_next ml_Mo_149 rfl rfl rfl (wg_Mo_0 _ _ _ _) ⟨⟨Nat.le_of_ble_eq_true rfl, Nat.le_of_ble_eq_true rfl⟩, ⟨Nat.zero_le _, Nat.zero_le _⟩, rfl, rfl⟩ [0] rfl rfl rfl (Nat.le_of_ble_eq_true rfl) rfl dX12_line_214 ?_
      refine j_aload_n hE dX12_line_217 rfl 0 rfl ?_
      refine j_dup hE dX12_line_218 rfl ?_
      refine j_get (v := .int (q43 26 0)) hE lg_Mo_187 0 rfl 0 (wg_Mo_0 g a q43 mo_y) rfl dX12_line_219 ?_
      refine j_iconst (v := 1) hE dX12_line_222 (by decide) ?_
      refine j_iadd hE dX12_line_223 ?_
      refine j_put (v := .int ((q43 26 0) + 1)) (ws' := ([n_Mo g a (up2 q43 26 0 ((q43 26 0) + 1)) mo_y] : List va_W)) hE lp_Mo_187 0 rfl 0 (wg_Mo_0 g a q43 mo_y) rfl rfl (Nat.le_of_ble_eq_true rfl) (wp_Mo_26 g a q43 mo_y ((q43 26 0) + 1)) rfl dX12_line_224 ?_
      obtain rfl := Option.some.inj hf
      exact j_vret hE hq rfl rfl dX12_line_227
    · refine j_aload_n hE dX12_line_205 rfl 0 rfl ?_
      refine j_iconst (v := 1) hE dX12_line_206 (by decide) ?_
      obtain ⟨q45, hc46, hf⟩ := bind_of hf
      refine j_callV (ws' := ([n_Mo g a q45 mo_y] : List va_W)) (As := [.int 1]) (rest := []) (st2 := []) hE (fun l => c_Mo_wrong l g a mo_z mo_y 1 q45 hc46) cd_X12_wrong cv_X12_wrong ml_Mo_146 rfl rfl rfl (wg_Mo_0 _ _ _ _) ⟨⟨Nat.le_of_ble_eq_true rfl, Nat.le_of_ble_eq_true rfl⟩, ⟨Nat.zero_le _, Nat.zero_le _⟩, rfl, rfl⟩ [0] rfl rfl rfl (Nat.le_of_ble_eq_true rfl) rfl dX12_line_207 ?_
      refine j_goto (tgt := 217) hE dX12_line_210 (by decide) ?_
      refine j_aload_n hE dX12_line_217 rfl 0 rfl ?_
      refine j_dup hE dX12_line_218 rfl ?_
      refine j_get (v := .int (q45 26 0)) hE lg_Mo_187 0 rfl 0 (wg_Mo_0 g a q45 mo_y) rfl dX12_line_219 ?_
      refine j_iconst (v := 1) hE dX12_line_222 (by decide) ?_
      refine j_iadd hE dX12_line_223 ?_
      refine j_put (v := .int ((q45 26 0) + 1)) (ws' := ([n_Mo g a (up2 q45 26 0 ((q45 26 0) + 1)) mo_y] : List va_W)) hE lp_Mo_187 0 rfl 0 (wg_Mo_0 g a q45 mo_y) rfl rfl (Nat.le_of_ble_eq_true rfl) (wp_Mo_26 g a q45 mo_y ((q45 26 0) + 1)) rfl dX12_line_224 ?_
      obtain rfl := Option.some.inj hf
      exact j_vret hE hq rfl rfl dX12_line_227
  · obtain rfl := Option.some.inj hf
    exact j_vret hE hq rfl rfl dX12_line_195
set_option maxRecDepth 100000 in
theorem j_Mo_line_82 (E : jT) (g : jG) (a : Nat → Nat) (mo_y : jY)  (res : jZ) (hE : jOk E g RX12 cX12_line 2 (none : Option Jvm.ClassFile.FieldType) rm_Mo_line) (hq : jEnd E g none (([n_Mo g a res mo_y] : List va_W)) 0 0)  (mo_z : jZ) (v1 : Int32) (hf : f_Mo_line_82 mo_z v1 = some res) : J E g 0 0 (([n_Mo g a mo_z mo_y] : List va_W)) [(0, .ref (a 0)), (1, .int v1)] 82 [] := by
  unfold f_Mo_line_82 at hf
  refine j_aload_n hE dX12_line_82 rfl 0 rfl ?_
  refine j_get (v := .int (mo_z 32 0)) hE lg_Mo_140 0 rfl 0 (wg_Mo_0 g a mo_z mo_y) rfl dX12_line_83 ?_
  refine j_if_eq (tgt := 90) hE hf dX12_line_86 (by decide) (fun c23 hf => ?_) (fun c23 hf => ?_)
  · refine j_aload_n hE dX12_line_90 rfl 0 rfl ?_
    refine j_dup hE dX12_line_91 rfl ?_
    refine j_get (v := .int (mo_z 25 0)) hE lg_Mo_162 0 rfl 0 (wg_Mo_0 g a mo_z mo_y) rfl dX12_line_92 ?_
    refine j_iconst (v := 1) hE dX12_line_95 (by decide) ?_
    refine j_iload_n hE dX12_line_96 rfl 1 rfl ?_
    refine j_ishl hE dX12_line_97 ?_
    refine j_ior hE dX12_line_98 ?_
    refine j_put (v := .int ((mo_z 25 0) ||| (1 <<< (v1 &&& 31)))) (ws' := ([n_Mo g a (up2 mo_z 25 0 ((mo_z 25 0) ||| (1 <<< (v1 &&& 31)))) mo_y] : List va_W)) hE lp_Mo_162 0 rfl 0 (wg_Mo_0 g a mo_z mo_y) rfl rfl (Nat.le_of_ble_eq_true rfl) (wp_Mo_25 g a mo_z mo_y ((mo_z 25 0) ||| (1 <<< (v1 &&& 31)))) rfl dX12_line_99 ?_
    refine j_aload_n hE dX12_line_102 rfl 0 rfl ?_
    obtain ⟨q24, hc25, hf⟩ := bind_of hf
    refine j_callV (ws' := ([n_Mo g a q24 mo_y] : List va_W)) (As := []) (rest := []) (st2 := []) hE (fun l => c_Mo_next l g a (up2 mo_z 25 0 ((mo_z 25 0) ||| (1 <<< (v1 &&& 31)))) mo_y q24 hc25) cd_X12_next cv_X12_next ml_Mo_149 rfl rfl rfl (wg_Mo_0 _ _ _ _) ⟨⟨Nat.le_of_ble_eq_true rfl, Nat.le_of_ble_eq_true rfl⟩, ⟨Nat.zero_le _, Nat.zero_le _⟩, rfl, rfl⟩ [0] rfl rfl rfl (Nat.le_of_ble_eq_true rfl) rfl dX12_line_103 ?_
    refine j_iload_n hE dX12_line_106 rfl 1 rfl ?_
    refine j_case hf (fun c26 hf => ?_) (fun c26 hf => ?_)
    · refine j_tableIn (tgt := 132) hE dX12_line_107 (by rw [c26]; decide) (by rw [c26]; decide) (by rw [c26]; try rfl) (by decide) ?_
      refine j_aload_n hE dX12_line_132 rfl 0 rfl ?_
      refine j_iconst (v := 5) hE dX12_line_133 (by decide) ?_
      refine j_aload_n hE dX12_line_134 rfl 0 rfl ?_
      refine j_get (v := .int (q24 20 0)) hE lg_Mo_156 0 rfl 0 (wg_Mo_0 g a q24 mo_y) rfl dX12_line_135 ?_
      refine j_iadd hE dX12_line_138 ?_
      obtain ⟨q27, hc28, hf⟩ := bind_of hf
      refine j_callV (ws' := ([n_Mo g a q27 mo_y] : List va_W)) (As := [.int (5 + (q24 20 0))]) (rest := []) (st2 := []) hE (fun l => c_Mo_kindLine l g a q24 mo_y (5 + (q24 20 0)) q27 hc28) cd_X12_kindLine cv_X12_kindLine ml_Mo_165 rfl rfl rfl (wg_Mo_0 _ _ _ _) ⟨⟨Nat.le_of_ble_eq_true rfl, Nat.le_of_ble_eq_true rfl⟩, ⟨Nat.zero_le _, Nat.zero_le _⟩, rfl, rfl⟩ [0] rfl rfl rfl (Nat.le_of_ble_eq_true rfl) rfl dX12_line_139 ?_
      refine j_goto (tgt := 188) hE dX12_line_142 (by decide) ?_
      exact j_sub [0] rfl (j_Mo_line_188 E g a mo_y res hE hq q27 hf)
    refine j_case hf (fun c29 hf => ?_) (fun c29 hf => ?_)
    · refine j_tableIn (tgt := 145) hE dX12_line_107 (by rw [c29]; decide) (by rw [c29]; decide) (by rw [c29]; try rfl) (by decide) ?_
      refine j_aload_n hE dX12_line_145 rfl 0 rfl ?_
      refine j_bipush (v := 12) hE dX12_line_146 (by decide) ?_
      refine j_aload_n hE dX12_line_148 rfl 0 rfl ?_
      refine j_get (v := .int (q24 21 0)) hE lg_Mo_159 0 rfl 0 (wg_Mo_0 g a q24 mo_y) rfl dX12_line_149 ?_
      refine j_iadd hE dX12_line_152 ?_
      obtain ⟨q30, hc31, hf⟩ := bind_of hf
      refine j_callV (ws' := ([n_Mo g a q30 mo_y] : List va_W)) (As := [.int (12 + (q24 21 0))]) (rest := []) (st2 := []) hE (fun l => c_Mo_placeLine l g a q24 mo_y (12 + (q24 21 0)) q30 hc31) cd_X12_placeLine cv_X12_placeLine ml_Mo_168 rfl rfl rfl (wg_Mo_0 _ _ _ _) ⟨⟨Nat.le_of_ble_eq_true rfl, Nat.le_of_ble_eq_true rfl⟩, ⟨Nat.zero_le _, Nat.zero_le _⟩, rfl, rfl⟩ [0] rfl rfl rfl (Nat.le_of_ble_eq_true rfl) rfl dX12_line_153 ?_
      refine j_goto (tgt := 188) hE dX12_line_156 (by decide) ?_
      exact j_sub [0] rfl (j_Mo_line_188 E g a mo_y res hE hq q30 hf)
    refine j_case hf (fun c32 hf => ?_) (fun c32 hf => ?_)
    · refine j_tableIn (tgt := 159) hE dX12_line_107 (by rw [c32]; decide) (by rw [c32]; decide) (by rw [c32]; try rfl) (by decide) ?_
      refine j_aload_n hE dX12_line_159 rfl 0 rfl ?_
      obtain ⟨q33, hc34, hf⟩ := bind_of hf
      refine j_callV (ws' := ([n_Mo g a q33 mo_y] : List va_W)) (As := []) (rest := []) (st2 := []) hE (fun l => (c_Mo_grp g a mo_y DG _ _ _ hc34 l).1 rfl) cd_X12_expression cv_X12_expression ml_Mo_171 rfl rfl rfl (wg_Mo_0 _ _ _ _) ⟨⟨Nat.le_of_ble_eq_true rfl, Nat.le_of_ble_eq_true rfl⟩, ⟨Nat.zero_le _, Nat.zero_le _⟩, rfl, rfl⟩ [0] rfl rfl rfl (Nat.le_of_ble_eq_true rfl) rfl dX12_line_160 ?_
      refine j_goto (tgt := 188) hE dX12_line_163 (by decide) ?_
      exact j_sub [0] rfl (j_Mo_line_188 E g a mo_y res hE hq q33 hf)
    have t_c26 : 0 ≠ Int32.toInt v1 := fun h => c26 (Int32.toInt_inj.mp (h.symm.trans (by decide)))
    have t_c29 : 1 ≠ Int32.toInt v1 := fun h => c29 (Int32.toInt_inj.mp (h.symm.trans (by decide)))
    have t_c32 : 2 ≠ Int32.toInt v1 := fun h => c32 (Int32.toInt_inj.mp (h.symm.trans (by decide)))
    refine j_tableOut (tgt := 166) hE dX12_line_107 (by omega) (by decide) ?_
    refine j_aload_n hE dX12_line_166 rfl 0 rfl ?_
    refine j_aload_n hE dX12_line_167 rfl 0 rfl ?_
    refine j_iconst (v := 0) hE dX12_line_168 (by decide) ?_
    refine j_bipush (v := 9) hE dX12_line_169 (by decide) ?_
    obtain ⟨q35, hc36, hf⟩ := bind_of hf
    refine j_callV (ws' := ([n_Mo g a q35.1 mo_y] : List va_W)) (As := [.int 0, .int 9]) (rest := [.ref (a 0)]) (st2 := [.int q35.2, .ref (a 0)]) hE (fun l => c_Mo_numeral l g a q24 mo_y 0 9 q35 hc36) cd_X12_numeral cv_X12_numeral ml_Mo_174 rfl rfl rfl (wg_Mo_0 _ _ _ _) ⟨⟨Nat.le_of_ble_eq_true rfl, Nat.le_of_ble_eq_true rfl⟩, ⟨Nat.zero_le _, Nat.zero_le _⟩, rfl, rfl⟩ [0] rfl rfl rfl (Nat.le_of_ble_eq_true rfl) rfl dX12_line_171 ?_
    refine j_put (v := .int q35.2) (ws' := ([n_Mo g a (up2 q35.1 23 0 q35.2) mo_y] : List va_W)) hE lp_Mo_178 0 rfl 0 (wg_Mo_0 g a q35.1 mo_y) rfl rfl (Nat.le_of_ble_eq_true rfl) (wp_Mo_23 g a q35.1 mo_y q35.2) rfl dX12_line_174 ?_
    refine j_aload_n hE dX12_line_177 rfl 0 rfl ?_
    refine j_aload_n hE dX12_line_178 rfl 0 rfl ?_
    refine j_iconst (v := 0) hE dX12_line_179 (by decide) ?_
    refine j_bipush (v := 9) hE dX12_line_180 (by decide) ?_
    obtain ⟨q37, hc38, hf⟩ := bind_of hf
    refine j_callV (ws' := ([n_Mo g a q37.1 mo_y] : List va_W)) (As := [.int 0, .int 9]) (rest := [.ref (a 0)]) (st2 := [.int q37.2, .ref (a 0)]) hE (fun l => c_Mo_numeral l g a (up2 q35.1 23 0 q35.2) mo_y 0 9 q37 hc38) cd_X12_numeral cv_X12_numeral ml_Mo_174 rfl rfl rfl (wg_Mo_0 _ _ _ _) ⟨⟨Nat.le_of_ble_eq_true rfl, Nat.le_of_ble_eq_true rfl⟩, ⟨Nat.zero_le _, Nat.zero_le _⟩, rfl, rfl⟩ [0] rfl rfl rfl (Nat.le_of_ble_eq_true rfl) rfl dX12_line_182 ?_
    refine j_put (v := .int q37.2) (ws' := ([n_Mo g a (up2 q37.1 24 0 q37.2) mo_y] : List va_W)) hE lp_Mo_181 0 rfl 0 (wg_Mo_0 g a q37.1 mo_y) rfl rfl (Nat.le_of_ble_eq_true rfl) (wp_Mo_24 g a q37.1 mo_y q37.2) rfl dX12_line_185 ?_
    exact j_sub [0] rfl (j_Mo_line_188 E g a mo_y res hE hq (up2 q37.1 24 0 q37.2) hf)
  · obtain rfl := Option.some.inj hf
    exact j_vret hE hq rfl rfl dX12_line_89
set_option maxRecDepth 100000 in
theorem j_Mo_line_60 (E : jT) (g : jG) (a : Nat → Nat) (mo_y : jY)  (res : jZ) (hE : jOk E g RX12 cX12_line 2 (none : Option Jvm.ClassFile.FieldType) rm_Mo_line) (hq : jEnd E g none (([n_Mo g a res mo_y] : List va_W)) 0 0)  (mo_z : jZ) (v1 : Int32) (hf : f_Mo_line_60 mo_z v1 = some res) : J E g 0 0 (([n_Mo g a mo_z mo_y] : List va_W)) [(0, .ref (a 0)), (1, .int v1)] 60 [] := by
  unfold f_Mo_line_60 at hf
  refine j_iload_n hE dX12_line_60 rfl 1 rfl ?_
  refine j_iconst (v := 2) hE dX12_line_61 (by decide) ?_
  refine j_icmp_lt (tgt := 82) hE hf dX12_line_62 (by decide) (fun c19 hf => ?_) (fun c19 hf => ?_)
  · exact j_Mo_line_82 E g a mo_y res hE hq mo_z v1 hf
  · refine j_aload_n hE dX12_line_65 rfl 0 rfl ?_
    refine j_get (v := .int (mo_z 25 0)) hE lg_Mo_162 0 rfl 0 (wg_Mo_0 g a mo_z mo_y) rfl dX12_line_66 ?_
    refine j_iload_n hE dX12_line_69 rfl 1 rfl ?_
    refine j_ishr hE dX12_line_70 ?_
    refine j_iconst (v := 1) hE dX12_line_71 (by decide) ?_
    refine j_iand hE dX12_line_72 ?_
    refine j_iconst (v := 1) hE dX12_line_73 (by decide) ?_
    refine j_icmp_ne (tgt := 82) hE hf dX12_line_74 (by decide) (fun c20 hf => ?_) (fun c20 hf => ?_)
    · exact j_Mo_line_82 E g a mo_y res hE hq mo_z v1 hf
    · refine j_aload_n hE dX12_line_77 rfl 0 rfl ?_
      refine j_iconst (v := 3) hE dX12_line_78 (by decide) ?_
      obtain ⟨q21, hc22, hf⟩ := bind_of hf
      refine j_callV (ws' := ([n_Mo g a q21 mo_y] : List va_W)) (As := [.int 3]) (rest := []) (st2 := []) hE (fun l => c_Mo_wrong l g a mo_z mo_y 3 q21 hc22) cd_X12_wrong cv_X12_wrong ml_Mo_146 rfl rfl rfl (wg_Mo_0 _ _ _ _) ⟨⟨Nat.le_of_ble_eq_true rfl, Nat.le_of_ble_eq_true rfl⟩, ⟨Nat.zero_le _, Nat.zero_le _⟩, rfl, rfl⟩ [0] rfl rfl rfl (Nat.le_of_ble_eq_true rfl) rfl dX12_line_79 ?_
      exact j_Mo_line_82 E g a mo_y res hE hq q21 v1 hf
set_option maxRecDepth 100000 in
theorem c_Mo_line (l : Launch) (g : jG) (a : Nat → Nat) (mo_z : jZ) (mo_y : jY)  (res : jZ) (hf : f_Mo_line mo_z = some res) : MC l g yX12_line cX12_line 2 (none : Option Jvm.ClassFile.FieldType) rm_Mo_line [.ref (a 0)] (([n_Mo g a mo_z mo_y] : List va_W)) none (([n_Mo g a res mo_y] : List va_W)) 0 0 := by
  refine MC_of (own := RX12) (lv := [(0, .ref (a 0))]) (by decide) rfl (Nat.le_of_ble_eq_true rfl) rfl rfl (fun E hE hq => ?_)
  unfold f_Mo_line at hf
  refine j_aload_n hE dX12_line_0 rfl 0 rfl ?_
  refine j_get (v := .int (mo_z 30 0)) hE lg_Mo_106 0 rfl 0 (wg_Mo_0 g a mo_z mo_y) rfl dX12_line_1 ?_
  refine j_if_ne (tgt := 15) hE hf dX12_line_4 (by decide) (fun c1 hf => ?_) (fun c1 hf => ?_)
  · refine j_aload_n hE dX12_line_15 rfl 0 rfl ?_
    refine j_iconst (v := 1) hE dX12_line_16 (by decide) ?_
    obtain ⟨q2, hc3, hf⟩ := bind_of hf
    refine j_callV (ws' := ([n_Mo g a q2 mo_y] : List va_W)) (As := [.int 1]) (rest := []) (st2 := []) hE (fun l => c_Mo_wrong l g a mo_z mo_y 1 q2 hc3) cd_X12_wrong cv_X12_wrong ml_Mo_146 rfl rfl rfl (wg_Mo_0 _ _ _ _) ⟨⟨Nat.le_of_ble_eq_true rfl, Nat.le_of_ble_eq_true rfl⟩, ⟨Nat.zero_le _, Nat.zero_le _⟩, rfl, rfl⟩ [0] rfl rfl rfl (Nat.le_of_ble_eq_true rfl) rfl dX12_line_17 ?_
    obtain rfl := Option.some.inj hf
    exact j_vret hE hq rfl rfl dX12_line_20
  · refine j_aload_n hE dX12_line_7 rfl 0 rfl ?_
    refine j_get (v := .int (mo_z 31 0)) hE lg_Mo_116 0 rfl 0 (wg_Mo_0 g a mo_z mo_y) rfl dX12_line_8 ?_
    refine j_iconst (v := 3) hE dX12_line_11 (by decide) ?_
    refine j_icmp_le (tgt := 21) hE hf dX12_line_12 (by decide) (fun c4 hf => ?_) (fun c4 hf => ?_)
    · refine j_aload_n hE dX12_line_21 rfl 0 rfl ?_
      refine j_get (v := .int (mo_z 31 0)) hE lg_Mo_116 0 rfl 0 (wg_Mo_0 g a mo_z mo_y) rfl dX12_line_22 ?_
      refine j_istore_n (lv' := [(1, .int (mo_z 31 0)), (0, .ref (a 0))]) hE dX12_line_25 rfl (by decide) rfl ?_
      refine j_iload_n hE dX12_line_26 rfl 0 rfl ?_
      refine j_if_ne (tgt := 38) hE hf dX12_line_27 (by decide) (fun c5 hf => ?_) (fun c5 hf => ?_)
      · refine j_iload_n hE dX12_line_38 rfl 0 rfl ?_
        refine j_iconst (v := 1) hE dX12_line_39 (by decide) ?_
        refine j_icmp_ne (tgt := 60) hE hf dX12_line_40 (by decide) (fun c6 hf => ?_) (fun c6 hf => ?_)
        · exact j_sub [1, 0] rfl (j_Mo_line_60 E g a mo_y res hE hq mo_z (mo_z 31 0) hf)
        · refine j_aload_n hE dX12_line_43 rfl 1 rfl ?_
          refine j_get (v := .int (mo_z 21 0)) hE lg_Mo_159 0 rfl 0 (wg_Mo_0 g a mo_z mo_y) rfl dX12_line_44 ?_
          refine j_bipush (v := 12) hE dX12_line_47 (by decide) ?_
          refine j_icmp_ne (tgt := 60) hE hf dX12_line_49 (by decide) (fun c7 hf => ?_) (fun c7 hf => ?_)
          · exact j_sub [1, 0] rfl (j_Mo_line_60 E g a mo_y res hE hq mo_z (mo_z 31 0) hf)
          · refine j_aload_n hE dX12_line_52 rfl 1 rfl ?_
            refine j_iconst (v := 2) hE dX12_line_53 (by decide) ?_
            obtain ⟨q8, hc9, hf⟩ := bind_of hf
            refine j_callV (ws' := ([n_Mo g a q8 mo_y] : List va_W)) (As := [.int 2]) (rest := []) (st2 := []) hE (fun l => c_Mo_wrong l g a mo_z mo_y 2 q8 hc9) cd_X12_wrong cv_X12_wrong ml_Mo_146 rfl rfl rfl (wg_Mo_0 _ _ _ _) ⟨⟨Nat.le_of_ble_eq_true rfl, Nat.le_of_ble_eq_true rfl⟩, ⟨Nat.zero_le _, Nat.zero_le _⟩, rfl, rfl⟩ [0] rfl rfl rfl (Nat.le_of_ble_eq_true rfl) rfl dX12_line_54 ?_
            refine j_goto (tgt := 82) hE dX12_line_57 (by decide) ?_
            exact j_sub [1, 0] rfl (j_Mo_line_82 E g a mo_y res hE hq q8 (mo_z 31 0) hf)
      · refine j_aload_n hE dX12_line_30 rfl 1 rfl ?_
        refine j_get (v := .int (mo_z 20 0)) hE lg_Mo_156 0 rfl 0 (wg_Mo_0 g a mo_z mo_y) rfl dX12_line_31 ?_
        refine j_iconst (v := 5) hE dX12_line_34 (by decide) ?_
        refine j_icmp_eq (tgt := 52) hE hf dX12_line_35 (by decide) (fun c10 hf => ?_) (fun c10 hf => ?_)
        · refine j_aload_n hE dX12_line_52 rfl 1 rfl ?_
          refine j_iconst (v := 2) hE dX12_line_53 (by decide) ?_
          obtain ⟨q11, hc12, hf⟩ := bind_of hf
          refine j_callV (ws' := ([n_Mo g a q11 mo_y] : List va_W)) (As := [.int 2]) (rest := []) (st2 := []) hE (fun l => c_Mo_wrong l g a mo_z mo_y 2 q11 hc12) cd_X12_wrong cv_X12_wrong ml_Mo_146 rfl rfl rfl (wg_Mo_0 _ _ _ _) ⟨⟨Nat.le_of_ble_eq_true rfl, Nat.le_of_ble_eq_true rfl⟩, ⟨Nat.zero_le _, Nat.zero_le _⟩, rfl, rfl⟩ [0] rfl rfl rfl (Nat.le_of_ble_eq_true rfl) rfl dX12_line_54 ?_
          refine j_goto (tgt := 82) hE dX12_line_57 (by decide) ?_
          exact j_sub [1, 0] rfl (j_Mo_line_82 E g a mo_y res hE hq q11 (mo_z 31 0) hf)
        · refine j_iload_n hE dX12_line_38 rfl 0 rfl ?_
          refine j_iconst (v := 1) hE dX12_line_39 (by decide) ?_
          refine j_icmp_ne (tgt := 60) hE hf dX12_line_40 (by decide) (fun c13 hf => ?_) (fun c13 hf => ?_)
          · exact j_sub [1, 0] rfl (j_Mo_line_60 E g a mo_y res hE hq mo_z (mo_z 31 0) hf)
          · refine j_aload_n hE dX12_line_43 rfl 1 rfl ?_
            refine j_get (v := .int (mo_z 21 0)) hE lg_Mo_159 0 rfl 0 (wg_Mo_0 g a mo_z mo_y) rfl dX12_line_44 ?_
            refine j_bipush (v := 12) hE dX12_line_47 (by decide) ?_
            refine j_icmp_ne (tgt := 60) hE hf dX12_line_49 (by decide) (fun c14 hf => ?_) (fun c14 hf => ?_)
            · exact j_sub [1, 0] rfl (j_Mo_line_60 E g a mo_y res hE hq mo_z (mo_z 31 0) hf)
            · refine j_aload_n hE dX12_line_52 rfl 1 rfl ?_
              refine j_iconst (v := 2) hE dX12_line_53 (by decide) ?_
              obtain ⟨q15, hc16, hf⟩ := bind_of hf
              refine j_callV (ws' := ([n_Mo g a q15 mo_y] : List va_W)) (As := [.int 2]) (rest := []) (st2 := []) hE (fun l => c_Mo_wrong l g a mo_z mo_y 2 q15 hc16) cd_X12_wrong cv_X12_wrong ml_Mo_146 rfl rfl rfl (wg_Mo_0 _ _ _ _) ⟨⟨Nat.le_of_ble_eq_true rfl, Nat.le_of_ble_eq_true rfl⟩, ⟨Nat.zero_le _, Nat.zero_le _⟩, rfl, rfl⟩ [0] rfl rfl rfl (Nat.le_of_ble_eq_true rfl) rfl dX12_line_54 ?_
              refine j_goto (tgt := 82) hE dX12_line_57 (by decide) ?_
              exact j_sub [1, 0] rfl (j_Mo_line_82 E g a mo_y res hE hq q15 (mo_z 31 0) hf)
    · refine j_aload_n hE dX12_line_15 rfl 0 rfl ?_
      refine j_iconst (v := 1) hE dX12_line_16 (by decide) ?_
      obtain ⟨q17, hc18, hf⟩ := bind_of hf
      refine j_callV (ws' := ([n_Mo g a q17 mo_y] : List va_W)) (As := [.int 1]) (rest := []) (st2 := []) hE (fun l => c_Mo_wrong l g a mo_z mo_y 1 q17 hc18) cd_X12_wrong cv_X12_wrong ml_Mo_146 rfl rfl rfl (wg_Mo_0 _ _ _ _) ⟨⟨Nat.le_of_ble_eq_true rfl, Nat.le_of_ble_eq_true rfl⟩, ⟨Nat.zero_le _, Nat.zero_le _⟩, rfl, rfl⟩ [0] rfl rfl rfl (Nat.le_of_ble_eq_true rfl) rfl dX12_line_17 ?_
      obtain rfl := Option.some.inj hf
      exact j_vret hE hq rfl rfl dX12_line_20
def rm_Mo_text : Room := { frames := 222, cells := 0, slots := 0, locals := 8441 }
def f_Mo_text_116  (x1 : Int32)  (mo_z : jZ) : Option (jZ × Int32) := (if (mo_z 32 0) = 0 then (f_Mo_lays (up2 (up2 mo_z 34 0 (mo_z 32 0)) 35 0 (mo_z 33 0))).bind fun q10 => some (q10, (q10 26 0))
    else some ((up2 (up2 mo_z 34 0 (mo_z 32 0)) 35 0 (mo_z 33 0)), (-1)))
def f_Mo_text_94  (x1 : Int32)  : Nat → jZ → Option (jZ × Int32)
  | 0, _ => none
  | n + 1, mo_z => (if (mo_z 32 0) = 0 then (if (mo_z 30 0) = 4 then f_Mo_text_116 x1 mo_z
    else (f_Mo_line mo_z).bind fun q7 => f_Mo_text_94 x1 n q7)
    else f_Mo_text_116 x1 mo_z)
def f_Mo_text (mo_z : jZ) (x1 : Int32) : Option (jZ × Int32) := (if x1 < 0 then some ((up2 mo_z 0 0 0), (-2))
    else (if x1 ≤ (mo_z 2 0) then (f_Mo_next (up2 (up2 (up2 (up2 (up2 (up2 (up2 (up2 (up2 (up2 (up2 (up2 (up2 (up2 (up2 mo_z 0 0 0) 27 0 x1) 2 0 0) 28 0 0) 32 0 0) 33 0 (-1)) 20 0 0) 21 0 0) 22 0 0) 37 0 0) 23 0 5) 24 0 0) 25 0 0) 26 0 0) 36 0 0)).bind fun q3 => f_Mo_text_94 x1 FU q3
    else some ((up2 mo_z 0 0 0), (-2))))
set_option maxRecDepth 100000 in
theorem j_Mo_text_116 (E : jT) (g : jG) (a : Nat → Nat) (mo_y : jY) (x1 : Int32) (res : jZ × Int32) (hE : jOk E g RX12 cX12_text 2 (some .int) rm_Mo_text) (hq : jEnd E g (some (.int res.2)) (([n_Mo g a res.1 mo_y] : List va_W)) 0 0)  (mo_z : jZ) (hf : f_Mo_text_116 x1 mo_z = some res) : J E g 0 0 (([n_Mo g a mo_z mo_y] : List va_W)) [(0, .ref (a 0))] 116 [] := by
  unfold f_Mo_text_116 at hf
  refine j_aload_n hE dX12_text_116 rfl 0 rfl ?_
  refine j_aload_n hE dX12_text_117 rfl 0 rfl ?_
  refine j_get (v := .int (mo_z 32 0)) hE lg_Mo_140 0 rfl 0 (wg_Mo_0 g a mo_z mo_y) rfl dX12_text_118 ?_
  refine j_put (v := .int (mo_z 32 0)) (ws' := ([n_Mo g a (up2 mo_z 34 0 (mo_z 32 0)) mo_y] : List va_W)) hE lp_Mo_231 0 rfl 0 (wg_Mo_0 g a mo_z mo_y) rfl rfl (Nat.le_of_ble_eq_true rfl) (wp_Mo_34 g a mo_z mo_y (mo_z 32 0)) rfl dX12_text_121 ?_
  refine j_aload_n hE dX12_text_124 rfl 0 rfl ?_
  refine j_aload_n hE dX12_text_125 rfl 0 rfl ?_
  refine j_get (v := .int (mo_z 33 0)) hE lg_Mo_143 0 rfl 0 (wg_Mo_0 g a (up2 mo_z 34 0 (mo_z 32 0)) mo_y) rfl dX12_text_126 ?_
  refine j_put (v := .int (mo_z 33 0)) (ws' := ([n_Mo g a (up2 (up2 mo_z 34 0 (mo_z 32 0)) 35 0 (mo_z 33 0)) mo_y] : List va_W)) hE lp_Mo_56 0 rfl 0 (wg_Mo_0 g a (up2 mo_z 34 0 (mo_z 32 0)) mo_y) rfl rfl (Nat.le_of_ble_eq_true rfl) (wp_Mo_35 g a (up2 mo_z 34 0 (mo_z 32 0)) mo_y (mo_z 33 0)) rfl dX12_text_129 ?_
  refine j_aload_n hE dX12_text_132 rfl 0 rfl ?_
  refine j_get (v := .int (mo_z 32 0)) hE lg_Mo_140 0 rfl 0 (wg_Mo_0 g a (up2 (up2 mo_z 34 0 (mo_z 32 0)) 35 0 (mo_z 33 0)) mo_y) rfl dX12_text_133 ?_
  refine j_if_eq (tgt := 141) hE hf dX12_text_136 (by decide) (fun c9 hf => ?_) (fun c9 hf => ?_)
  · refine j_aload_n hE dX12_text_141 rfl 0 rfl ?_
    obtain ⟨q10, hc11, hf⟩ := bind_of hf
    refine j_callV (ws' := ([n_Mo g a q10 mo_y] : List va_W)) (As := []) (rest := []) (st2 := []) hE (fun l => c_Mo_lays l g a (up2 (up2 mo_z 34 0 (mo_z 32 0)) 35 0 (mo_z 33 0)) mo_y q10 hc11) cd_X12_lays cv_X12_lays ml_Mo_234 rfl rfl rfl (wg_Mo_0 _ _ _ _) ⟨⟨Nat.le_of_ble_eq_true rfl, Nat.le_of_ble_eq_true rfl⟩, ⟨Nat.zero_le _, Nat.zero_le _⟩, rfl, rfl⟩ [0] rfl rfl rfl (Nat.le_of_ble_eq_true rfl) rfl dX12_text_142 ?_
    refine j_aload_n hE dX12_text_145 rfl 0 rfl ?_
    refine j_get (v := .int (q10 26 0)) hE lg_Mo_187 0 rfl 0 (wg_Mo_0 g a q10 mo_y) rfl dX12_text_146 ?_
    obtain rfl := Option.some.inj hf
    exact j_iret hE hq rfl rfl dX12_text_149
  · refine j_iconst (v := (-1)) hE dX12_text_139 (by decide) ?_
    obtain rfl := Option.some.inj hf
    exact j_iret hE hq rfl rfl dX12_text_140
set_option maxRecDepth 100000 in
theorem j_Mo_text_94 (E : jT) (g : jG) (a : Nat → Nat) (mo_y : jY) (x1 : Int32) (res : jZ × Int32) (hE : jOk E g RX12 cX12_text 2 (some .int) rm_Mo_text) (hq : jEnd E g (some (.int res.2)) (([n_Mo g a res.1 mo_y] : List va_W)) 0 0)  : ∀ (n : Nat) (mo_z : jZ), f_Mo_text_94 x1 n mo_z = some res → J E g 0 0 (([n_Mo g a mo_z mo_y] : List va_W)) [(0, .ref (a 0))] 94 [] := by
  intro n
  induction n with
  | zero =>
    intro mo_z hf
    rw [f_Mo_text_94] at hf
    cases hf
  | succ n ih =>
    intro mo_z hf
    rw [f_Mo_text_94] at hf
    refine j_aload_n hE dX12_text_94 rfl 0 rfl ?_
    refine j_get (v := .int (mo_z 32 0)) hE lg_Mo_140 0 rfl 0 (wg_Mo_0 g a mo_z mo_y) rfl dX12_text_95 ?_
    refine j_if_ne (tgt := 116) hE hf dX12_text_98 (by decide) (fun c5 hf => ?_) (fun c5 hf => ?_)
    · exact j_Mo_text_116 E g a mo_y x1 res hE hq mo_z hf
    · refine j_aload_n hE dX12_text_101 rfl 0 rfl ?_
      refine j_get (v := .int (mo_z 30 0)) hE lg_Mo_106 0 rfl 0 (wg_Mo_0 g a mo_z mo_y) rfl dX12_text_102 ?_
      refine j_iconst (v := 4) hE dX12_text_105 (by decide) ?_
      refine j_icmp_eq (tgt := 116) hE hf dX12_text_106 (by decide) (fun c6 hf => ?_) (fun c6 hf => ?_)
      · exact j_Mo_text_116 E g a mo_y x1 res hE hq mo_z hf
      · refine j_aload_n hE dX12_text_109 rfl 0 rfl ?_
        obtain ⟨q7, hc8, hf⟩ := bind_of hf
        refine j_callV (ws' := ([n_Mo g a q7 mo_y] : List va_W)) (As := []) (rest := []) (st2 := []) hE (fun l => c_Mo_line l g a mo_z mo_y q7 hc8) cd_X12_line cv_X12_line ml_Mo_228 rfl rfl rfl (wg_Mo_0 _ _ _ _) ⟨⟨Nat.le_of_ble_eq_true rfl, Nat.le_of_ble_eq_true rfl⟩, ⟨Nat.zero_le _, Nat.zero_le _⟩, rfl, rfl⟩ [0] rfl rfl rfl (Nat.le_of_ble_eq_true rfl) rfl dX12_text_110 ?_
        refine j_goto (tgt := 94) hE dX12_text_113 (by decide) ?_
        exact ih q7 hf
set_option maxRecDepth 100000 in
theorem c_Mo_text (l : Launch) (g : jG) (a : Nat → Nat) (mo_z : jZ) (mo_y : jY) (x1 : Int32) (res : jZ × Int32) (hf : f_Mo_text mo_z x1 = some res) : MC l g yX12_text cX12_text 2 (some .int) rm_Mo_text [.ref (a 0), .int x1] (([n_Mo g a mo_z mo_y] : List va_W)) (some (.int res.2)) (([n_Mo g a res.1 mo_y] : List va_W)) 0 0 := by
  refine MC_of (own := RX12) (lv := [(0, .ref (a 0)), (1, .int x1)]) (by decide) rfl (Nat.le_of_ble_eq_true rfl) rfl rfl (fun E hE hq => ?_)
  unfold f_Mo_text at hf
  refine j_aload_n hE dX12_text_0 rfl 0 rfl ?_
  refine j_iconst (v := 0) hE dX12_text_1 (by decide) ?_
  refine j_put (v := .int 0) (ws' := ([n_Mo g a (up2 mo_z 0 0 0) mo_y] : List va_W)) hE lp_Mo_87 0 rfl 0 (wg_Mo_0 g a mo_z mo_y) rfl rfl (Nat.le_of_ble_eq_true rfl) (wp_Mo_0 g a mo_z mo_y 0) rfl dX12_text_2 ?_
  refine j_iload_n hE dX12_text_5 rfl 1 rfl ?_
  refine j_if_lt (tgt := 17) hE hf dX12_text_6 (by decide) (fun c1 hf => ?_) (fun c1 hf => ?_)
  · refine j_bipush (v := (-2)) hE dX12_text_17 (by decide) ?_
    obtain rfl := Option.some.inj hf
    exact j_iret hE hq rfl rfl dX12_text_19
  · refine j_iload_n hE dX12_text_9 rfl 1 rfl ?_
    refine j_aload_n hE dX12_text_10 rfl 0 rfl ?_
    refine j_get (v := .int (mo_z 2 0)) hE lg_Mo_90 0 rfl 0 (wg_Mo_0 g a (up2 mo_z 0 0 0) mo_y) rfl dX12_text_11 ?_
    refine j_icmp_le (tgt := 20) hE hf dX12_text_14 (by decide) (fun c2 hf => ?_) (fun c2 hf => ?_)
    · refine j_aload_n hE dX12_text_20 rfl 0 rfl ?_
      refine j_iload_n hE dX12_text_21 rfl 1 rfl ?_
      refine j_put (v := .int x1) (ws' := ([n_Mo g a (up2 (up2 mo_z 0 0 0) 27 0 x1) mo_y] : List va_W)) hE lp_Mo_96 0 rfl 0 (wg_Mo_0 g a (up2 mo_z 0 0 0) mo_y) rfl rfl (Nat.le_of_ble_eq_true rfl) (wp_Mo_27 g a (up2 mo_z 0 0 0) mo_y x1) rfl dX12_text_22 ?_
      refine j_aload_n hE dX12_text_25 rfl 0 rfl ?_
      refine j_iconst (v := 0) hE dX12_text_26 (by decide) ?_
      refine j_put (v := .int 0) (ws' := ([n_Mo g a (up2 (up2 (up2 mo_z 0 0 0) 27 0 x1) 2 0 0) mo_y] : List va_W)) hE lp_Mo_90 0 rfl 0 (wg_Mo_0 g a (up2 (up2 mo_z 0 0 0) 27 0 x1) mo_y) rfl rfl (Nat.le_of_ble_eq_true rfl) (wp_Mo_2 g a (up2 (up2 mo_z 0 0 0) 27 0 x1) mo_y 0) rfl dX12_text_27 ?_
      refine j_aload_n hE dX12_text_30 rfl 0 rfl ?_
      refine j_iconst (v := 0) hE dX12_text_31 (by decide) ?_
      refine j_put (v := .int 0) (ws' := ([n_Mo g a (up2 (up2 (up2 (up2 mo_z 0 0 0) 27 0 x1) 2 0 0) 28 0 0) mo_y] : List va_W)) hE lp_Mo_93 0 rfl 0 (wg_Mo_0 g a (up2 (up2 (up2 mo_z 0 0 0) 27 0 x1) 2 0 0) mo_y) rfl rfl (Nat.le_of_ble_eq_true rfl) (wp_Mo_28 g a (up2 (up2 (up2 mo_z 0 0 0) 27 0 x1) 2 0 0) mo_y 0) rfl dX12_text_32 ?_
      refine j_aload_n hE dX12_text_35 rfl 0 rfl ?_
      refine j_iconst (v := 0) hE dX12_text_36 (by decide) ?_
      refine j_put (v := .int 0) (ws' := ([n_Mo g a (up2 (up2 (up2 (up2 (up2 mo_z 0 0 0) 27 0 x1) 2 0 0) 28 0 0) 32 0 0) mo_y] : List va_W)) hE lp_Mo_140 0 rfl 0 (wg_Mo_0 g a (up2 (up2 (up2 (up2 mo_z 0 0 0) 27 0 x1) 2 0 0) 28 0 0) mo_y) rfl rfl (Nat.le_of_ble_eq_true rfl) (wp_Mo_32 g a (up2 (up2 (up2 (up2 mo_z 0 0 0) 27 0 x1) 2 0 0) 28 0 0) mo_y 0) rfl dX12_text_37 ?_
      refine j_aload_n hE dX12_text_40 rfl 0 rfl ?_
      refine j_iconst (v := (-1)) hE dX12_text_41 (by decide) ?_
      refine j_put (v := .int (-1)) (ws' := ([n_Mo g a (up2 (up2 (up2 (up2 (up2 (up2 mo_z 0 0 0) 27 0 x1) 2 0 0) 28 0 0) 32 0 0) 33 0 (-1)) mo_y] : List va_W)) hE lp_Mo_143 0 rfl 0 (wg_Mo_0 g a (up2 (up2 (up2 (up2 (up2 mo_z 0 0 0) 27 0 x1) 2 0 0) 28 0 0) 32 0 0) mo_y) rfl rfl (Nat.le_of_ble_eq_true rfl) (wp_Mo_33 g a (up2 (up2 (up2 (up2 (up2 mo_z 0 0 0) 27 0 x1) 2 0 0) 28 0 0) 32 0 0) mo_y (-1)) rfl dX12_text_42 ?_
      refine j_aload_n hE dX12_text_45 rfl 0 rfl ?_
      refine j_iconst (v := 0) hE dX12_text_46 (by decide) ?_
      refine j_put (v := .int 0) (ws' := ([n_Mo g a (up2 (up2 (up2 (up2 (up2 (up2 (up2 mo_z 0 0 0) 27 0 x1) 2 0 0) 28 0 0) 32 0 0) 33 0 (-1)) 20 0 0) mo_y] : List va_W)) hE lp_Mo_156 0 rfl 0 (wg_Mo_0 g a (up2 (up2 (up2 (up2 (up2 (up2 mo_z 0 0 0) 27 0 x1) 2 0 0) 28 0 0) 32 0 0) 33 0 (-1)) mo_y) rfl rfl (Nat.le_of_ble_eq_true rfl) (wp_Mo_20 g a (up2 (up2 (up2 (up2 (up2 (up2 mo_z 0 0 0) 27 0 x1) 2 0 0) 28 0 0) 32 0 0) 33 0 (-1)) mo_y 0) rfl dX12_text_47 ?_
      refine j_aload_n hE dX12_text_50 rfl 0 rfl ?_
      refine j_iconst (v := 0) hE dX12_text_51 (by decide) ?_
      refine j_put (v := .int 0) (ws' := ([n_Mo g a (up2 (up2 (up2 (up2 (up2 (up2 (up2 (up2 mo_z 0 0 0) 27 0 x1) 2 0 0) 28 0 0) 32 0 0) 33 0 (-1)) 20 0 0) 21 0 0) mo_y] : List va_W)) hE lp_Mo_159 0 rfl 0 (wg_Mo_0 g a (up2 (up2 (up2 (up2 (up2 (up2 (up2 mo_z 0 0 0) 27 0 x1) 2 0 0) 28 0 0) 32 0 0) 33 0 (-1)) 20 0 0) mo_y) rfl rfl (Nat.le_of_ble_eq_true rfl) (wp_Mo_21 g a (up2 (up2 (up2 (up2 (up2 (up2 (up2 mo_z 0 0 0) 27 0 x1) 2 0 0) 28 0 0) 32 0 0) 33 0 (-1)) 20 0 0) mo_y 0) rfl dX12_text_52 ?_
      refine j_aload_n hE dX12_text_55 rfl 0 rfl ?_
      refine j_iconst (v := 0) hE dX12_text_56 (by decide) ?_
      refine j_put (v := .int 0) (ws' := ([n_Mo g a (up2 (up2 (up2 (up2 (up2 (up2 (up2 (up2 (up2 mo_z 0 0 0) 27 0 x1) 2 0 0) 28 0 0) 32 0 0) 33 0 (-1)) 20 0 0) 21 0 0) 22 0 0) mo_y] : List va_W)) hE lp_Mo_197 0 rfl 0 (wg_Mo_0 g a (up2 (up2 (up2 (up2 (up2 (up2 (up2 (up2 mo_z 0 0 0) 27 0 x1) 2 0 0) 28 0 0) 32 0 0) 33 0 (-1)) 20 0 0) 21 0 0) mo_y) rfl rfl (Nat.le_of_ble_eq_true rfl) (wp_Mo_22 g a (up2 (up2 (up2 (up2 (up2 (up2 (up2 (up2 mo_z 0 0 0) 27 0 x1) 2 0 0) 28 0 0) 32 0 0) 33 0 (-1)) 20 0 0) 21 0 0) mo_y 0) rfl dX12_text_57 ?_
      refine j_aload_n hE dX12_text_60 rfl 0 rfl ?_
      refine j_iconst (v := 0) hE dX12_text_61 (by decide) ?_
      refine j_put (v := .int 0) (ws' := ([n_Mo g a (up2 (up2 (up2 (up2 (up2 (up2 (up2 (up2 (up2 (up2 mo_z 0 0 0) 27 0 x1) 2 0 0) 28 0 0) 32 0 0) 33 0 (-1)) 20 0 0) 21 0 0) 22 0 0) 37 0 0) mo_y] : List va_W)) hE lp_Mo_200 0 rfl 0 (wg_Mo_0 g a (up2 (up2 (up2 (up2 (up2 (up2 (up2 (up2 (up2 mo_z 0 0 0) 27 0 x1) 2 0 0) 28 0 0) 32 0 0) 33 0 (-1)) 20 0 0) 21 0 0) 22 0 0) mo_y) rfl rfl (Nat.le_of_ble_eq_true rfl) (wp_Mo_37 g a (up2 (up2 (up2 (up2 (up2 (up2 (up2 (up2 (up2 mo_z 0 0 0) 27 0 x1) 2 0 0) 28 0 0) 32 0 0) 33 0 (-1)) 20 0 0) 21 0 0) 22 0 0) mo_y 0) rfl dX12_text_62 ?_
      refine j_aload_n hE dX12_text_65 rfl 0 rfl ?_
      refine j_iconst (v := 5) hE dX12_text_66 (by decide) ?_
      refine j_put (v := .int 5) (ws' := ([n_Mo g a (up2 (up2 (up2 (up2 (up2 (up2 (up2 (up2 (up2 (up2 (up2 mo_z 0 0 0) 27 0 x1) 2 0 0) 28 0 0) 32 0 0) 33 0 (-1)) 20 0 0) 21 0 0) 22 0 0) 37 0 0) 23 0 5) mo_y] : List va_W)) hE lp_Mo_178 0 rfl 0 (wg_Mo_0 g a (up2 (up2 (up2 (up2 (up2 (up2 (up2 (up2 (up2 (up2 mo_z 0 0 0) 27 0 x1) 2 0 0) 28 0 0) 32 0 0) 33 0 (-1)) 20 0 0) 21 0 0) 22 0 0) 37 0 0) mo_y) rfl rfl (Nat.le_of_ble_eq_true rfl) (wp_Mo_23 g a (up2 (up2 (up2 (up2 (up2 (up2 (up2 (up2 (up2 (up2 mo_z 0 0 0) 27 0 x1) 2 0 0) 28 0 0) 32 0 0) 33 0 (-1)) 20 0 0) 21 0 0) 22 0 0) 37 0 0) mo_y 5) rfl dX12_text_67 ?_
      refine j_aload_n hE dX12_text_70 rfl 0 rfl ?_
      refine j_iconst (v := 0) hE dX12_text_71 (by decide) ?_
      refine j_put (v := .int 0) (ws' := ([n_Mo g a (up2 (up2 (up2 (up2 (up2 (up2 (up2 (up2 (up2 (up2 (up2 (up2 mo_z 0 0 0) 27 0 x1) 2 0 0) 28 0 0) 32 0 0) 33 0 (-1)) 20 0 0) 21 0 0) 22 0 0) 37 0 0) 23 0 5) 24 0 0) mo_y] : List va_W)) hE lp_Mo_181 0 rfl 0 (wg_Mo_0 g a (up2 (up2 (up2 (up2 (up2 (up2 (up2 (up2 (up2 (up2 (up2 mo_z 0 0 0) 27 0 x1) 2 0 0) 28 0 0) 32 0 0) 33 0 (-1)) 20 0 0) 21 0 0) 22 0 0) 37 0 0) 23 0 5) mo_y) rfl rfl (Nat.le_of_ble_eq_true rfl) (wp_Mo_24 g a (up2 (up2 (up2 (up2 (up2 (up2 (up2 (up2 (up2 (up2 (up2 mo_z 0 0 0) 27 0 x1) 2 0 0) 28 0 0) 32 0 0) 33 0 (-1)) 20 0 0) 21 0 0) 22 0 0) 37 0 0) 23 0 5) mo_y 0) rfl dX12_text_72 ?_
      refine j_aload_n hE dX12_text_75 rfl 0 rfl ?_
      refine j_iconst (v := 0) hE dX12_text_76 (by decide) ?_
      refine j_put (v := .int 0) (ws' := ([n_Mo g a (up2 (up2 (up2 (up2 (up2 (up2 (up2 (up2 (up2 (up2 (up2 (up2 (up2 mo_z 0 0 0) 27 0 x1) 2 0 0) 28 0 0) 32 0 0) 33 0 (-1)) 20 0 0) 21 0 0) 22 0 0) 37 0 0) 23 0 5) 24 0 0) 25 0 0) mo_y] : List va_W)) hE lp_Mo_162 0 rfl 0 (wg_Mo_0 g a (up2 (up2 (up2 (up2 (up2 (up2 (up2 (up2 (up2 (up2 (up2 (up2 mo_z 0 0 0) 27 0 x1) 2 0 0) 28 0 0) 32 0 0) 33 0 (-1)) 20 0 0) 21 0 0) 22 0 0) 37 0 0) 23 0 5) 24 0 0) mo_y) rfl rfl (Nat.le_of_ble_eq_true rfl) (wp_Mo_25 g a (up2 (up2 (up2 (up2 (up2 (up2 (up2 (up2 (up2 (up2 (up2 (up2 mo_z 0 0 0) 27 0 x1) 2 0 0) 28 0 0) 32 0 0) 33 0 (-1)) 20 0 0) 21 0 0) 22 0 0) 37 0 0) 23 0 5) 24 0 0) mo_y 0) rfl dX12_text_77 ?_
      refine j_aload_n hE dX12_text_80 rfl 0 rfl ?_
      refine j_iconst (v := 0) hE dX12_text_81 (by decide) ?_
      refine j_put (v := .int 0) (ws' := ([n_Mo g a (up2 (up2 (up2 (up2 (up2 (up2 (up2 (up2 (up2 (up2 (up2 (up2 (up2 (up2 mo_z 0 0 0) 27 0 x1) 2 0 0) 28 0 0) 32 0 0) 33 0 (-1)) 20 0 0) 21 0 0) 22 0 0) 37 0 0) 23 0 5) 24 0 0) 25 0 0) 26 0 0) mo_y] : List va_W)) hE lp_Mo_187 0 rfl 0 (wg_Mo_0 g a (up2 (up2 (up2 (up2 (up2 (up2 (up2 (up2 (up2 (up2 (up2 (up2 (up2 mo_z 0 0 0) 27 0 x1) 2 0 0) 28 0 0) 32 0 0) 33 0 (-1)) 20 0 0) 21 0 0) 22 0 0) 37 0 0) 23 0 5) 24 0 0) 25 0 0) mo_y) rfl rfl (Nat.le_of_ble_eq_true rfl) (wp_Mo_26 g a (up2 (up2 (up2 (up2 (up2 (up2 (up2 (up2 (up2 (up2 (up2 (up2 (up2 mo_z 0 0 0) 27 0 x1) 2 0 0) 28 0 0) 32 0 0) 33 0 (-1)) 20 0 0) 21 0 0) 22 0 0) 37 0 0) 23 0 5) 24 0 0) 25 0 0) mo_y 0) rfl dX12_text_82 ?_
      refine j_aload_n hE dX12_text_85 rfl 0 rfl ?_
      refine j_iconst (v := 0) hE dX12_text_86 (by decide) ?_
      refine j_put (v := .int 0) (ws' := ([n_Mo g a (up2 (up2 (up2 (up2 (up2 (up2 (up2 (up2 (up2 (up2 (up2 (up2 (up2 (up2 (up2 mo_z 0 0 0) 27 0 x1) 2 0 0) 28 0 0) 32 0 0) 33 0 (-1)) 20 0 0) 21 0 0) 22 0 0) 37 0 0) 23 0 5) 24 0 0) 25 0 0) 26 0 0) 36 0 0) mo_y] : List va_W)) hE lp_Mo_225 0 rfl 0 (wg_Mo_0 g a (up2 (up2 (up2 (up2 (up2 (up2 (up2 (up2 (up2 (up2 (up2 (up2 (up2 (up2 mo_z 0 0 0) 27 0 x1) 2 0 0) 28 0 0) 32 0 0) 33 0 (-1)) 20 0 0) 21 0 0) 22 0 0) 37 0 0) 23 0 5) 24 0 0) 25 0 0) 26 0 0) mo_y) rfl rfl (Nat.le_of_ble_eq_true rfl) (wp_Mo_36 g a (up2 (up2 (up2 (up2 (up2 (up2 (up2 (up2 (up2 (up2 (up2 (up2 (up2 (up2 mo_z 0 0 0) 27 0 x1) 2 0 0) 28 0 0) 32 0 0) 33 0 (-1)) 20 0 0) 21 0 0) 22 0 0) 37 0 0) 23 0 5) 24 0 0) 25 0 0) 26 0 0) mo_y 0) rfl dX12_text_87 ?_
      refine j_aload_n hE dX12_text_90 rfl 0 rfl ?_
      obtain ⟨q3, hc4, hf⟩ := bind_of hf
      refine j_callV (ws' := ([n_Mo g a q3 mo_y] : List va_W)) (As := []) (rest := []) (st2 := []) hE (fun l => c_Mo_next l g a (up2 (up2 (up2 (up2 (up2 (up2 (up2 (up2 (up2 (up2 (up2 (up2 (up2 (up2 (up2 mo_z 0 0 0) 27 0 x1) 2 0 0) 28 0 0) 32 0 0) 33 0 (-1)) 20 0 0) 21 0 0) 22 0 0) 37 0 0) 23 0 5) 24 0 0) 25 0 0) 26 0 0) 36 0 0) mo_y q3 hc4) cd_X12_next cv_X12_next ml_Mo_149 rfl rfl rfl (wg_Mo_0 _ _ _ _) ⟨⟨Nat.le_of_ble_eq_true rfl, Nat.le_of_ble_eq_true rfl⟩, ⟨Nat.zero_le _, Nat.zero_le _⟩, rfl, rfl⟩ [0] rfl rfl rfl (Nat.le_of_ble_eq_true rfl) rfl dX12_text_91 ?_
      exact j_sub [0] rfl (j_Mo_text_94 E g a mo_y x1 res hE hq FU q3 hf)
    · refine j_bipush (v := (-2)) hE dX12_text_17 (by decide) ?_
      obtain rfl := Option.some.inj hf
      exact j_iret hE hq rfl rfl dX12_text_19
