def rm_Poles_best : Room := { frames := 1, cells := 0, slots := 0, locals := 23 }
def f_Poles_best_50 (po_z : jZ) (x1 : Int32) (x2 : Int32) (k8 : Int32 → Int32 → Int32 → Option (Int32)) (v3 : Int32) (v4 : Int32) (v5 : Int32) (s0 : Int32) : Option (Int32) := (if v3 = (-1) then k8 v5 s0 (v5 + 1)
    else (if s0 ≤ v4 then k8 v3 v4 (v5 + 1)
    else k8 v5 s0 (v5 + 1)))
def f_Poles_best_8 (po_z : jZ) (x1 : Int32) (x2 : Int32)  : Nat → Int32 → Int32 → Int32 → Option (Int32)
  | 0, _, _, _ => none
  | n + 1, v3, v4, v5 => (if (1 <<< ((po_z 1 0) &&& 31)) ≤ v5 then some v3
    else (f_Integer_bitCount v5).bind fun q2 => (if q2 = x1 then (if x2 = 0 then (f_Poles_brought po_z v5).bind fun q6 => f_Poles_best_50 po_z x1 x2 (fun v3 v4 v5 => f_Poles_best_8 po_z x1 x2 n v3 v4 v5) v3 v4 v5 q6
    else (f_Poles_saved po_z v5).bind fun q8 => f_Poles_best_50 po_z x1 x2 (fun v3 v4 v5 => f_Poles_best_8 po_z x1 x2 n v3 v4 v5) v3 v4 v5 q8)
    else f_Poles_best_8 po_z x1 x2 n v3 v4 (v5 + 1)))
def f_Poles_best (po_z : jZ) (x1 : Int32) (x2 : Int32) : Option (Int32) := f_Poles_best_8 po_z x1 x2 FU (-1) 0 0
set_option maxRecDepth 100000 in
theorem j_Poles_best_50 (E : jT) (g : jG) (a : Nat → Nat) (po_z : jZ) (pod_z : jZ) (pod_y : jY) (x1 : Int32) (x2 : Int32) (res : Int32) (hE : jOk E g RX6 cX6_best 7 (some .int) rm_Poles_best) (hq : jEnd E g (some (.int res)) (([n_Poles g a po_z, n_Odds g (fun i => a (i + 5)) pod_z pod_y] : List va_W)) 0 0) (k8 : Int32 → Int32 → Int32 → Option (Int32)) (hk8 : ∀ (v3 : Int32) (v4 : Int32) (v5 : Int32), k8 v3 v4 v5 = some res → J E g 0 0 (([n_Poles g a po_z, n_Odds g (fun i => a (i + 5)) pod_z pod_y] : List va_W)) [(0, .ref (a 0)), (1, .int x1), (2, .int x2), (3, .int v3), (4, .int v4), (5, .int v5)] 8 []) (v3 : Int32) (v4 : Int32) (v5 : Int32) (s0 : Int32) (hf : f_Poles_best_50 po_z x1 x2 k8 v3 v4 v5 s0 = some res) : J E g 0 0 (([n_Poles g a po_z, n_Odds g (fun i => a (i + 5)) pod_z pod_y] : List va_W)) [(0, .ref (a 0)), (1, .int x1), (2, .int x2), (3, .int v3), (4, .int v4), (5, .int v5)] 50 [.int s0] := by
  unfold f_Poles_best_50 at hf
  refine j_istore (lv' := [(6, .int s0), (0, .ref (a 0)), (1, .int x1), (2, .int x2), (3, .int v3), (4, .int v4), (5, .int v5)]) hE dX6_best_50 (by decide) rfl ?_
  refine j_iload_n hE dX6_best_52 rfl 4 rfl ?_
  refine j_iconst (v := (-1)) hE dX6_best_53 (by decide) ?_
  refine j_icmp_eq (tgt := 64) hE hf dX6_best_54 (by decide) (fun c10 hf => ?_) (fun c10 hf => ?_)
  · refine j_iload hE dX6_best_64 0 rfl ?_
    refine j_istore (lv' := [(4, .int s0), (6, .int s0), (0, .ref (a 0)), (1, .int x1), (2, .int x2), (3, .int v3), (5, .int v5)]) hE dX6_best_66 (by decide) rfl ?_
    refine j_iload hE dX6_best_68 6 rfl ?_
    refine j_istore_n (lv' := [(3, .int v5), (4, .int s0), (6, .int s0), (0, .ref (a 0)), (1, .int x1), (2, .int x2), (5, .int v5)]) hE dX6_best_70 rfl (by decide) rfl ?_
    refine j_iinc (v := (v5 + 1)) (lv' := [(5, .int (v5 + 1)), (3, .int v5), (4, .int s0), (6, .int s0), (0, .ref (a 0)), (1, .int x1), (2, .int x2)]) hE dX6_best_71 6 rfl rfl (by decide) rfl ?_
    refine j_goto (tgt := 8) hE dX6_best_74 (by decide) ?_
    exact j_sub [4, 5, 6, 1, 2, 0] rfl (hk8 v5 s0 (v5 + 1) hf)
  · refine j_iload hE dX6_best_57 0 rfl ?_
    refine j_iload hE dX6_best_59 5 rfl ?_
    refine j_icmp_le (tgt := 71) hE hf dX6_best_61 (by decide) (fun c11 hf => ?_) (fun c11 hf => ?_)
    · refine j_iinc (v := (v5 + 1)) (lv' := [(5, .int (v5 + 1)), (6, .int s0), (0, .ref (a 0)), (1, .int x1), (2, .int x2), (3, .int v3), (4, .int v4)]) hE dX6_best_71 6 rfl rfl (by decide) rfl ?_
      refine j_goto (tgt := 8) hE dX6_best_74 (by decide) ?_
      exact j_sub [2, 3, 4, 5, 6, 0] rfl (hk8 v3 v4 (v5 + 1) hf)
    · refine j_iload hE dX6_best_64 0 rfl ?_
      refine j_istore (lv' := [(4, .int s0), (6, .int s0), (0, .ref (a 0)), (1, .int x1), (2, .int x2), (3, .int v3), (5, .int v5)]) hE dX6_best_66 (by decide) rfl ?_
      refine j_iload hE dX6_best_68 6 rfl ?_
      refine j_istore_n (lv' := [(3, .int v5), (4, .int s0), (6, .int s0), (0, .ref (a 0)), (1, .int x1), (2, .int x2), (5, .int v5)]) hE dX6_best_70 rfl (by decide) rfl ?_
      refine j_iinc (v := (v5 + 1)) (lv' := [(5, .int (v5 + 1)), (3, .int v5), (4, .int s0), (6, .int s0), (0, .ref (a 0)), (1, .int x1), (2, .int x2)]) hE dX6_best_71 6 rfl rfl (by decide) rfl ?_
      refine j_goto (tgt := 8) hE dX6_best_74 (by decide) ?_
      exact j_sub [4, 5, 6, 1, 2, 0] rfl (hk8 v5 s0 (v5 + 1) hf)
set_option maxRecDepth 100000 in
theorem j_Poles_best_8 (E : jT) (g : jG) (a : Nat → Nat) (po_z : jZ) (pod_z : jZ) (pod_y : jY) (x1 : Int32) (x2 : Int32) (res : Int32) (hE : jOk E g RX6 cX6_best 7 (some .int) rm_Poles_best) (hq : jEnd E g (some (.int res)) (([n_Poles g a po_z, n_Odds g (fun i => a (i + 5)) pod_z pod_y] : List va_W)) 0 0)  : ∀ (n : Nat) (v3 : Int32) (v4 : Int32) (v5 : Int32), f_Poles_best_8 po_z x1 x2 n v3 v4 v5 = some res → J E g 0 0 (([n_Poles g a po_z, n_Odds g (fun i => a (i + 5)) pod_z pod_y] : List va_W)) [(0, .ref (a 0)), (1, .int x1), (2, .int x2), (3, .int v3), (4, .int v4), (5, .int v5)] 8 [] := by
  intro n
  induction n with
  | zero =>
    intro v3 v4 v5 hf
    rw [f_Poles_best_8] at hf
    cases hf
  | succ n ih =>
    intro v3 v4 v5 hf
    rw [f_Poles_best_8] at hf
    refine j_iload hE dX6_best_8 5 rfl ?_
    refine j_iconst (v := 1) hE dX6_best_10 (by decide) ?_
    refine j_aload_n hE dX6_best_11 rfl 0 rfl ?_
    refine j_get (v := .int (po_z 1 0)) hE lg_Poles_18 0 rfl 0 (wg_Poles_0 g a po_z) rfl dX6_best_12 ?_
    refine j_ishl hE dX6_best_15 ?_
    refine j_icmp_ge (tgt := 77) hE hf dX6_best_16 (by decide) (fun c1 hf => ?_) (fun c1 hf => ?_)
    · refine j_iload_n hE dX6_best_77 rfl 3 rfl ?_
      obtain rfl := Option.some.inj hf
      exact j_iret hE hq rfl rfl dX6_best_78
    · refine j_iload hE dX6_best_19 5 rfl ?_
      obtain ⟨q2, hc3, hf⟩ := bind_of hf
      refine j_callS (ws' := ([n_Poles g a po_z, n_Odds g (fun i => a (i + 5)) pod_z pod_y] : List va_W)) (As := [.int v5]) (rest := []) (st2 := [.int q2]) hE (fun l => c_Integer_bitCount l g v5 q2 hc3) cd_J6_bitCount_0f7a4 st_J6_bitCount_0f7a4 ml_Poles_69 rfl rfl ⟨⟨Nat.le_of_ble_eq_true rfl, Nat.le_of_ble_eq_true rfl⟩, ⟨Nat.zero_le _, Nat.zero_le _⟩, rfl, rfl⟩ [] rfl rfl rfl (Nat.le_of_ble_eq_true rfl) rfl dX6_best_21 ?_
      refine j_iload_n hE dX6_best_24 rfl 1 rfl ?_
      refine j_icmp_eq (tgt := 31) hE hf dX6_best_25 (by decide) (fun c4 hf => ?_) (fun c4 hf => ?_)
      · refine j_iload_n hE dX6_best_31 rfl 2 rfl ?_
        refine j_if_eq (tgt := 44) hE hf dX6_best_32 (by decide) (fun c5 hf => ?_) (fun c5 hf => ?_)
        · refine j_aload_n hE dX6_best_44 rfl 0 rfl ?_
          refine j_iload hE dX6_best_45 5 rfl ?_
          obtain ⟨q6, hc7, hf⟩ := bind_of hf
          refine j_callV (ws' := ([n_Poles g a po_z, n_Odds g (fun i => a (i + 5)) pod_z pod_y] : List va_W)) (As := [.int v5]) (rest := []) (st2 := [.int q6]) hE (fun l => c_Poles_brought l g a po_z pod_z pod_y v5 q6 hc7) cd_X6_brought cv_X6_brought ml_Poles_78 rfl rfl rfl (wg_Poles_0 _ _ _) ⟨⟨Nat.le_of_ble_eq_true rfl, Nat.le_of_ble_eq_true rfl⟩, ⟨Nat.zero_le _, Nat.zero_le _⟩, rfl, rfl⟩ [0, 1] rfl rfl rfl (Nat.le_of_ble_eq_true rfl) rfl dX6_best_47 ?_
          exact j_Poles_best_50 E g a po_z pod_z pod_y x1 x2 res hE hq (fun v3 v4 v5 => f_Poles_best_8 po_z x1 x2 n v3 v4 v5) (fun v3 v4 v5 hf => ih v3 v4 v5 hf) v3 v4 v5 q6 hf
        · refine j_aload_n hE dX6_best_35 rfl 0 rfl ?_
          refine j_iload hE dX6_best_36 5 rfl ?_
          obtain ⟨q8, hc9, hf⟩ := bind_of hf
          refine j_callV (ws' := ([n_Poles g a po_z, n_Odds g (fun i => a (i + 5)) pod_z pod_y] : List va_W)) (As := [.int v5]) (rest := []) (st2 := [.int q8]) hE (fun l => c_Poles_saved l g a po_z pod_z pod_y v5 q8 hc9) cd_X6_saved cv_X6_saved ml_Poles_75 rfl rfl rfl (wg_Poles_0 _ _ _) ⟨⟨Nat.le_of_ble_eq_true rfl, Nat.le_of_ble_eq_true rfl⟩, ⟨Nat.zero_le _, Nat.zero_le _⟩, rfl, rfl⟩ [0, 1] rfl rfl rfl (Nat.le_of_ble_eq_true rfl) rfl dX6_best_38 ?_
          refine j_goto (tgt := 50) hE dX6_best_41 (by decide) ?_
          exact j_Poles_best_50 E g a po_z pod_z pod_y x1 x2 res hE hq (fun v3 v4 v5 => f_Poles_best_8 po_z x1 x2 n v3 v4 v5) (fun v3 v4 v5 hf => ih v3 v4 v5 hf) v3 v4 v5 q8 hf
      · refine j_goto (tgt := 71) hE dX6_best_28 (by decide) ?_
        refine j_iinc (v := (v5 + 1)) (lv' := [(5, .int (v5 + 1)), (0, .ref (a 0)), (1, .int x1), (2, .int x2), (3, .int v3), (4, .int v4)]) hE dX6_best_71 5 rfl rfl (by decide) rfl ?_
        refine j_goto (tgt := 8) hE dX6_best_74 (by decide) ?_
        exact j_sub [1, 2, 3, 4, 5, 0] rfl (ih v3 v4 (v5 + 1) hf)
set_option maxRecDepth 100000 in
theorem c_Poles_best (l : Launch) (g : jG) (a : Nat → Nat) (po_z : jZ) (pod_z : jZ) (pod_y : jY) (x1 : Int32) (x2 : Int32) (res : Int32) (hf : f_Poles_best po_z x1 x2 = some res) : MC l g yX6_best cX6_best 7 (some .int) rm_Poles_best [.ref (a 0), .int x1, .int x2] (([n_Poles g a po_z, n_Odds g (fun i => a (i + 5)) pod_z pod_y] : List va_W)) (some (.int res)) (([n_Poles g a po_z, n_Odds g (fun i => a (i + 5)) pod_z pod_y] : List va_W)) 0 0 := by
  refine MC_of (own := RX6) (lv := [(0, .ref (a 0)), (1, .int x1), (2, .int x2)]) (by decide) rfl (Nat.le_of_ble_eq_true rfl) rfl rfl (fun E hE hq => ?_)
  unfold f_Poles_best at hf
  refine j_iconst (v := (-1)) hE dX6_best_0 (by decide) ?_
  refine j_istore_n (lv' := [(3, .int (-1)), (0, .ref (a 0)), (1, .int x1), (2, .int x2)]) hE dX6_best_1 rfl (by decide) rfl ?_
  refine j_iconst (v := 0) hE dX6_best_2 (by decide) ?_
  refine j_istore (lv' := [(4, .int 0), (3, .int (-1)), (0, .ref (a 0)), (1, .int x1), (2, .int x2)]) hE dX6_best_3 (by decide) rfl ?_
  refine j_iconst (v := 0) hE dX6_best_5 (by decide) ?_
  refine j_istore (lv' := [(5, .int 0), (4, .int 0), (3, .int (-1)), (0, .ref (a 0)), (1, .int x1), (2, .int x2)]) hE dX6_best_6 (by decide) rfl ?_
  exact j_sub [3, 4, 5, 2, 1, 0] rfl (j_Poles_best_8 E g a po_z pod_z pod_y x1 x2 res hE hq FU (-1) 0 0 hf)
def rm_Poles_aboveSomeBox : Room := { frames := 1, cells := 0, slots := 0, locals := 21 }
def f_Poles_aboveSomeBox_50 (po_z : jZ) (ro_z : jZ)   : Nat → Int32 → Int32 → Int32 → Option (Int32)
  | 0, _, _, _ => none
  | n + 1, v2, v3, v4 => (if 12 ≤ v4 then some v3
    else (f_Road_has ro_z v4).bind fun q9 => (if q9 = 0 then some v3
    else (ix v4 12).bind fun _ => (if (ro_z 11 (Int32.toNatClampNeg v4)) = 0 then (ix v4 12).bind fun _ => (if (po_z 2 (Int32.toNatClampNeg v4)) ≤ v2 then f_Poles_aboveSomeBox_50 po_z ro_z n v2 v3 (v4 + 1)
    else f_Poles_aboveSomeBox_50 po_z ro_z n v2 (v3 ||| (1 <<< (v4 &&& 31))) (v4 + 1))
    else f_Poles_aboveSomeBox_50 po_z ro_z n v2 v3 (v4 + 1))))
def f_Poles_aboveSomeBox_5 (po_z : jZ) (ro_z : jZ)   : Nat → Int32 → Int32 → Option (Int32)
  | 0, _, _ => none
  | n + 1, v2, v3 => (if 12 ≤ v3 then f_Poles_aboveSomeBox_50 po_z ro_z FU v2 0 0
    else (f_Road_has ro_z v3).bind fun q2 => (if q2 = 0 then f_Poles_aboveSomeBox_50 po_z ro_z FU v2 0 0
    else (ix v3 12).bind fun _ => (if (ro_z 11 (Int32.toNatClampNeg v3)) = 0 then f_Poles_aboveSomeBox_5 po_z ro_z n v2 (v3 + 1)
    else (ix v3 12).bind fun _ => f_Poles_aboveSomeBox_5 po_z ro_z n (if (po_z 2 (Int32.toNatClampNeg v3)) < v2 then (po_z 2 (Int32.toNatClampNeg v3)) else v2) (v3 + 1))))
def f_Poles_aboveSomeBox (po_z : jZ) (ro_z : jZ)  : Option (Int32) := f_Poles_aboveSomeBox_5 po_z ro_z FU 2147483647 0
set_option maxRecDepth 100000 in
theorem j_Poles_aboveSomeBox_50 (E : jT) (g : jG) (a : Nat → Nat) (b : Nat → Nat) (po_z : jZ) (pod_z : jZ) (pod_y : jY) (ro_z : jZ) (ki_z : jZ) (ru_z : jZ) (ru_y : jY) (no_z : jZ)  (res : Int32) (hE : jOk E g RX6 cX6_aboveSomeBox 5 (some .int) rm_Poles_aboveSomeBox) (hq : jEnd E g (some (.int res)) (([n_Poles g a po_z, n_Odds g (fun i => a (i + 5)) pod_z pod_y, n_Road g b ro_z, n_Kinds g (fun i => b (i + 8)) ki_z, n_Rule g (fun i => b (i + 14)) ru_z ru_y, n_Notes g (fun i => b (i + 17)) no_z] : List va_W)) 0 0)  : ∀ (n : Nat) (v2 : Int32) (v3 : Int32) (v4 : Int32), f_Poles_aboveSomeBox_50 po_z ro_z n v2 v3 v4 = some res → J E g 0 0 (([n_Poles g a po_z, n_Odds g (fun i => a (i + 5)) pod_z pod_y, n_Road g b ro_z, n_Kinds g (fun i => b (i + 8)) ki_z, n_Rule g (fun i => b (i + 14)) ru_z ru_y, n_Notes g (fun i => b (i + 17)) no_z] : List va_W)) [(0, .ref (a 0)), (1, .ref (b 0)), (2, .int v2), (3, .int v3), (4, .int v4)] 50 [] := by
  intro n
  induction n with
  | zero =>
    intro v2 v3 v4 hf
    rw [f_Poles_aboveSomeBox_50] at hf
    cases hf
  | succ n ih =>
    intro v2 v3 v4 hf
    rw [f_Poles_aboveSomeBox_50] at hf
    refine j_iload hE dX6_aboveSomeBox_50 4 rfl ?_
    refine j_bipush (v := 12) hE dX6_aboveSomeBox_52 (by decide) ?_
    refine j_icmp_ge (tgt := 100) hE hf dX6_aboveSomeBox_54 (by decide) (fun c8 hf => ?_) (fun c8 hf => ?_)
    · refine j_iload_n hE dX6_aboveSomeBox_100 rfl 3 rfl ?_
      obtain rfl := Option.some.inj hf
      exact j_iret hE hq rfl rfl dX6_aboveSomeBox_101
    · refine j_aload_n hE dX6_aboveSomeBox_57 rfl 1 rfl ?_
      refine j_iload hE dX6_aboveSomeBox_58 4 rfl ?_
      obtain ⟨q9, hc10, hf⟩ := bind_of hf
      refine j_callV (ws' := ([n_Poles g a po_z, n_Odds g (fun i => a (i + 5)) pod_z pod_y, n_Road g b ro_z, n_Kinds g (fun i => b (i + 8)) ki_z, n_Rule g (fun i => b (i + 14)) ru_z ru_y, n_Notes g (fun i => b (i + 17)) no_z] : List va_W)) (As := [.int v4]) (rest := []) (st2 := [.int q9]) hE (fun l => c_Road_has l g b ro_z ki_z ru_z ru_y no_z v4 q9 hc10) cd_X8_has cv_X8_has ml_Poles_82 rfl rfl rfl (wg_Road_0 _ _ _) ⟨⟨Nat.le_of_ble_eq_true rfl, Nat.le_of_ble_eq_true rfl⟩, ⟨Nat.zero_le _, Nat.zero_le _⟩, rfl, rfl⟩ [2, 3, 4, 5] rfl rfl rfl (Nat.le_of_ble_eq_true rfl) rfl dX6_aboveSomeBox_60 ?_
      refine j_if_eq (tgt := 100) hE hf dX6_aboveSomeBox_63 (by decide) (fun c11 hf => ?_) (fun c11 hf => ?_)
      · refine j_iload_n hE dX6_aboveSomeBox_100 rfl 3 rfl ?_
        obtain rfl := Option.some.inj hf
        exact j_iret hE hq rfl rfl dX6_aboveSomeBox_101
      · refine j_aload_n hE dX6_aboveSomeBox_66 rfl 1 rfl ?_
        refine j_get (v := .ref (b 4)) hE lg_Poles_86 2 rfl 0 (wg_Road_0 g b ro_z) rfl dX6_aboveSomeBox_67 ?_
        refine j_iload hE dX6_aboveSomeBox_70 4 rfl ?_
        refine j_iald hE hf 2 rfl 4 (wg_Road_4 g b ro_z) dX6_aboveSomeBox_72 (fun hf => ?_)
        refine j_if_ne (tgt := 94) hE hf dX6_aboveSomeBox_73 (by decide) (fun c13 hf => ?_) (fun c13 hf => ?_)
        · refine j_iinc (v := (v4 + 1)) (lv' := [(4, .int (v4 + 1)), (0, .ref (a 0)), (1, .ref (b 0)), (2, .int v2), (3, .int v3)]) hE dX6_aboveSomeBox_94 4 rfl rfl (by decide) rfl ?_
          refine j_goto (tgt := 50) hE dX6_aboveSomeBox_97 (by decide) ?_
          exact j_sub [1, 2, 3, 4, 0] rfl (ih v2 v3 (v4 + 1) hf)
        · refine j_aload_n hE dX6_aboveSomeBox_76 rfl 0 rfl ?_
          refine j_get (v := .ref (a 1)) hE lg_Poles_22 0 rfl 0 (wg_Poles_0 g a po_z) rfl dX6_aboveSomeBox_77 ?_
          refine j_iload hE dX6_aboveSomeBox_80 4 rfl ?_
          refine j_iald hE hf 0 rfl 1 (wg_Poles_1 g a po_z) dX6_aboveSomeBox_82 (fun hf => ?_)
          refine j_iload_n hE dX6_aboveSomeBox_83 rfl 2 rfl ?_
          refine j_icmp_le (tgt := 94) hE hf dX6_aboveSomeBox_84 (by decide) (fun c15 hf => ?_) (fun c15 hf => ?_)
          · refine j_iinc (v := (v4 + 1)) (lv' := [(4, .int (v4 + 1)), (0, .ref (a 0)), (1, .ref (b 0)), (2, .int v2), (3, .int v3)]) hE dX6_aboveSomeBox_94 4 rfl rfl (by decide) rfl ?_
            refine j_goto (tgt := 50) hE dX6_aboveSomeBox_97 (by decide) ?_
            exact j_sub [1, 2, 3, 4, 0] rfl (ih v2 v3 (v4 + 1) hf)
          · refine j_iload_n hE dX6_aboveSomeBox_87 rfl 3 rfl ?_
            refine j_iconst (v := 1) hE dX6_aboveSomeBox_88 (by decide) ?_
            refine j_iload hE dX6_aboveSomeBox_89 4 rfl ?_
            refine j_ishl hE dX6_aboveSomeBox_91 ?_
            refine j_ior hE dX6_aboveSomeBox_92 ?_
            refine j_istore_n (lv' := [(3, .int (v3 ||| (1 <<< (v4 &&& 31)))), (0, .ref (a 0)), (1, .ref (b 0)), (2, .int v2), (4, .int v4)]) hE dX6_aboveSomeBox_93 rfl (by decide) rfl ?_
            refine j_iinc (v := (v4 + 1)) (lv' := [(4, .int (v4 + 1)), (3, .int (v3 ||| (1 <<< (v4 &&& 31)))), (0, .ref (a 0)), (1, .ref (b 0)), (2, .int v2)]) hE dX6_aboveSomeBox_94 4 rfl rfl (by decide) rfl ?_
            refine j_goto (tgt := 50) hE dX6_aboveSomeBox_97 (by decide) ?_
            exact j_sub [2, 3, 4, 1, 0] rfl (ih v2 (v3 ||| (1 <<< (v4 &&& 31))) (v4 + 1) hf)
set_option maxRecDepth 100000 in
theorem j_Poles_aboveSomeBox_5 (E : jT) (g : jG) (a : Nat → Nat) (b : Nat → Nat) (po_z : jZ) (pod_z : jZ) (pod_y : jY) (ro_z : jZ) (ki_z : jZ) (ru_z : jZ) (ru_y : jY) (no_z : jZ)  (res : Int32) (hE : jOk E g RX6 cX6_aboveSomeBox 5 (some .int) rm_Poles_aboveSomeBox) (hq : jEnd E g (some (.int res)) (([n_Poles g a po_z, n_Odds g (fun i => a (i + 5)) pod_z pod_y, n_Road g b ro_z, n_Kinds g (fun i => b (i + 8)) ki_z, n_Rule g (fun i => b (i + 14)) ru_z ru_y, n_Notes g (fun i => b (i + 17)) no_z] : List va_W)) 0 0)  : ∀ (n : Nat) (v2 : Int32) (v3 : Int32), f_Poles_aboveSomeBox_5 po_z ro_z n v2 v3 = some res → J E g 0 0 (([n_Poles g a po_z, n_Odds g (fun i => a (i + 5)) pod_z pod_y, n_Road g b ro_z, n_Kinds g (fun i => b (i + 8)) ki_z, n_Rule g (fun i => b (i + 14)) ru_z ru_y, n_Notes g (fun i => b (i + 17)) no_z] : List va_W)) [(0, .ref (a 0)), (1, .ref (b 0)), (2, .int v2), (3, .int v3)] 5 [] := by
  intro n
  induction n with
  | zero =>
    intro v2 v3 hf
    rw [f_Poles_aboveSomeBox_5] at hf
    cases hf
  | succ n ih =>
    intro v2 v3 hf
    rw [f_Poles_aboveSomeBox_5] at hf
    refine j_iload_n hE dX6_aboveSomeBox_5 rfl 3 rfl ?_
    refine j_bipush (v := 12) hE dX6_aboveSomeBox_6 (by decide) ?_
    refine j_icmp_ge (tgt := 45) hE hf dX6_aboveSomeBox_8 (by decide) (fun c1 hf => ?_) (fun c1 hf => ?_)
    · refine j_iconst (v := 0) hE dX6_aboveSomeBox_45 (by decide) ?_
      refine j_istore_n (lv' := [(3, .int 0), (0, .ref (a 0)), (1, .ref (b 0)), (2, .int v2)]) hE dX6_aboveSomeBox_46 rfl (by decide) rfl ?_
      refine j_iconst (v := 0) hE dX6_aboveSomeBox_47 (by decide) ?_
      refine j_istore (lv' := [(4, .int 0), (3, .int 0), (0, .ref (a 0)), (1, .ref (b 0)), (2, .int v2)]) hE dX6_aboveSomeBox_48 (by decide) rfl ?_
      exact j_sub [2, 3, 4, 1, 0] rfl (j_Poles_aboveSomeBox_50 E g a b po_z pod_z pod_y ro_z ki_z ru_z ru_y no_z res hE hq FU v2 0 0 hf)
    · refine j_aload_n hE dX6_aboveSomeBox_11 rfl 1 rfl ?_
      refine j_iload_n hE dX6_aboveSomeBox_12 rfl 3 rfl ?_
      obtain ⟨q2, hc3, hf⟩ := bind_of hf
      refine j_callV (ws' := ([n_Poles g a po_z, n_Odds g (fun i => a (i + 5)) pod_z pod_y, n_Road g b ro_z, n_Kinds g (fun i => b (i + 8)) ki_z, n_Rule g (fun i => b (i + 14)) ru_z ru_y, n_Notes g (fun i => b (i + 17)) no_z] : List va_W)) (As := [.int v3]) (rest := []) (st2 := [.int q2]) hE (fun l => c_Road_has l g b ro_z ki_z ru_z ru_y no_z v3 q2 hc3) cd_X8_has cv_X8_has ml_Poles_82 rfl rfl rfl (wg_Road_0 _ _ _) ⟨⟨Nat.le_of_ble_eq_true rfl, Nat.le_of_ble_eq_true rfl⟩, ⟨Nat.zero_le _, Nat.zero_le _⟩, rfl, rfl⟩ [2, 3, 4, 5] rfl rfl rfl (Nat.le_of_ble_eq_true rfl) rfl dX6_aboveSomeBox_13 ?_
      refine j_if_eq (tgt := 45) hE hf dX6_aboveSomeBox_16 (by decide) (fun c4 hf => ?_) (fun c4 hf => ?_)
      · refine j_iconst (v := 0) hE dX6_aboveSomeBox_45 (by decide) ?_
        refine j_istore_n (lv' := [(3, .int 0), (0, .ref (a 0)), (1, .ref (b 0)), (2, .int v2)]) hE dX6_aboveSomeBox_46 rfl (by decide) rfl ?_
        refine j_iconst (v := 0) hE dX6_aboveSomeBox_47 (by decide) ?_
        refine j_istore (lv' := [(4, .int 0), (3, .int 0), (0, .ref (a 0)), (1, .ref (b 0)), (2, .int v2)]) hE dX6_aboveSomeBox_48 (by decide) rfl ?_
        exact j_sub [2, 3, 4, 1, 0] rfl (j_Poles_aboveSomeBox_50 E g a b po_z pod_z pod_y ro_z ki_z ru_z ru_y no_z res hE hq FU v2 0 0 hf)
      · refine j_aload_n hE dX6_aboveSomeBox_19 rfl 1 rfl ?_
        refine j_get (v := .ref (b 4)) hE lg_Poles_86 2 rfl 0 (wg_Road_0 g b ro_z) rfl dX6_aboveSomeBox_20 ?_
        refine j_iload_n hE dX6_aboveSomeBox_23 rfl 3 rfl ?_
        refine j_iald hE hf 2 rfl 4 (wg_Road_4 g b ro_z) dX6_aboveSomeBox_24 (fun hf => ?_)
        refine j_if_eq (tgt := 39) hE hf dX6_aboveSomeBox_25 (by decide) (fun c6 hf => ?_) (fun c6 hf => ?_)
        · refine j_iinc (v := (v3 + 1)) (lv' := [(3, .int (v3 + 1)), (0, .ref (a 0)), (1, .ref (b 0)), (2, .int v2)]) hE dX6_aboveSomeBox_39 3 rfl rfl (by decide) rfl ?_
          refine j_goto (tgt := 5) hE dX6_aboveSomeBox_42 (by decide) ?_
          exact j_sub [1, 2, 3, 0] rfl (ih v2 (v3 + 1) hf)
        · refine j_iload_n hE dX6_aboveSomeBox_28 rfl 2 rfl ?_
          refine j_aload_n hE dX6_aboveSomeBox_29 rfl 0 rfl ?_
          refine j_get (v := .ref (a 1)) hE lg_Poles_22 0 rfl 0 (wg_Poles_0 g a po_z) rfl dX6_aboveSomeBox_30 ?_
          refine j_iload_n hE dX6_aboveSomeBox_33 rfl 3 rfl ?_
          refine j_iald hE hf 0 rfl 1 (wg_Poles_1 g a po_z) dX6_aboveSomeBox_34 (fun hf => ?_)
          refine j_mmin hE fm_mmin ml_Poles_54 ⟨⟨Nat.le_of_ble_eq_true rfl, Nat.le_of_ble_eq_true rfl⟩, Nat.zero_le _, Nat.zero_le _⟩ dX6_aboveSomeBox_35 ?_
          refine j_istore_n (lv' := [(2, .int (if (po_z 2 (Int32.toNatClampNeg v3)) < v2 then (po_z 2 (Int32.toNatClampNeg v3)) else v2)), (0, .ref (a 0)), (1, .ref (b 0)), (3, .int v3)]) hE dX6_aboveSomeBox_38 rfl (by decide) rfl ?_
          refine j_iinc (v := (v3 + 1)) (lv' := [(3, .int (v3 + 1)), (2, .int (if (po_z 2 (Int32.toNatClampNeg v3)) < v2 then (po_z 2 (Int32.toNatClampNeg v3)) else v2)), (0, .ref (a 0)), (1, .ref (b 0))]) hE dX6_aboveSomeBox_39 3 rfl rfl (by decide) rfl ?_
          refine j_goto (tgt := 5) hE dX6_aboveSomeBox_42 (by decide) ?_
          exact j_sub [2, 3, 1, 0] rfl (ih (if (po_z 2 (Int32.toNatClampNeg v3)) < v2 then (po_z 2 (Int32.toNatClampNeg v3)) else v2) (v3 + 1) hf)
set_option maxRecDepth 100000 in
theorem c_Poles_aboveSomeBox (l : Launch) (g : jG) (a : Nat → Nat) (b : Nat → Nat) (po_z : jZ) (pod_z : jZ) (pod_y : jY) (ro_z : jZ) (ki_z : jZ) (ru_z : jZ) (ru_y : jY) (no_z : jZ)  (res : Int32) (hf : f_Poles_aboveSomeBox po_z ro_z = some res) : MC l g yX6_aboveSomeBox cX6_aboveSomeBox 5 (some .int) rm_Poles_aboveSomeBox [.ref (a 0), .ref (b 0)] (([n_Poles g a po_z, n_Odds g (fun i => a (i + 5)) pod_z pod_y, n_Road g b ro_z, n_Kinds g (fun i => b (i + 8)) ki_z, n_Rule g (fun i => b (i + 14)) ru_z ru_y, n_Notes g (fun i => b (i + 17)) no_z] : List va_W)) (some (.int res)) (([n_Poles g a po_z, n_Odds g (fun i => a (i + 5)) pod_z pod_y, n_Road g b ro_z, n_Kinds g (fun i => b (i + 8)) ki_z, n_Rule g (fun i => b (i + 14)) ru_z ru_y, n_Notes g (fun i => b (i + 17)) no_z] : List va_W)) 0 0 := by
  refine MC_of (own := RX6) (lv := [(0, .ref (a 0)), (1, .ref (b 0))]) (by decide) rfl (Nat.le_of_ble_eq_true rfl) rfl rfl (fun E hE hq => ?_)
  unfold f_Poles_aboveSomeBox at hf
  refine j_ldc hE co_Poles_81 dX6_aboveSomeBox_0 ?_
  refine j_istore_n (lv' := [(2, .int 2147483647), (0, .ref (a 0)), (1, .ref (b 0))]) hE dX6_aboveSomeBox_2 rfl (by decide) rfl ?_
  refine j_iconst (v := 0) hE dX6_aboveSomeBox_3 (by decide) ?_
  refine j_istore_n (lv' := [(3, .int 0), (2, .int 2147483647), (0, .ref (a 0)), (1, .ref (b 0))]) hE dX6_aboveSomeBox_4 rfl (by decide) rfl ?_
  exact j_sub [2, 3, 1, 0] rfl (j_Poles_aboveSomeBox_5 E g a b po_z pod_z pod_y ro_z ki_z ru_z ru_y no_z res hE hq FU 2147483647 0 hf)
def rm_Reader_stop : Room := { frames := 0, cells := 0, slots := 0, locals := 0 }
def f_Reader_stop (re_z : jZ) (ta_z : jZ) (x1 : Int32) : Option (jZ × Int32) := some ((up2 (up2 re_z 1 0 x1) 2 0 (ta_z 6 0)), 0)
set_option maxRecDepth 100000 in
theorem c_Reader_stop (l : Launch) (g : jG) (a : Nat → Nat) (re_z : jZ) (ta_z : jZ) (x1 : Int32) (res : jZ × Int32) (hf : f_Reader_stop re_z ta_z x1 = some res) : MC l g yX7_stop cX7_stop 2 (some .boolean) rm_Reader_stop [.ref (a 0), .int x1] (([n_Reader g a re_z, n_Tape g (fun i => a (i + 3)) ta_z] : List va_W)) (some (.int res.2)) (([n_Reader g a res.1, n_Tape g (fun i => a (i + 3)) ta_z] : List va_W)) 0 0 := by
  refine MC_of (own := RX7) (lv := [(0, .ref (a 0)), (1, .int x1)]) (by decide) rfl (Nat.le_of_ble_eq_true rfl) rfl rfl (fun E hE hq => ?_)
  unfold f_Reader_stop at hf
  refine j_aload_n hE dX7_stop_0 rfl 0 rfl ?_
  refine j_iload_n hE dX7_stop_1 rfl 1 rfl ?_
  refine j_put (v := .int x1) (ws' := ([n_Reader g a (up2 re_z 1 0 x1), n_Tape g (fun i => a (i + 3)) ta_z] : List va_W)) hE lp_Reader_18 0 rfl 0 (wg_Reader_0 g a re_z) rfl rfl (Nat.le_of_ble_eq_true rfl) (wp_Reader_1 g a re_z x1) rfl dX7_stop_2 ?_
  refine j_aload_n hE dX7_stop_5 rfl 0 rfl ?_
  refine j_aload_n hE dX7_stop_6 rfl 0 rfl ?_
  refine j_get (v := .ref (a 3)) hE lg_Reader_12 0 rfl 0 (wg_Reader_0 g a (up2 re_z 1 0 x1)) rfl dX7_stop_7 ?_
  refine j_get (v := .int (ta_z 6 0)) hE lg_Reader_195 1 rfl 0 (wg_Tape_0 g (fun i => a (i + 3)) ta_z) rfl dX7_stop_10 ?_
  refine j_put (v := .int (ta_z 6 0)) (ws' := ([n_Reader g a (up2 (up2 re_z 1 0 x1) 2 0 (ta_z 6 0)), n_Tape g (fun i => a (i + 3)) ta_z] : List va_W)) hE lp_Reader_22 0 rfl 0 (wg_Reader_0 g a (up2 re_z 1 0 x1)) rfl rfl (Nat.le_of_ble_eq_true rfl) (wp_Reader_2 g a (up2 re_z 1 0 x1) (ta_z 6 0)) rfl dX7_stop_13 ?_
  refine j_iconst (v := 0) hE dX7_stop_16 (by decide) ?_
  obtain rfl := Option.some.inj hf
  exact j_zret_c hE (Or.inl rfl) hq rfl rfl dX7_stop_17
def rm_Reader_readNumber : Room := { frames := 2, cells := 0, slots := 0, locals := 43 }
def f_Reader_readNumber (re_z : jZ) (ta_z : jZ) (x1 : Int32) (x2 : Int32) : Option (jZ × jZ × Int32) := (if (ta_z 4 0) = 2 then (f_WP_isWithin (ta_z 5 0) x1 x2).bind fun q2 => (if q2 = 0 then (f_Reader_stop re_z ta_z 2).bind fun q7 => some (q7.1, ta_z, (-1))
    else (f_Tape_step ta_z).bind fun q5 => some (re_z, q5, (ta_z 5 0)))
    else (f_Reader_stop re_z ta_z 1).bind fun q9 => some (q9.1, ta_z, (-1)))
set_option maxRecDepth 100000 in
theorem c_Reader_readNumber (l : Launch) (g : jG) (a : Nat → Nat) (re_z : jZ) (ta_z : jZ) (x1 : Int32) (x2 : Int32) (res : jZ × jZ × Int32) (hf : f_Reader_readNumber re_z ta_z x1 x2 = some res) : MC l g yX7_readNumber cX7_readNumber 4 (some .int) rm_Reader_readNumber [.ref (a 0), .int x1, .int x2] (([n_Reader g a re_z, n_Tape g (fun i => a (i + 3)) ta_z] : List va_W)) (some (.int res.2.2)) (([n_Reader g a res.1, n_Tape g (fun i => a (i + 3)) res.2.1] : List va_W)) 0 0 := by
  refine MC_of (own := RX7) (lv := [(0, .ref (a 0)), (1, .int x1), (2, .int x2)]) (by decide) rfl (Nat.le_of_ble_eq_true rfl) rfl rfl (fun E hE hq => ?_)
  unfold f_Reader_readNumber at hf
  refine j_aload_n hE dX7_readNumber_0 rfl 0 rfl ?_
  refine j_get (v := .ref (a 3)) hE lg_Reader_12 0 rfl 0 (wg_Reader_0 g a re_z) rfl dX7_readNumber_1 ?_
  refine j_get (v := .int (ta_z 5 0)) hE lg_Reader_181 1 rfl 0 (wg_Tape_0 g (fun i => a (i + 3)) ta_z) rfl dX7_readNumber_4 ?_
  refine j_istore_n (lv' := [(3, .int (ta_z 5 0)), (0, .ref (a 0)), (1, .int x1), (2, .int x2)]) hE dX7_readNumber_7 rfl (by decide) rfl ?_
  refine j_aload_n hE dX7_readNumber_8 rfl 1 rfl ?_
  refine j_get (v := .ref (a 3)) hE lg_Reader_12 0 rfl 0 (wg_Reader_0 g a re_z) rfl dX7_readNumber_9 ?_
  refine j_get (v := .int (ta_z 4 0)) hE lg_Reader_58 1 rfl 0 (wg_Tape_0 g (fun i => a (i + 3)) ta_z) rfl dX7_readNumber_12 ?_
  refine j_iconst (v := 2) hE dX7_readNumber_15 (by decide) ?_
  refine j_icmp_eq (tgt := 27) hE hf dX7_readNumber_16 (by decide) (fun c1 hf => ?_) (fun c1 hf => ?_)
  · refine j_iload_n hE dX7_readNumber_27 rfl 0 rfl ?_
    refine j_iload_n hE dX7_readNumber_28 rfl 2 rfl ?_
    refine j_iload_n hE dX7_readNumber_29 rfl 3 rfl ?_
    obtain ⟨q2, hc3, hf⟩ := bind_of hf
    refine j_callSN (ws' := ([n_Reader g a re_z, n_Tape g (fun i => a (i + 3)) ta_z] : List va_W)) (As := [.int (ta_z 5 0), .int x1, .int x2]) (rest := []) (st2 := [.int q2]) hE (fun l => c_WP_isWithin l g (ta_z 5 0) x1 x2 q2 hc3) cd_X11_isWithin st_X11_isWithin ml_Reader_191 rfl rfl ⟨⟨Nat.le_of_ble_eq_true rfl, Nat.le_of_ble_eq_true rfl⟩, ⟨Nat.zero_le _, Nat.zero_le _⟩, rfl, rfl⟩ [] rfl rfl rfl (Nat.le_of_ble_eq_true rfl) rfl dX7_readNumber_30 ?_
    refine j_if_ne (tgt := 44) hE hf dX7_readNumber_33 (by decide) (fun c4 hf => ?_) (fun c4 hf => ?_)
    · refine j_aload_n hE dX7_readNumber_44 rfl 1 rfl ?_
      refine j_get (v := .ref (a 3)) hE lg_Reader_12 0 rfl 0 (wg_Reader_0 g a re_z) rfl dX7_readNumber_45 ?_
      obtain ⟨q5, hc6, hf⟩ := bind_of hf
      refine j_callV (ws' := ([n_Reader g a re_z, n_Tape g (fun i => a (i + 3)) q5] : List va_W)) (As := []) (rest := []) (st2 := []) hE (fun l => c_Tape_step l g (fun i => a (i + 3)) ta_z q5 hc6) cd_X10_step cv_X10_step ml_Reader_112 rfl rfl rfl (wg_Tape_0 _ _ _) ⟨⟨Nat.le_of_ble_eq_true rfl, Nat.le_of_ble_eq_true rfl⟩, ⟨Nat.zero_le _, Nat.zero_le _⟩, rfl, rfl⟩ [1] rfl rfl rfl (Nat.le_of_ble_eq_true rfl) rfl dX7_readNumber_48 ?_
      refine j_iload_n hE dX7_readNumber_51 rfl 0 rfl ?_
      obtain rfl := Option.some.inj hf
      exact j_iret hE hq rfl rfl dX7_readNumber_52
    · refine j_aload_n hE dX7_readNumber_36 rfl 1 rfl ?_
      refine j_iconst (v := 2) hE dX7_readNumber_37 (by decide) ?_
      obtain ⟨q7, hc8, hf⟩ := bind_of hf
      refine j_callV (ws' := ([n_Reader g a q7.1, n_Tape g (fun i => a (i + 3)) ta_z] : List va_W)) (As := [.int 2]) (rest := []) (st2 := [.int q7.2]) hE (fun l => c_Reader_stop l g a re_z ta_z 2 q7 hc8) cd_X7_stop cv_X7_stop ml_Reader_99 rfl rfl rfl (wg_Reader_0 _ _ _) ⟨⟨Nat.le_of_ble_eq_true rfl, Nat.le_of_ble_eq_true rfl⟩, ⟨Nat.zero_le _, Nat.zero_le _⟩, rfl, rfl⟩ [0, 1] rfl rfl rfl (Nat.le_of_ble_eq_true rfl) rfl dX7_readNumber_38 ?_
      refine j_pop hE dX7_readNumber_41 rfl ?_
      refine j_iconst (v := (-1)) hE dX7_readNumber_42 (by decide) ?_
      obtain rfl := Option.some.inj hf
      exact j_iret hE hq rfl rfl dX7_readNumber_43
  · refine j_aload_n hE dX7_readNumber_19 rfl 1 rfl ?_
    refine j_iconst (v := 1) hE dX7_readNumber_20 (by decide) ?_
    obtain ⟨q9, hc10, hf⟩ := bind_of hf
    refine j_callV (ws' := ([n_Reader g a q9.1, n_Tape g (fun i => a (i + 3)) ta_z] : List va_W)) (As := [.int 1]) (rest := []) (st2 := [.int q9.2]) hE (fun l => c_Reader_stop l g a re_z ta_z 1 q9 hc10) cd_X7_stop cv_X7_stop ml_Reader_99 rfl rfl rfl (wg_Reader_0 _ _ _) ⟨⟨Nat.le_of_ble_eq_true rfl, Nat.le_of_ble_eq_true rfl⟩, ⟨Nat.zero_le _, Nat.zero_le _⟩, rfl, rfl⟩ [0, 1] rfl rfl rfl (Nat.le_of_ble_eq_true rfl) rfl dX7_readNumber_21 ?_
    refine j_pop hE dX7_readNumber_24 rfl ?_
    refine j_iconst (v := (-1)) hE dX7_readNumber_25 (by decide) ?_
    obtain rfl := Option.some.inj hf
    exact j_iret hE hq rfl rfl dX7_readNumber_26
def rm_Reader_readSaves : Room := { frames := 3, cells := 0, slots := 0, locals := 66 }
def f_Reader_readSaves_44    (re_z : jZ) (ta_z : jZ) (ro_z : jZ) (v2 : Int32) (s0 : Int32) : Option (jZ × jZ × jZ × Int32) := (if s0 = (-1) then some (re_z, ta_z, ro_z, 0)
    else some (re_z, ta_z, (up2 (up2 (up2 ro_z 4 0 1) 5 0 v2) 6 0 s0), 1))
def f_Reader_readSaves (re_z : jZ) (ta_z : jZ) (ro_z : jZ)  : Option (jZ × jZ × jZ × Int32) := (if (ro_z 4 0) = 0 then (f_Tape_step ta_z).bind fun q2 => (f_Reader_readNumber re_z q2 0 9).bind fun q4 => (if q4.2.2 = (-1) then f_Reader_readSaves_44 q4.1 q4.2.1 ro_z q4.2.2 (-1)
    else (f_Reader_readNumber q4.1 q4.2.1 0 9).bind fun q7 => f_Reader_readSaves_44 q7.1 q7.2.1 ro_z q4.2.2 q7.2.2)
    else (f_Reader_stop re_z ta_z 3).bind fun q9 => (bz q9.2).bind fun _ => some (q9.1, ta_z, ro_z, q9.2))
set_option maxRecDepth 100000 in
theorem j_Reader_readSaves_44 (E : jT) (g : jG) (a : Nat → Nat) (b : Nat → Nat) (ki_z : jZ) (ru_z : jZ) (ru_y : jY) (no_z : jZ)  (res : jZ × jZ × jZ × Int32) (hE : jOk E g RX7 cX7_readSaves 4 (some .boolean) rm_Reader_readSaves) (hq : jEnd E g (some (.int res.2.2.2)) (([n_Reader g a res.1, n_Tape g (fun i => a (i + 3)) res.2.1, n_Road g b res.2.2.1, n_Kinds g (fun i => b (i + 8)) ki_z, n_Rule g (fun i => b (i + 14)) ru_z ru_y, n_Notes g (fun i => b (i + 17)) no_z] : List va_W)) 0 0)  (re_z : jZ) (ta_z : jZ) (ro_z : jZ) (v2 : Int32) (s0 : Int32) (hf : f_Reader_readSaves_44 re_z ta_z ro_z v2 s0 = some res) : J E g 0 0 (([n_Reader g a re_z, n_Tape g (fun i => a (i + 3)) ta_z, n_Road g b ro_z, n_Kinds g (fun i => b (i + 8)) ki_z, n_Rule g (fun i => b (i + 14)) ru_z ru_y, n_Notes g (fun i => b (i + 17)) no_z] : List va_W)) [(1, .ref (b 0)), (2, .int v2)] 44 [.int s0] := by
  unfold f_Reader_readSaves_44 at hf
  refine j_istore_n (lv' := [(3, .int s0), (1, .ref (b 0)), (2, .int v2)]) hE dX7_readSaves_44 rfl (by decide) rfl ?_
  refine j_iload_n hE dX7_readSaves_45 rfl 0 rfl ?_
  refine j_iconst (v := (-1)) hE dX7_readSaves_46 (by decide) ?_
  refine j_icmp_ne (tgt := 52) hE hf dX7_readSaves_47 (by decide) (fun c12 hf => ?_) (fun c12 hf => ?_)
  · refine j_aload_n hE dX7_readSaves_52 rfl 1 rfl ?_
    refine j_iconst (v := 1) hE dX7_readSaves_53 (by decide) ?_
    refine j_put (v := .int 1) (ws' := ([n_Reader g a re_z, n_Tape g (fun i => a (i + 3)) ta_z, n_Road g b (up2 ro_z 4 0 1), n_Kinds g (fun i => b (i + 8)) ki_z, n_Rule g (fun i => b (i + 14)) ru_z ru_y, n_Notes g (fun i => b (i + 17)) no_z] : List va_W)) hE lp_Reader_172 2 rfl 0 (wg_Road_0 g b ro_z) (by decide +kernel) (by decide +kernel) (Nat.le_of_ble_eq_true rfl) (wp_Road_4 g b ro_z 1) rfl dX7_readSaves_54 ?_
    refine j_aload_n hE dX7_readSaves_57 rfl 1 rfl ?_
    refine j_iload_n hE dX7_readSaves_58 rfl 2 rfl ?_
    refine j_put (v := .int v2) (ws' := ([n_Reader g a re_z, n_Tape g (fun i => a (i + 3)) ta_z, n_Road g b (up2 (up2 ro_z 4 0 1) 5 0 v2), n_Kinds g (fun i => b (i + 8)) ki_z, n_Rule g (fun i => b (i + 14)) ru_z ru_y, n_Notes g (fun i => b (i + 17)) no_z] : List va_W)) hE lp_Reader_175 2 rfl 0 (wg_Road_0 g b (up2 ro_z 4 0 1)) rfl rfl (Nat.le_of_ble_eq_true rfl) (wp_Road_5 g b (up2 ro_z 4 0 1) v2) rfl dX7_readSaves_59 ?_
    refine j_aload_n hE dX7_readSaves_62 rfl 1 rfl ?_
    refine j_iload_n hE dX7_readSaves_63 rfl 0 rfl ?_
    refine j_put (v := .int s0) (ws' := ([n_Reader g a re_z, n_Tape g (fun i => a (i + 3)) ta_z, n_Road g b (up2 (up2 (up2 ro_z 4 0 1) 5 0 v2) 6 0 s0), n_Kinds g (fun i => b (i + 8)) ki_z, n_Rule g (fun i => b (i + 14)) ru_z ru_y, n_Notes g (fun i => b (i + 17)) no_z] : List va_W)) hE lp_Reader_178 2 rfl 0 (wg_Road_0 g b (up2 (up2 ro_z 4 0 1) 5 0 v2)) rfl rfl (Nat.le_of_ble_eq_true rfl) (wp_Road_6 g b (up2 (up2 ro_z 4 0 1) 5 0 v2) s0) rfl dX7_readSaves_64 ?_
    refine j_iconst (v := 1) hE dX7_readSaves_67 (by decide) ?_
    obtain rfl := Option.some.inj hf
    exact j_zret_c hE (Or.inr rfl) hq rfl rfl dX7_readSaves_68
  · refine j_iconst (v := 0) hE dX7_readSaves_50 (by decide) ?_
    obtain rfl := Option.some.inj hf
    exact j_zret_c hE (Or.inl rfl) hq rfl rfl dX7_readSaves_51
set_option maxRecDepth 100000 in
theorem c_Reader_readSaves (l : Launch) (g : jG) (a : Nat → Nat) (b : Nat → Nat) (re_z : jZ) (ta_z : jZ) (ro_z : jZ) (ki_z : jZ) (ru_z : jZ) (ru_y : jY) (no_z : jZ)  (res : jZ × jZ × jZ × Int32) (hf : f_Reader_readSaves re_z ta_z ro_z = some res) : MC l g yX7_readSaves cX7_readSaves 4 (some .boolean) rm_Reader_readSaves [.ref (a 0), .ref (b 0)] (([n_Reader g a re_z, n_Tape g (fun i => a (i + 3)) ta_z, n_Road g b ro_z, n_Kinds g (fun i => b (i + 8)) ki_z, n_Rule g (fun i => b (i + 14)) ru_z ru_y, n_Notes g (fun i => b (i + 17)) no_z] : List va_W)) (some (.int res.2.2.2)) (([n_Reader g a res.1, n_Tape g (fun i => a (i + 3)) res.2.1, n_Road g b res.2.2.1, n_Kinds g (fun i => b (i + 8)) ki_z, n_Rule g (fun i => b (i + 14)) ru_z ru_y, n_Notes g (fun i => b (i + 17)) no_z] : List va_W)) 0 0 := by
  refine MC_of (own := RX7) (lv := [(0, .ref (a 0)), (1, .ref (b 0))]) (by decide) rfl (Nat.le_of_ble_eq_true rfl) rfl rfl (fun E hE hq => ?_)
  unfold f_Reader_readSaves at hf
  refine j_aload_n hE dX7_readSaves_0 rfl 1 rfl ?_
  refine j_get (v := .int (ro_z 4 0)) hE lg_Reader_172 2 rfl 0 (wg_Road_0 g b ro_z) rfl dX7_readSaves_1 ?_
  refine j_if_eq (tgt := 13) hE hf dX7_readSaves_4 (by decide) (fun c1 hf => ?_) (fun c1 hf => ?_)
  · refine j_aload_n hE dX7_readSaves_13 rfl 0 rfl ?_
    refine j_get (v := .ref (a 3)) hE lg_Reader_12 0 rfl 0 (wg_Reader_0 g a re_z) rfl dX7_readSaves_14 ?_
    obtain ⟨q2, hc3, hf⟩ := bind_of hf
    refine j_callV (ws' := ([n_Reader g a re_z, n_Tape g (fun i => a (i + 3)) q2, n_Road g b ro_z, n_Kinds g (fun i => b (i + 8)) ki_z, n_Rule g (fun i => b (i + 14)) ru_z ru_y, n_Notes g (fun i => b (i + 17)) no_z] : List va_W)) (As := []) (rest := []) (st2 := []) hE (fun l => c_Tape_step l g (fun i => a (i + 3)) ta_z q2 hc3) cd_X10_step cv_X10_step ml_Reader_112 rfl rfl rfl (wg_Tape_0 _ _ _) ⟨⟨Nat.le_of_ble_eq_true rfl, Nat.le_of_ble_eq_true rfl⟩, ⟨Nat.zero_le _, Nat.zero_le _⟩, rfl, rfl⟩ [1] rfl rfl rfl (Nat.le_of_ble_eq_true rfl) rfl dX7_readSaves_17 ?_
    refine j_aload_n hE dX7_readSaves_20 rfl 0 rfl ?_
    refine j_iconst (v := 0) hE dX7_readSaves_21 (by decide) ?_
    refine j_bipush (v := 9) hE dX7_readSaves_22 (by decide) ?_
    obtain ⟨q4, hc5, hf⟩ := bind_of hf
    refine j_callV (ws' := ([n_Reader g a q4.1, n_Tape g (fun i => a (i + 3)) q4.2.1, n_Road g b ro_z, n_Kinds g (fun i => b (i + 8)) ki_z, n_Rule g (fun i => b (i + 14)) ru_z ru_y, n_Notes g (fun i => b (i + 17)) no_z] : List va_W)) (As := [.int 0, .int 9]) (rest := []) (st2 := [.int q4.2.2]) hE (fun l => c_Reader_readNumber l g a re_z q2 0 9 q4 hc5) cd_X7_readNumber cv_X7_readNumber ml_Reader_127 rfl rfl rfl (wg_Reader_0 _ _ _) ⟨⟨Nat.le_of_ble_eq_true rfl, Nat.le_of_ble_eq_true rfl⟩, ⟨Nat.zero_le _, Nat.zero_le _⟩, rfl, rfl⟩ [0, 1] rfl rfl rfl (Nat.le_of_ble_eq_true rfl) rfl dX7_readSaves_24 ?_
    refine j_istore_n (lv' := [(2, .int q4.2.2), (0, .ref (a 0)), (1, .ref (b 0))]) hE dX7_readSaves_27 rfl (by decide) rfl ?_
    refine j_iload_n hE dX7_readSaves_28 rfl 0 rfl ?_
    refine j_iconst (v := (-1)) hE dX7_readSaves_29 (by decide) ?_
    refine j_icmp_ne (tgt := 37) hE hf dX7_readSaves_30 (by decide) (fun c6 hf => ?_) (fun c6 hf => ?_)
    · refine j_aload_n hE dX7_readSaves_37 rfl 1 rfl ?_
      refine j_iconst (v := 0) hE dX7_readSaves_38 (by decide) ?_
      refine j_bipush (v := 9) hE dX7_readSaves_39 (by decide) ?_
      obtain ⟨q7, hc8, hf⟩ := bind_of hf
      refine j_callV (ws' := ([n_Reader g a q7.1, n_Tape g (fun i => a (i + 3)) q7.2.1, n_Road g b ro_z, n_Kinds g (fun i => b (i + 8)) ki_z, n_Rule g (fun i => b (i + 14)) ru_z ru_y, n_Notes g (fun i => b (i + 17)) no_z] : List va_W)) (As := [.int 0, .int 9]) (rest := []) (st2 := [.int q7.2.2]) hE (fun l => c_Reader_readNumber l g a q4.1 q4.2.1 0 9 q7 hc8) cd_X7_readNumber cv_X7_readNumber ml_Reader_127 rfl rfl rfl (wg_Reader_0 _ _ _) ⟨⟨Nat.le_of_ble_eq_true rfl, Nat.le_of_ble_eq_true rfl⟩, ⟨Nat.zero_le _, Nat.zero_le _⟩, rfl, rfl⟩ [0, 1] rfl rfl rfl (Nat.le_of_ble_eq_true rfl) rfl dX7_readSaves_41 ?_
      exact j_sub [2, 0] rfl (j_Reader_readSaves_44 E g a b ki_z ru_z ru_y no_z res hE hq q7.1 q7.2.1 ro_z q4.2.2 q7.2.2 hf)
    · refine j_iconst (v := (-1)) hE dX7_readSaves_33 (by decide) ?_
      refine j_goto (tgt := 44) hE dX7_readSaves_34 (by decide) ?_
      exact j_sub [2, 0] rfl (j_Reader_readSaves_44 E g a b ki_z ru_z ru_y no_z res hE hq q4.1 q4.2.1 ro_z q4.2.2 (-1) hf)
  · refine j_aload_n hE dX7_readSaves_7 rfl 0 rfl ?_
    refine j_iconst (v := 3) hE dX7_readSaves_8 (by decide) ?_
    obtain ⟨q9, hc10, hf⟩ := bind_of hf
    refine j_callV (ws' := ([n_Reader g a q9.1, n_Tape g (fun i => a (i + 3)) ta_z, n_Road g b ro_z, n_Kinds g (fun i => b (i + 8)) ki_z, n_Rule g (fun i => b (i + 14)) ru_z ru_y, n_Notes g (fun i => b (i + 17)) no_z] : List va_W)) (As := [.int 3]) (rest := []) (st2 := [.int q9.2]) hE (fun l => c_Reader_stop l g a re_z ta_z 3 q9 hc10) cd_X7_stop cv_X7_stop ml_Reader_99 rfl rfl rfl (wg_Reader_0 _ _ _) ⟨⟨Nat.le_of_ble_eq_true rfl, Nat.le_of_ble_eq_true rfl⟩, ⟨Nat.zero_le _, Nat.zero_le _⟩, rfl, rfl⟩ [0, 1] rfl rfl rfl (Nat.le_of_ble_eq_true rfl) rfl dX7_readSaves_9 ?_
    obtain ⟨b11, hf⟩ := bz_of hf
    obtain rfl := Option.some.inj hf
    exact j_zret_c hE b11 hq rfl rfl dX7_readSaves_12
def rm_Reader_rankOf : Room := { frames := 0, cells := 0, slots := 0, locals := 0 }
def f_Reader_rankOf  (x0 : Int32) : Option (Int32) := (if x0 = 42 then some 6
    else (if x0 = 43 then some 5
    else (if x0 = 45 then some 5
    else (if x0 = 47 then some 6
    else (if x0 = 60 then some 4
    else (if x0 = 61 then some 4
    else (if x0 = 62 then some 4
    else (if x0 = 256 then some 4
    else (if x0 = 257 then some 4
    else (if x0 = 258 then some 4
    else (if x0 = 48365568 then some 2
    else (if x0 = 486146048 then some 3
    else (if x0 = 522190848 then some 1
    else some 0)))))))))))))
set_option maxRecDepth 100000 in
theorem c_Reader_rankOf (l : Launch) (g : jG)   (x0 : Int32) (res : Int32) (hf : f_Reader_rankOf x0 = some res) : MC l g yX7_rankOf cX7_rankOf 1 (some .int) rm_Reader_rankOf [.int x0] (([] : List va_W)) (some (.int res)) (([] : List va_W)) 0 0 := by
  refine MC_of (own := RX7) (lv := [(0, .int x0)]) (by decide) rfl (Nat.le_of_ble_eq_true rfl) rfl rfl (fun E hE hq => ?_)
  unfold f_Reader_rankOf at hf
  refine j_iload_n hE dX7_rankOf_0 rfl 0 rfl ?_
  refine j_case hf (fun c1 hf => ?_) (fun c1 hf => ?_)
  · refine j_lookup (tgt := 126) hE dX7_rankOf_1 (by decide) (by rw [c1]; try rfl) (by decide) ?_
    refine j_bipush (v := 6) hE dX7_rankOf_126 (by decide) ?_
    obtain rfl := Option.some.inj hf
    exact j_iret hE hq rfl rfl dX7_rankOf_128
  refine j_case hf (fun c2 hf => ?_) (fun c2 hf => ?_)
  · refine j_lookup (tgt := 124) hE dX7_rankOf_1 (by decide) (by rw [c2]; try rfl) (by decide) ?_
    refine j_iconst (v := 5) hE dX7_rankOf_124 (by decide) ?_
    obtain rfl := Option.some.inj hf
    exact j_iret hE hq rfl rfl dX7_rankOf_125
  refine j_case hf (fun c3 hf => ?_) (fun c3 hf => ?_)
  · refine j_lookup (tgt := 124) hE dX7_rankOf_1 (by decide) (by rw [c3]; try rfl) (by decide) ?_
    refine j_iconst (v := 5) hE dX7_rankOf_124 (by decide) ?_
    obtain rfl := Option.some.inj hf
    exact j_iret hE hq rfl rfl dX7_rankOf_125
  refine j_case hf (fun c4 hf => ?_) (fun c4 hf => ?_)
  · refine j_lookup (tgt := 126) hE dX7_rankOf_1 (by decide) (by rw [c4]; try rfl) (by decide) ?_
    refine j_bipush (v := 6) hE dX7_rankOf_126 (by decide) ?_
    obtain rfl := Option.some.inj hf
    exact j_iret hE hq rfl rfl dX7_rankOf_128
  refine j_case hf (fun c5 hf => ?_) (fun c5 hf => ?_)
  · refine j_lookup (tgt := 122) hE dX7_rankOf_1 (by decide) (by rw [c5]; try rfl) (by decide) ?_
    refine j_iconst (v := 4) hE dX7_rankOf_122 (by decide) ?_
    obtain rfl := Option.some.inj hf
    exact j_iret hE hq rfl rfl dX7_rankOf_123
  refine j_case hf (fun c6 hf => ?_) (fun c6 hf => ?_)
  · refine j_lookup (tgt := 122) hE dX7_rankOf_1 (by decide) (by rw [c6]; try rfl) (by decide) ?_
    refine j_iconst (v := 4) hE dX7_rankOf_122 (by decide) ?_
    obtain rfl := Option.some.inj hf
    exact j_iret hE hq rfl rfl dX7_rankOf_123
  refine j_case hf (fun c7 hf => ?_) (fun c7 hf => ?_)
  · refine j_lookup (tgt := 122) hE dX7_rankOf_1 (by decide) (by rw [c7]; try rfl) (by decide) ?_
    refine j_iconst (v := 4) hE dX7_rankOf_122 (by decide) ?_
    obtain rfl := Option.some.inj hf
    exact j_iret hE hq rfl rfl dX7_rankOf_123
  refine j_case hf (fun c8 hf => ?_) (fun c8 hf => ?_)
  · refine j_lookup (tgt := 122) hE dX7_rankOf_1 (by decide) (by rw [c8]; try rfl) (by decide) ?_
    refine j_iconst (v := 4) hE dX7_rankOf_122 (by decide) ?_
    obtain rfl := Option.some.inj hf
    exact j_iret hE hq rfl rfl dX7_rankOf_123
  refine j_case hf (fun c9 hf => ?_) (fun c9 hf => ?_)
  · refine j_lookup (tgt := 122) hE dX7_rankOf_1 (by decide) (by rw [c9]; try rfl) (by decide) ?_
    refine j_iconst (v := 4) hE dX7_rankOf_122 (by decide) ?_
    obtain rfl := Option.some.inj hf
    exact j_iret hE hq rfl rfl dX7_rankOf_123
  refine j_case hf (fun c10 hf => ?_) (fun c10 hf => ?_)
  · refine j_lookup (tgt := 122) hE dX7_rankOf_1 (by decide) (by rw [c10]; try rfl) (by decide) ?_
    refine j_iconst (v := 4) hE dX7_rankOf_122 (by decide) ?_
    obtain rfl := Option.some.inj hf
    exact j_iret hE hq rfl rfl dX7_rankOf_123
  refine j_case hf (fun c11 hf => ?_) (fun c11 hf => ?_)
  · refine j_lookup (tgt := 118) hE dX7_rankOf_1 (by decide) (by rw [c11]; try rfl) (by decide) ?_
    refine j_iconst (v := 2) hE dX7_rankOf_118 (by decide) ?_
    obtain rfl := Option.some.inj hf
    exact j_iret hE hq rfl rfl dX7_rankOf_119
  refine j_case hf (fun c12 hf => ?_) (fun c12 hf => ?_)
  · refine j_lookup (tgt := 120) hE dX7_rankOf_1 (by decide) (by rw [c12]; try rfl) (by decide) ?_
    refine j_iconst (v := 3) hE dX7_rankOf_120 (by decide) ?_
    obtain rfl := Option.some.inj hf
    exact j_iret hE hq rfl rfl dX7_rankOf_121
  refine j_case hf (fun c13 hf => ?_) (fun c13 hf => ?_)
  · refine j_lookup (tgt := 116) hE dX7_rankOf_1 (by decide) (by rw [c13]; try rfl) (by decide) ?_
    refine j_iconst (v := 1) hE dX7_rankOf_116 (by decide) ?_
    obtain rfl := Option.some.inj hf
    exact j_iret hE hq rfl rfl dX7_rankOf_117
  have t_c1 : 42 ≠ Int32.toInt x0 := fun h => c1 (Int32.toInt_inj.mp (h.symm.trans (by decide)))
  have t_c2 : 43 ≠ Int32.toInt x0 := fun h => c2 (Int32.toInt_inj.mp (h.symm.trans (by decide)))
  have t_c3 : 45 ≠ Int32.toInt x0 := fun h => c3 (Int32.toInt_inj.mp (h.symm.trans (by decide)))
  have t_c4 : 47 ≠ Int32.toInt x0 := fun h => c4 (Int32.toInt_inj.mp (h.symm.trans (by decide)))
  have t_c5 : 60 ≠ Int32.toInt x0 := fun h => c5 (Int32.toInt_inj.mp (h.symm.trans (by decide)))
  have t_c6 : 61 ≠ Int32.toInt x0 := fun h => c6 (Int32.toInt_inj.mp (h.symm.trans (by decide)))
  have t_c7 : 62 ≠ Int32.toInt x0 := fun h => c7 (Int32.toInt_inj.mp (h.symm.trans (by decide)))
  have t_c8 : 256 ≠ Int32.toInt x0 := fun h => c8 (Int32.toInt_inj.mp (h.symm.trans (by decide)))
  have t_c9 : 257 ≠ Int32.toInt x0 := fun h => c9 (Int32.toInt_inj.mp (h.symm.trans (by decide)))
  have t_c10 : 258 ≠ Int32.toInt x0 := fun h => c10 (Int32.toInt_inj.mp (h.symm.trans (by decide)))
  have t_c11 : 48365568 ≠ Int32.toInt x0 := fun h => c11 (Int32.toInt_inj.mp (h.symm.trans (by decide)))
  have t_c12 : 486146048 ≠ Int32.toInt x0 := fun h => c12 (Int32.toInt_inj.mp (h.symm.trans (by decide)))
  have t_c13 : 522190848 ≠ Int32.toInt x0 := fun h => c13 (Int32.toInt_inj.mp (h.symm.trans (by decide)))
  refine j_lookup (off := 128) (tgt := 129) hE dX7_rankOf_1 (by decide) (by simp [Op.lookupswitch.offset, t_c1, t_c2, t_c3, t_c4, t_c5, t_c6, t_c7, t_c8, t_c9, t_c10, t_c11, t_c12, t_c13]) (by decide) ?_
  refine j_iconst (v := 0) hE dX7_rankOf_129 (by decide) ?_
  obtain rfl := Option.some.inj hf
  exact j_iret hE hq rfl rfl dX7_rankOf_130
def rm_Reader_layDown : Room := { frames := 1, cells := 0, slots := 0, locals := 21 }
def f_Reader_layDown_0  (x2 : Int32)  : Nat → jZ → jZ → Option (jZ × jZ)
  | 0, _, _ => none
  | n + 1, re_z, ru_z => (if (re_z 5 0) ≤ 0 then some (re_z, ru_z)
    else (if 72 < (re_z 5 0) then some (re_z, ru_z)
    else (ix ((re_z 5 0) - 1) 72).bind fun _ => (f_Reader_rankOf (re_z 3 (Int32.toNatClampNeg ((re_z 5 0) - 1)))).bind fun q4 => (if q4 < x2 then some (re_z, ru_z)
    else (ix ((re_z 5 0) - 1) 72).bind fun _ => (f_Rule_add ru_z (re_z 3 (Int32.toNatClampNeg ((re_z 5 0) - 1)))).bind fun q8 => f_Reader_layDown_0 x2 n (up2 re_z 5 0 ((re_z 5 0) - 1)) q8)))
def f_Reader_layDown (re_z : jZ) (ru_z : jZ) (x2 : Int32) : Option (jZ × jZ) := f_Reader_layDown_0 x2 FU re_z ru_z
set_option maxRecDepth 100000 in
theorem j_Reader_layDown_0 (E : jT) (g : jG) (a : Nat → Nat) (b : Nat → Nat) (ta_z : jZ) (ru_y : jY) (x2 : Int32) (res : jZ × jZ) (hE : jOk E g RX7 cX7_layDown 3 (none : Option Jvm.ClassFile.FieldType) rm_Reader_layDown) (hq : jEnd E g none (([n_Reader g a res.1, n_Tape g (fun i => a (i + 3)) ta_z, n_Rule g b res.2 ru_y] : List va_W)) 0 0)  : ∀ (n : Nat) (re_z : jZ) (ru_z : jZ), f_Reader_layDown_0 x2 n re_z ru_z = some res → J E g 0 0 (([n_Reader g a re_z, n_Tape g (fun i => a (i + 3)) ta_z, n_Rule g b ru_z ru_y] : List va_W)) [(0, .ref (a 0)), (1, .ref (b 0)), (2, .int x2)] 0 [] := by
  intro n
  induction n with
  | zero =>
    intro re_z ru_z hf
    rw [f_Reader_layDown_0] at hf
    cases hf
  | succ n ih =>
    intro re_z ru_z hf
    rw [f_Reader_layDown_0] at hf
    refine j_aload_n hE dX7_layDown_0 rfl 0 rfl ?_
    refine j_get (v := .int (re_z 5 0)) hE lg_Reader_33 0 rfl 0 (wg_Reader_0 g a re_z) rfl dX7_layDown_1 ?_
    refine j_if_le (tgt := 65) hE hf dX7_layDown_4 (by decide) (fun c1 hf => ?_) (fun c1 hf => ?_)
    · obtain rfl := Option.some.inj hf
      exact j_vret hE hq rfl rfl dX7_layDown_65
    · refine j_aload_n hE dX7_layDown_7 rfl 0 rfl ?_
      refine j_get (v := .int (re_z 5 0)) hE lg_Reader_33 0 rfl 0 (wg_Reader_0 g a re_z) rfl dX7_layDown_8 ?_
      refine j_aload_n hE dX7_layDown_11 rfl 0 rfl ?_
      refine j_get (v := .ref (a 1)) hE lg_Reader_25 0 rfl 0 (wg_Reader_0 g a re_z) rfl dX7_layDown_12 ?_
      refine j_alen (v := 72) (t0 := 1) hE 0 rfl 1 (wg_Reader_1 g a re_z) rfl rfl dX7_layDown_15 ?_
      refine j_icmp_gt (tgt := 65) hE hf dX7_layDown_16 (by decide) (fun c2 hf => ?_) (fun c2 hf => ?_)
      · obtain rfl := Option.some.inj hf
        exact j_vret hE hq rfl rfl dX7_layDown_65
      · refine j_aload_n hE dX7_layDown_19 rfl 0 rfl ?_
        refine j_get (v := .ref (a 1)) hE lg_Reader_25 0 rfl 0 (wg_Reader_0 g a re_z) rfl dX7_layDown_20 ?_
        refine j_aload_n hE dX7_layDown_23 rfl 0 rfl ?_
        refine j_get (v := .int (re_z 5 0)) hE lg_Reader_33 0 rfl 0 (wg_Reader_0 g a re_z) rfl dX7_layDown_24 ?_
        refine j_iconst (v := 1) hE dX7_layDown_27 (by decide) ?_
        refine j_isub hE dX7_layDown_28 ?_
        refine j_iald hE hf 0 rfl 1 (wg_Reader_1 g a re_z) dX7_layDown_29 (fun hf => ?_)
        obtain ⟨q4, hc5, hf⟩ := bind_of hf
        refine j_callS (ws' := ([n_Reader g a re_z, n_Tape g (fun i => a (i + 3)) ta_z, n_Rule g b ru_z ru_y] : List va_W)) (As := [.int (re_z 3 (Int32.toNatClampNeg ((re_z 5 0) - 1)))]) (rest := []) (st2 := [.int q4]) hE (fun l => c_Reader_rankOf l g (re_z 3 (Int32.toNatClampNeg ((re_z 5 0) - 1))) q4 hc5) cd_X7_rankOf st_X7_rankOf ml_Reader_236 rfl rfl ⟨⟨Nat.le_of_ble_eq_true rfl, Nat.le_of_ble_eq_true rfl⟩, ⟨Nat.zero_le _, Nat.zero_le _⟩, rfl, rfl⟩ [] rfl rfl rfl (Nat.le_of_ble_eq_true rfl) rfl dX7_layDown_30 ?_
        refine j_iload_n hE dX7_layDown_33 rfl 2 rfl ?_
        refine j_icmp_lt (tgt := 65) hE hf dX7_layDown_34 (by decide) (fun c6 hf => ?_) (fun c6 hf => ?_)
        · obtain rfl := Option.some.inj hf
          exact j_vret hE hq rfl rfl dX7_layDown_65
        · refine j_aload_n hE dX7_layDown_37 rfl 1 rfl ?_
          refine j_aload_n hE dX7_layDown_38 rfl 0 rfl ?_
          refine j_get (v := .ref (a 1)) hE lg_Reader_25 0 rfl 0 (wg_Reader_0 g a re_z) rfl dX7_layDown_39 ?_
          refine j_aload_n hE dX7_layDown_42 rfl 0 rfl ?_
          refine j_get (v := .int (re_z 5 0)) hE lg_Reader_33 0 rfl 0 (wg_Reader_0 g a re_z) rfl dX7_layDown_43 ?_
          refine j_iconst (v := 1) hE dX7_layDown_46 (by decide) ?_
          refine j_isub hE dX7_layDown_47 ?_
          refine j_iald hE hf 0 rfl 1 (wg_Reader_1 g a re_z) dX7_layDown_48 (fun hf => ?_)
          obtain ⟨q8, hc9, hf⟩ := bind_of hf
          refine j_callV (ws' := ([n_Reader g a re_z, n_Tape g (fun i => a (i + 3)) ta_z, n_Rule g b q8 ru_y] : List va_W)) (As := [.int (re_z 3 (Int32.toNatClampNeg ((re_z 5 0) - 1)))]) (rest := []) (st2 := []) hE (fun l => c_Rule_add l g b ru_z ru_y (re_z 3 (Int32.toNatClampNeg ((re_z 5 0) - 1))) q8 hc9) cd_X9_add cv_X9_add ml_Reader_239 rfl rfl rfl (wg_Rule_0 _ _ _ _) ⟨⟨Nat.le_of_ble_eq_true rfl, Nat.le_of_ble_eq_true rfl⟩, ⟨Nat.zero_le _, Nat.zero_le _⟩, rfl, rfl⟩ [2] rfl rfl rfl (Nat.le_of_ble_eq_true rfl) rfl dX7_layDown_49 ?_
          refine j_aload_n hE dX7_layDown_52 rfl 0 rfl ?_
          refine j_dup hE dX7_layDown_53 rfl ?_
          refine j_get (v := .int (re_z 5 0)) hE lg_Reader_33 0 rfl 0 (wg_Reader_0 g a re_z) rfl dX7_layDown_54 ?_
          refine j_iconst (v := 1) hE dX7_layDown_57 (by decide) ?_
          refine j_isub hE dX7_layDown_58 ?_
          refine j_put (v := .int ((re_z 5 0) - 1)) (ws' := ([n_Reader g a (up2 re_z 5 0 ((re_z 5 0) - 1)), n_Tape g (fun i => a (i + 3)) ta_z, n_Rule g b q8 ru_y] : List va_W)) hE lp_Reader_33 0 rfl 0 (wg_Reader_0 g a re_z) rfl rfl (Nat.le_of_ble_eq_true rfl) (wp_Reader_5 g a re_z ((re_z 5 0) - 1)) rfl dX7_layDown_59 ?_
          refine j_goto (tgt := 0) hE dX7_layDown_62 (by decide) ?_
          exact ih (up2 re_z 5 0 ((re_z 5 0) - 1)) q8 hf
set_option maxRecDepth 100000 in
theorem c_Reader_layDown (l : Launch) (g : jG) (a : Nat → Nat) (b : Nat → Nat) (re_z : jZ) (ta_z : jZ) (ru_z : jZ) (ru_y : jY) (x2 : Int32) (res : jZ × jZ) (hf : f_Reader_layDown re_z ru_z x2 = some res) : MC l g yX7_layDown cX7_layDown 3 (none : Option Jvm.ClassFile.FieldType) rm_Reader_layDown [.ref (a 0), .ref (b 0), .int x2] (([n_Reader g a re_z, n_Tape g (fun i => a (i + 3)) ta_z, n_Rule g b ru_z ru_y] : List va_W)) none (([n_Reader g a res.1, n_Tape g (fun i => a (i + 3)) ta_z, n_Rule g b res.2 ru_y] : List va_W)) 0 0 := by
  refine MC_of (own := RX7) (lv := [(0, .ref (a 0)), (1, .ref (b 0)), (2, .int x2)]) (by decide) rfl (Nat.le_of_ble_eq_true rfl) rfl rfl (fun E hE hq => ?_)
  unfold f_Reader_layDown at hf
  exact j_Reader_layDown_0 E g a b ta_z ru_y x2 res hE hq FU re_z ru_z hf
def rm_Reader_putClose : Room := { frames := 2, cells := 0, slots := 0, locals := 43 }
def f_Reader_putClose (re_z : jZ) (ta_z : jZ) (ru_z : jZ)  : Option (jZ × jZ × Int32) := (if 0 < (re_z 6 0) then (f_Reader_layDown re_z ru_z 1).bind fun q2 => some ((up2 (up2 q2.1 5 0 ((q2.1 5 0) - 1)) 6 0 ((q2.1 6 0) - 1)), q2.2, 1)
    else (f_Reader_stop re_z ta_z 1).bind fun q4 => (bz q4.2).bind fun _ => some (q4.1, ru_z, q4.2))
set_option maxRecDepth 100000 in
theorem c_Reader_putClose (l : Launch) (g : jG) (a : Nat → Nat) (b : Nat → Nat) (re_z : jZ) (ta_z : jZ) (ru_z : jZ) (ru_y : jY)  (res : jZ × jZ × Int32) (hf : f_Reader_putClose re_z ta_z ru_z = some res) : MC l g yX7_putClose cX7_putClose 2 (some .boolean) rm_Reader_putClose [.ref (a 0), .ref (b 0)] (([n_Reader g a re_z, n_Tape g (fun i => a (i + 3)) ta_z, n_Rule g b ru_z ru_y] : List va_W)) (some (.int res.2.2)) (([n_Reader g a res.1, n_Tape g (fun i => a (i + 3)) ta_z, n_Rule g b res.2.1 ru_y] : List va_W)) 0 0 := by
  refine MC_of (own := RX7) (lv := [(0, .ref (a 0)), (1, .ref (b 0))]) (by decide) rfl (Nat.le_of_ble_eq_true rfl) rfl rfl (fun E hE hq => ?_)
  unfold f_Reader_putClose at hf
  refine j_aload_n hE dX7_putClose_0 rfl 0 rfl ?_
  refine j_get (v := .int (re_z 6 0)) hE lg_Reader_36 0 rfl 0 (wg_Reader_0 g a re_z) rfl dX7_putClose_1 ?_
  refine j_if_gt (tgt := 13) hE hf dX7_putClose_4 (by decide) (fun c1 hf => ?_) (fun c1 hf => ?_)
  · refine j_aload_n hE dX7_putClose_13 rfl 0 rfl ?_
    refine j_aload_n hE dX7_putClose_14 rfl 1 rfl ?_
    refine j_iconst (v := 1) hE dX7_putClose_15 (by decide) ?_
    obtain ⟨q2, hc3, hf⟩ := bind_of hf
    refine j_callV (ws' := ([n_Reader g a q2.1, n_Tape g (fun i => a (i + 3)) ta_z, n_Rule g b q2.2 ru_y] : List va_W)) (As := [.ref (b 0), .int 1]) (rest := []) (st2 := []) hE (fun l => c_Reader_layDown l g a b re_z ta_z ru_z ru_y 1 q2 hc3) cd_X7_layDown cv_X7_layDown ml_Reader_203 rfl rfl rfl (wg_Reader_0 _ _ _) ⟨⟨Nat.le_of_ble_eq_true rfl, Nat.le_of_ble_eq_true rfl⟩, ⟨Nat.zero_le _, Nat.zero_le _⟩, rfl, rfl⟩ [0, 1, 2] rfl rfl rfl (Nat.le_of_ble_eq_true rfl) rfl dX7_putClose_16 ?_
    refine j_aload_n hE dX7_putClose_19 rfl 0 rfl ?_
    refine j_dup hE dX7_putClose_20 rfl ?_
    refine j_get (v := .int (q2.1 5 0)) hE lg_Reader_33 0 rfl 0 (wg_Reader_0 g a q2.1) rfl dX7_putClose_21 ?_
    refine j_iconst (v := 1) hE dX7_putClose_24 (by decide) ?_
    refine j_isub hE dX7_putClose_25 ?_
    refine j_put (v := .int ((q2.1 5 0) - 1)) (ws' := ([n_Reader g a (up2 q2.1 5 0 ((q2.1 5 0) - 1)), n_Tape g (fun i => a (i + 3)) ta_z, n_Rule g b q2.2 ru_y] : List va_W)) hE lp_Reader_33 0 rfl 0 (wg_Reader_0 g a q2.1) rfl rfl (Nat.le_of_ble_eq_true rfl) (wp_Reader_5 g a q2.1 ((q2.1 5 0) - 1)) rfl dX7_putClose_26 ?_
    refine j_aload_n hE dX7_putClose_29 rfl 0 rfl ?_
    refine j_dup hE dX7_putClose_30 rfl ?_
    refine j_get (v := .int (q2.1 6 0)) hE lg_Reader_36 0 rfl 0 (wg_Reader_0 g a (up2 q2.1 5 0 ((q2.1 5 0) - 1))) rfl dX7_putClose_31 ?_
    refine j_iconst (v := 1) hE dX7_putClose_34 (by decide) ?_
    refine j_isub hE dX7_putClose_35 ?_
    refine j_put (v := .int ((q2.1 6 0) - 1)) (ws' := ([n_Reader g a (up2 (up2 q2.1 5 0 ((q2.1 5 0) - 1)) 6 0 ((q2.1 6 0) - 1)), n_Tape g (fun i => a (i + 3)) ta_z, n_Rule g b q2.2 ru_y] : List va_W)) hE lp_Reader_36 0 rfl 0 (wg_Reader_0 g a (up2 q2.1 5 0 ((q2.1 5 0) - 1))) rfl rfl (Nat.le_of_ble_eq_true rfl) (wp_Reader_6 g a (up2 q2.1 5 0 ((q2.1 5 0) - 1)) ((q2.1 6 0) - 1)) rfl dX7_putClose_36 ?_
    refine j_iconst (v := 1) hE dX7_putClose_39 (by decide) ?_
    obtain rfl := Option.some.inj hf
    exact j_zret_c hE (Or.inr rfl) hq rfl rfl dX7_putClose_40
  · refine j_aload_n hE dX7_putClose_7 rfl 0 rfl ?_
    refine j_iconst (v := 1) hE dX7_putClose_8 (by decide) ?_
    obtain ⟨q4, hc5, hf⟩ := bind_of hf
    refine j_callV (ws' := ([n_Reader g a q4.1, n_Tape g (fun i => a (i + 3)) ta_z, n_Rule g b ru_z ru_y] : List va_W)) (As := [.int 1]) (rest := []) (st2 := [.int q4.2]) hE (fun l => c_Reader_stop l g a re_z ta_z 1 q4 hc5) cd_X7_stop cv_X7_stop ml_Reader_99 rfl rfl rfl (wg_Reader_0 _ _ _) ⟨⟨Nat.le_of_ble_eq_true rfl, Nat.le_of_ble_eq_true rfl⟩, ⟨Nat.zero_le _, Nat.zero_le _⟩, rfl, rfl⟩ [0, 1] rfl rfl rfl (Nat.le_of_ble_eq_true rfl) rfl dX7_putClose_9 ?_
    obtain ⟨b6, hf⟩ := bz_of hf
    obtain rfl := Option.some.inj hf
    exact j_zret_c hE b6 hq rfl rfl dX7_putClose_12
def rm_Reader_putOnPile : Room := { frames := 1, cells := 0, slots := 0, locals := 21 }
def f_Reader_putOnPile (re_z : jZ) (ta_z : jZ) (x1 : Int32) : Option (jZ × Int32) := (if 64 ≤ (re_z 7 0) then (f_Reader_stop re_z ta_z 2).bind fun q2 => (bz q2.2).bind fun _ => some (q2.1, q2.2)
    else (if (re_z 5 0) < 0 then (f_Reader_stop re_z ta_z 2).bind fun q6 => (bz q6.2).bind fun _ => some (q6.1, q6.2)
    else (if (re_z 5 0) < 72 then (ix (re_z 5 0) 72).bind fun _ => some ((up2 (up2 (up2 re_z 7 0 ((re_z 7 0) + 1)) 3 (Int32.toNatClampNeg (re_z 5 0)) x1) 5 0 ((re_z 5 0) + 1)), 1)
    else (f_Reader_stop re_z ta_z 2).bind fun q10 => (bz q10.2).bind fun _ => some (q10.1, q10.2))))
set_option maxRecDepth 100000 in
theorem c_Reader_putOnPile (l : Launch) (g : jG) (a : Nat → Nat) (re_z : jZ) (ta_z : jZ) (x1 : Int32) (res : jZ × Int32) (hf : f_Reader_putOnPile re_z ta_z x1 = some res) : MC l g yX7_putOnPile cX7_putOnPile 2 (some .boolean) rm_Reader_putOnPile [.ref (a 0), .int x1] (([n_Reader g a re_z, n_Tape g (fun i => a (i + 3)) ta_z] : List va_W)) (some (.int res.2)) (([n_Reader g a res.1, n_Tape g (fun i => a (i + 3)) ta_z] : List va_W)) 0 0 := by
  refine MC_of (own := RX7) (lv := [(0, .ref (a 0)), (1, .int x1)]) (by decide) rfl (Nat.le_of_ble_eq_true rfl) rfl rfl (fun E hE hq => ?_)
  unfold f_Reader_putOnPile at hf
  refine j_aload_n hE dX7_putOnPile_0 rfl 0 rfl ?_
  refine j_get (v := .int (re_z 7 0)) hE lg_Reader_39 0 rfl 0 (wg_Reader_0 g a re_z) rfl dX7_putOnPile_1 ?_
  refine j_bipush (v := 64) hE dX7_putOnPile_4 (by decide) ?_
  refine j_icmp_ge (tgt := 28) hE hf dX7_putOnPile_6 (by decide) (fun c1 hf => ?_) (fun c1 hf => ?_)
  · refine j_aload_n hE dX7_putOnPile_28 rfl 0 rfl ?_
    refine j_iconst (v := 2) hE dX7_putOnPile_29 (by decide) ?_
    obtain ⟨q2, hc3, hf⟩ := bind_of hf
    refine j_callV (ws' := ([n_Reader g a q2.1, n_Tape g (fun i => a (i + 3)) ta_z] : List va_W)) (As := [.int 2]) (rest := []) (st2 := [.int q2.2]) hE (fun l => c_Reader_stop l g a re_z ta_z 2 q2 hc3) cd_X7_stop cv_X7_stop ml_Reader_99 rfl rfl rfl (wg_Reader_0 _ _ _) ⟨⟨Nat.le_of_ble_eq_true rfl, Nat.le_of_ble_eq_true rfl⟩, ⟨Nat.zero_le _, Nat.zero_le _⟩, rfl, rfl⟩ [0, 1] rfl rfl rfl (Nat.le_of_ble_eq_true rfl) rfl dX7_putOnPile_30 ?_
    obtain ⟨b4, hf⟩ := bz_of hf
    obtain rfl := Option.some.inj hf
    exact j_zret_c hE b4 hq rfl rfl dX7_putOnPile_33
  · refine j_aload_n hE dX7_putOnPile_9 rfl 0 rfl ?_
    refine j_get (v := .int (re_z 5 0)) hE lg_Reader_33 0 rfl 0 (wg_Reader_0 g a re_z) rfl dX7_putOnPile_10 ?_
    refine j_if_lt (tgt := 28) hE hf dX7_putOnPile_13 (by decide) (fun c5 hf => ?_) (fun c5 hf => ?_)
    · refine j_aload_n hE dX7_putOnPile_28 rfl 0 rfl ?_
      refine j_iconst (v := 2) hE dX7_putOnPile_29 (by decide) ?_
      obtain ⟨q6, hc7, hf⟩ := bind_of hf
      refine j_callV (ws' := ([n_Reader g a q6.1, n_Tape g (fun i => a (i + 3)) ta_z] : List va_W)) (As := [.int 2]) (rest := []) (st2 := [.int q6.2]) hE (fun l => c_Reader_stop l g a re_z ta_z 2 q6 hc7) cd_X7_stop cv_X7_stop ml_Reader_99 rfl rfl rfl (wg_Reader_0 _ _ _) ⟨⟨Nat.le_of_ble_eq_true rfl, Nat.le_of_ble_eq_true rfl⟩, ⟨Nat.zero_le _, Nat.zero_le _⟩, rfl, rfl⟩ [0, 1] rfl rfl rfl (Nat.le_of_ble_eq_true rfl) rfl dX7_putOnPile_30 ?_
      obtain ⟨b8, hf⟩ := bz_of hf
      obtain rfl := Option.some.inj hf
      exact j_zret_c hE b8 hq rfl rfl dX7_putOnPile_33
    · refine j_aload_n hE dX7_putOnPile_16 rfl 0 rfl ?_
      refine j_get (v := .int (re_z 5 0)) hE lg_Reader_33 0 rfl 0 (wg_Reader_0 g a re_z) rfl dX7_putOnPile_17 ?_
      refine j_aload_n hE dX7_putOnPile_20 rfl 0 rfl ?_
      refine j_get (v := .ref (a 1)) hE lg_Reader_25 0 rfl 0 (wg_Reader_0 g a re_z) rfl dX7_putOnPile_21 ?_
      refine j_alen (v := 72) (t0 := 1) hE 0 rfl 1 (wg_Reader_1 g a re_z) rfl rfl dX7_putOnPile_24 ?_
      refine j_icmp_lt (tgt := 34) hE hf dX7_putOnPile_25 (by decide) (fun c9 hf => ?_) (fun c9 hf => ?_)
      · refine j_aload_n hE dX7_putOnPile_34 rfl 0 rfl ?_
        refine j_dup hE dX7_putOnPile_35 rfl ?_
        refine j_get (v := .int (re_z 7 0)) hE lg_Reader_39 0 rfl 0 (wg_Reader_0 g a re_z) rfl dX7_putOnPile_36 ?_
        refine j_iconst (v := 1) hE dX7_putOnPile_39 (by decide) ?_
        refine j_iadd hE dX7_putOnPile_40 ?_
        refine j_put (v := .int ((re_z 7 0) + 1)) (ws' := ([n_Reader g a (up2 re_z 7 0 ((re_z 7 0) + 1)), n_Tape g (fun i => a (i + 3)) ta_z] : List va_W)) hE lp_Reader_39 0 rfl 0 (wg_Reader_0 g a re_z) rfl rfl (Nat.le_of_ble_eq_true rfl) (wp_Reader_7 g a re_z ((re_z 7 0) + 1)) rfl dX7_putOnPile_41 ?_
        refine j_aload_n hE dX7_putOnPile_44 rfl 0 rfl ?_
        refine j_get (v := .ref (a 1)) hE lg_Reader_25 0 rfl 0 (wg_Reader_0 g a (up2 re_z 7 0 ((re_z 7 0) + 1))) rfl dX7_putOnPile_45 ?_
        refine j_aload_n hE dX7_putOnPile_48 rfl 0 rfl ?_
        refine j_get (v := .int (re_z 5 0)) hE lg_Reader_33 0 rfl 0 (wg_Reader_0 g a (up2 re_z 7 0 ((re_z 7 0) + 1))) rfl dX7_putOnPile_49 ?_
        refine j_iload_n hE dX7_putOnPile_52 rfl 1 rfl ?_
        refine j_iast (ws' := ([n_Reader g a (up2 (up2 re_z 7 0 ((re_z 7 0) + 1)) 3 (Int32.toNatClampNeg (re_z 5 0)) x1), n_Tape g (fun i => a (i + 3)) ta_z] : List va_W)) hE hf 0 rfl 1 (wg_Reader_1 g a (up2 re_z 7 0 ((re_z 7 0) + 1))) (wa_Reader_1 g a (up2 re_z 7 0 ((re_z 7 0) + 1)) (Int32.toNatClampNeg (re_z 5 0)) x1) rfl dX7_putOnPile_53 (fun hf => ?_)
        refine j_aload_n hE dX7_putOnPile_54 rfl 0 rfl ?_
        refine j_dup hE dX7_putOnPile_55 rfl ?_
        refine j_get (v := .int (re_z 5 0)) hE lg_Reader_33 0 rfl 0 (wg_Reader_0 g a (up2 (up2 re_z 7 0 ((re_z 7 0) + 1)) 3 (Int32.toNatClampNeg (re_z 5 0)) x1)) rfl dX7_putOnPile_56 ?_
        refine j_iconst (v := 1) hE dX7_putOnPile_59 (by decide) ?_
        refine j_iadd hE dX7_putOnPile_60 ?_
        refine j_put (v := .int ((re_z 5 0) + 1)) (ws' := ([n_Reader g a (up2 (up2 (up2 re_z 7 0 ((re_z 7 0) + 1)) 3 (Int32.toNatClampNeg (re_z 5 0)) x1) 5 0 ((re_z 5 0) + 1)), n_Tape g (fun i => a (i + 3)) ta_z] : List va_W)) hE lp_Reader_33 0 rfl 0 (wg_Reader_0 g a (up2 (up2 re_z 7 0 ((re_z 7 0) + 1)) 3 (Int32.toNatClampNeg (re_z 5 0)) x1)) rfl rfl (Nat.le_of_ble_eq_true rfl) (wp_Reader_5 g a (up2 (up2 re_z 7 0 ((re_z 7 0) + 1)) 3 (Int32.toNatClampNeg (re_z 5 0)) x1) ((re_z 5 0) + 1)) rfl dX7_putOnPile_61 ?_
        refine j_iconst (v := 1) hE dX7_putOnPile_64 (by decide) ?_
        obtain rfl := Option.some.inj hf
        exact j_zret_c hE (Or.inr rfl) hq rfl rfl dX7_putOnPile_65
      · refine j_aload_n hE dX7_putOnPile_28 rfl 0 rfl ?_
        refine j_iconst (v := 2) hE dX7_putOnPile_29 (by decide) ?_
        obtain ⟨q10, hc11, hf⟩ := bind_of hf
        refine j_callV (ws' := ([n_Reader g a q10.1, n_Tape g (fun i => a (i + 3)) ta_z] : List va_W)) (As := [.int 2]) (rest := []) (st2 := [.int q10.2]) hE (fun l => c_Reader_stop l g a re_z ta_z 2 q10 hc11) cd_X7_stop cv_X7_stop ml_Reader_99 rfl rfl rfl (wg_Reader_0 _ _ _) ⟨⟨Nat.le_of_ble_eq_true rfl, Nat.le_of_ble_eq_true rfl⟩, ⟨Nat.zero_le _, Nat.zero_le _⟩, rfl, rfl⟩ [0, 1] rfl rfl rfl (Nat.le_of_ble_eq_true rfl) rfl dX7_putOnPile_30 ?_
        obtain ⟨b12, hf⟩ := bz_of hf
        obtain rfl := Option.some.inj hf
        exact j_zret_c hE b12 hq rfl rfl dX7_putOnPile_33
def rm_Reader_readBehind : Room := { frames := 3, cells := 0, slots := 0, locals := 64 }
def f_Reader_readBehind_157 (ta_z : jZ)   (re_z : jZ) (ru_z : jZ) (v3 : Int32) : Option (jZ × jZ × Int32) := (if 2 < v3 then (f_Reader_putOnPile (up2 (up2 re_z 9 0 0) 8 0 1) ta_z (ta_z 5 0)).bind fun q43 => (bz q43.2).bind fun _ => some (q43.1, ru_z, q43.2)
    else (f_Reader_putOnPile (up2 (up2 re_z 9 0 1) 8 0 1) ta_z (ta_z 5 0)).bind fun q46 => (bz q46.2).bind fun _ => some (q46.1, ru_z, q46.2))
def f_Reader_readBehind_127 (ta_z : jZ)   (re_z : jZ) (ru_z : jZ) (v3 : Int32) : Option (jZ × jZ × Int32) := (f_Reader_layDown re_z ru_z v3).bind fun q38 => (if 4 < v3 then f_Reader_readBehind_157 ta_z q38.1 q38.2 v3
    else (if v3 = 4 then (ix (q38.1 6 0) 9).bind fun _ => f_Reader_readBehind_157 ta_z (up2 q38.1 4 (Int32.toNatClampNeg (q38.1 6 0)) 1) q38.2 v3
    else (ix (q38.1 6 0) 9).bind fun _ => f_Reader_readBehind_157 ta_z (up2 q38.1 4 (Int32.toNatClampNeg (q38.1 6 0)) 0) q38.2 v3))
def f_Reader_readBehind_99 (ta_z : jZ)   (re_z : jZ) (ru_z : jZ) (s0 : Int32) : Option (jZ × jZ × Int32) := (if s0 = 0 then (f_Reader_stop re_z ta_z 1).bind fun q29 => (bz q29.2).bind fun _ => some (q29.1, ru_z, q29.2)
    else (if s0 = 4 then (ix (re_z 6 0) 9).bind fun _ => (if (re_z 4 (Int32.toNatClampNeg (re_z 6 0))) = 0 then f_Reader_readBehind_127 ta_z re_z ru_z s0
    else (f_Reader_stop re_z ta_z 1).bind fun q35 => (bz q35.2).bind fun _ => some (q35.1, ru_z, q35.2))
    else f_Reader_readBehind_127 ta_z re_z ru_z s0))
def f_Reader_readBehind (re_z : jZ) (ta_z : jZ) (ru_z : jZ)  : Option (jZ × jZ × Int32) := (f_Tape_isSign ta_z 41).bind fun q1 => (if q1 = 0 then (if (re_z 6 0) < 0 then (f_Reader_stop re_z ta_z 2).bind fun q5 => (bz q5.2).bind fun _ => some (q5.1, ru_z, q5.2)
    else (if (re_z 6 0) ≤ 8 then (if (ta_z 4 0) = 3 then (f_Reader_rankOf (ta_z 5 0)).bind fun q10 => f_Reader_readBehind_99 ta_z re_z ru_z q10
    else (f_Tape_isWord ta_z 48365568).bind fun q12 => (if q12 = 0 then (f_Tape_isWord ta_z 522190848).bind fun q17 => (if q17 = 0 then f_Reader_readBehind_99 ta_z re_z ru_z 0
    else (f_Reader_rankOf (ta_z 5 0)).bind fun q20 => f_Reader_readBehind_99 ta_z re_z ru_z q20)
    else (f_Reader_rankOf (ta_z 5 0)).bind fun q15 => f_Reader_readBehind_99 ta_z re_z ru_z q15))
    else (f_Reader_stop re_z ta_z 2).bind fun q22 => (bz q22.2).bind fun _ => some (q22.1, ru_z, q22.2)))
    else (f_Reader_putClose re_z ta_z ru_z).bind fun q25 => (bz q25.2.2).bind fun _ => some (q25.1, q25.2.1, q25.2.2))
set_option maxRecDepth 100000 in
theorem j_Reader_readBehind_157 (E : jT) (g : jG) (a : Nat → Nat) (b : Nat → Nat) (ta_z : jZ) (ru_y : jY)  (res : jZ × jZ × Int32) (hE : jOk E g RX7 cX7_readBehind 4 (some .boolean) rm_Reader_readBehind) (hq : jEnd E g (some (.int res.2.2)) (([n_Reader g a res.1, n_Tape g (fun i => a (i + 3)) ta_z, n_Rule g b res.2.1 ru_y] : List va_W)) 0 0)  (re_z : jZ) (ru_z : jZ) (v3 : Int32) (hf : f_Reader_readBehind_157 ta_z re_z ru_z v3 = some res) : J E g 0 0 (([n_Reader g a re_z, n_Tape g (fun i => a (i + 3)) ta_z, n_Rule g b ru_z ru_y] : List va_W)) [(0, .ref (a 0)), (3, .int v3)] 157 [] := by
  unfold f_Reader_readBehind_157 at hf
  refine j_aload_n hE dX7_readBehind_157 rfl 0 rfl ?_
  refine j_iload_n hE dX7_readBehind_158 rfl 1 rfl ?_
  refine j_iconst (v := 2) hE dX7_readBehind_159 (by decide) ?_
  refine j_icmp_gt (tgt := 167) hE hf dX7_readBehind_160 (by decide) (fun c42 hf => ?_) (fun c42 hf => ?_)
  · refine j_iconst (v := 0) hE dX7_readBehind_167 (by decide) ?_
    refine j_put (v := .int 0) (ws' := ([n_Reader g a (up2 re_z 9 0 0), n_Tape g (fun i => a (i + 3)) ta_z, n_Rule g b ru_z ru_y] : List va_W)) hE lp_Reader_46 0 rfl 0 (wg_Reader_0 g a re_z) (by decide +kernel) (by decide +kernel) (Nat.le_of_ble_eq_true rfl) (wp_Reader_9 g a re_z 0) rfl dX7_readBehind_168 ?_
    refine j_aload_n hE dX7_readBehind_171 rfl 0 rfl ?_
    refine j_iconst (v := 1) hE dX7_readBehind_172 (by decide) ?_
    refine j_put (v := .int 1) (ws' := ([n_Reader g a (up2 (up2 re_z 9 0 0) 8 0 1), n_Tape g (fun i => a (i + 3)) ta_z, n_Rule g b ru_z ru_y] : List va_W)) hE lp_Reader_42 0 rfl 0 (wg_Reader_0 g a (up2 re_z 9 0 0)) (by decide +kernel) (by decide +kernel) (Nat.le_of_ble_eq_true rfl) (wp_Reader_8 g a (up2 re_z 9 0 0) 1) rfl dX7_readBehind_173 ?_
    refine j_aload_n hE dX7_readBehind_176 rfl 0 rfl ?_
    refine j_aload_n hE dX7_readBehind_177 rfl 0 rfl ?_
    refine j_get (v := .ref (a 3)) hE lg_Reader_12 0 rfl 0 (wg_Reader_0 g a (up2 (up2 re_z 9 0 0) 8 0 1)) rfl dX7_readBehind_178 ?_
    refine j_get (v := .int (ta_z 5 0)) hE lg_Reader_181 1 rfl 0 (wg_Tape_0 g (fun i => a (i + 3)) ta_z) rfl dX7_readBehind_181 ?_
    obtain ⟨q43, hc44, hf⟩ := bind_of hf
    refine j_callV (ws' := ([n_Reader g a q43.1, n_Tape g (fun i => a (i + 3)) ta_z, n_Rule g b ru_z ru_y] : List va_W)) (As := [.int (ta_z 5 0)]) (rest := []) (st2 := [.int q43.2]) hE (fun l => c_Reader_putOnPile l g a (up2 (up2 re_z 9 0 0) 8 0 1) ta_z (ta_z 5 0) q43 hc44) cd_X7_putOnPile cv_X7_putOnPile ml_Reader_225 rfl rfl rfl (wg_Reader_0 _ _ _) ⟨⟨Nat.le_of_ble_eq_true rfl, Nat.le_of_ble_eq_true rfl⟩, ⟨Nat.zero_le _, Nat.zero_le _⟩, rfl, rfl⟩ [0, 1] rfl rfl rfl (Nat.le_of_ble_eq_true rfl) rfl dX7_readBehind_184 ?_
    obtain ⟨b45, hf⟩ := bz_of hf
    obtain rfl := Option.some.inj hf
    exact j_zret_c hE b45 hq rfl rfl dX7_readBehind_187
  · refine j_iconst (v := 1) hE dX7_readBehind_163 (by decide) ?_
    refine j_goto (tgt := 168) hE dX7_readBehind_164 (by decide) ?_
    refine j_put (v := .int 1) (ws' := ([n_Reader g a (up2 re_z 9 0 1), n_Tape g (fun i => a (i + 3)) ta_z, n_Rule g b ru_z ru_y] : List va_W)) hE lp_Reader_46 0 rfl 0 (wg_Reader_0 g a re_z) (by decide +kernel) (by decide +kernel) (Nat.le_of_ble_eq_true rfl) (wp_Reader_9 g a re_z 1) rfl dX7_readBehind_168 ?_
    refine j_aload_n hE dX7_readBehind_171 rfl 0 rfl ?_
    refine j_iconst (v := 1) hE dX7_readBehind_172 (by decide) ?_
    refine j_put (v := .int 1) (ws' := ([n_Reader g a (up2 (up2 re_z 9 0 1) 8 0 1), n_Tape g (fun i => a (i + 3)) ta_z, n_Rule g b ru_z ru_y] : List va_W)) hE lp_Reader_42 0 rfl 0 (wg_Reader_0 g a (up2 re_z 9 0 1)) (by decide +kernel) (by decide +kernel) (Nat.le_of_ble_eq_true rfl) (wp_Reader_8 g a (up2 re_z 9 0 1) 1) rfl dX7_readBehind_173 ?_
    refine j_aload_n hE dX7_readBehind_176 rfl 0 rfl ?_
    refine j_aload_n hE dX7_readBehind_177 rfl 0 rfl ?_
    refine j_get (v := .ref (a 3)) hE lg_Reader_12 0 rfl 0 (wg_Reader_0 g a (up2 (up2 re_z 9 0 1) 8 0 1)) rfl dX7_readBehind_178 ?_
    refine j_get (v := .int (ta_z 5 0)) hE lg_Reader_181 1 rfl 0 (wg_Tape_0 g (fun i => a (i + 3)) ta_z) rfl dX7_readBehind_181 ?_
    obtain ⟨q46, hc47, hf⟩ := bind_of hf
    refine j_callV (ws' := ([n_Reader g a q46.1, n_Tape g (fun i => a (i + 3)) ta_z, n_Rule g b ru_z ru_y] : List va_W)) (As := [.int (ta_z 5 0)]) (rest := []) (st2 := [.int q46.2]) hE (fun l => c_Reader_putOnPile l g a (up2 (up2 re_z 9 0 1) 8 0 1) ta_z (ta_z 5 0) q46 hc47) cd_X7_putOnPile cv_X7_putOnPile ml_Reader_225 rfl rfl rfl (wg_Reader_0 _ _ _) ⟨⟨Nat.le_of_ble_eq_true rfl, Nat.le_of_ble_eq_true rfl⟩, ⟨Nat.zero_le _, Nat.zero_le _⟩, rfl, rfl⟩ [0, 1] rfl rfl rfl (Nat.le_of_ble_eq_true rfl) rfl dX7_readBehind_184 ?_
    obtain ⟨b48, hf⟩ := bz_of hf
    obtain rfl := Option.some.inj hf
    exact j_zret_c hE b48 hq rfl rfl dX7_readBehind_187
set_option maxRecDepth 100000 in
theorem j_Reader_readBehind_127 (E : jT) (g : jG) (a : Nat → Nat) (b : Nat → Nat) (ta_z : jZ) (ru_y : jY)  (res : jZ × jZ × Int32) (hE : jOk E g RX7 cX7_readBehind 4 (some .boolean) rm_Reader_readBehind) (hq : jEnd E g (some (.int res.2.2)) (([n_Reader g a res.1, n_Tape g (fun i => a (i + 3)) ta_z, n_Rule g b res.2.1 ru_y] : List va_W)) 0 0)  (re_z : jZ) (ru_z : jZ) (v3 : Int32) (hf : f_Reader_readBehind_127 ta_z re_z ru_z v3 = some res) : J E g 0 0 (([n_Reader g a re_z, n_Tape g (fun i => a (i + 3)) ta_z, n_Rule g b ru_z ru_y] : List va_W)) [(0, .ref (a 0)), (1, .ref (b 0)), (3, .int v3)] 127 [] := by
  unfold f_Reader_readBehind_127 at hf
  refine j_aload_n hE dX7_readBehind_127 rfl 0 rfl ?_
  refine j_aload_n hE dX7_readBehind_128 rfl 1 rfl ?_
  refine j_iload_n hE dX7_readBehind_129 rfl 2 rfl ?_
  obtain ⟨q38, hc39, hf⟩ := bind_of hf
  refine j_callV (ws' := ([n_Reader g a q38.1, n_Tape g (fun i => a (i + 3)) ta_z, n_Rule g b q38.2 ru_y] : List va_W)) (As := [.ref (b 0), .int v3]) (rest := []) (st2 := []) hE (fun l => c_Reader_layDown l g a b re_z ta_z ru_z ru_y v3 q38 hc39) cd_X7_layDown cv_X7_layDown ml_Reader_203 rfl rfl rfl (wg_Reader_0 _ _ _) ⟨⟨Nat.le_of_ble_eq_true rfl, Nat.le_of_ble_eq_true rfl⟩, ⟨Nat.zero_le _, Nat.zero_le _⟩, rfl, rfl⟩ [0, 1, 2] rfl rfl rfl (Nat.le_of_ble_eq_true rfl) rfl dX7_readBehind_130 ?_
  refine j_iload_n hE dX7_readBehind_133 rfl 2 rfl ?_
  refine j_iconst (v := 4) hE dX7_readBehind_134 (by decide) ?_
  refine j_icmp_gt (tgt := 157) hE hf dX7_readBehind_135 (by decide) (fun c40 hf => ?_) (fun c40 hf => ?_)
  · exact j_sub [0, 2] rfl (j_Reader_readBehind_157 E g a b ta_z ru_y res hE hq q38.1 q38.2 v3 hf)
  · refine j_aload_n hE dX7_readBehind_138 rfl 0 rfl ?_
    refine j_get (v := .ref (a 2)) hE lg_Reader_29 0 rfl 0 (wg_Reader_0 g a q38.1) rfl dX7_readBehind_139 ?_
    refine j_aload_n hE dX7_readBehind_142 rfl 0 rfl ?_
    refine j_get (v := .int (q38.1 6 0)) hE lg_Reader_36 0 rfl 0 (wg_Reader_0 g a q38.1) rfl dX7_readBehind_143 ?_
    refine j_iload_n hE dX7_readBehind_146 rfl 2 rfl ?_
    refine j_iconst (v := 4) hE dX7_readBehind_147 (by decide) ?_
    refine j_icmp_ne (tgt := 155) hE hf dX7_readBehind_148 (by decide) (fun c41 hf => ?_) (fun c41 hf => ?_)
    · refine j_iconst (v := 0) hE dX7_readBehind_155 (by decide) ?_
      refine j_zast (ws' := ([n_Reader g a (up2 q38.1 4 (Int32.toNatClampNeg (q38.1 6 0)) 0), n_Tape g (fun i => a (i + 3)) ta_z, n_Rule g b q38.2 ru_y] : List va_W)) hE hf 0 rfl 2 (wg_Reader_2 g a q38.1) (wa_Reader_2 g a q38.1 (Int32.toNatClampNeg (q38.1 6 0)) 0) rfl dX7_readBehind_156 (fun hf => ?_)
      exact j_sub [0, 2] rfl (j_Reader_readBehind_157 E g a b ta_z ru_y res hE hq (up2 q38.1 4 (Int32.toNatClampNeg (q38.1 6 0)) 0) q38.2 v3 hf)
    · refine j_iconst (v := 1) hE dX7_readBehind_151 (by decide) ?_
      refine j_goto (tgt := 156) hE dX7_readBehind_152 (by decide) ?_
      refine j_zast (ws' := ([n_Reader g a (up2 q38.1 4 (Int32.toNatClampNeg (q38.1 6 0)) 1), n_Tape g (fun i => a (i + 3)) ta_z, n_Rule g b q38.2 ru_y] : List va_W)) hE hf 0 rfl 2 (wg_Reader_2 g a q38.1) (wa_Reader_2 g a q38.1 (Int32.toNatClampNeg (q38.1 6 0)) 1) rfl dX7_readBehind_156 (fun hf => ?_)
      exact j_sub [0, 2] rfl (j_Reader_readBehind_157 E g a b ta_z ru_y res hE hq (up2 q38.1 4 (Int32.toNatClampNeg (q38.1 6 0)) 1) q38.2 v3 hf)
set_option maxRecDepth 100000 in
theorem j_Reader_readBehind_99 (E : jT) (g : jG) (a : Nat → Nat) (b : Nat → Nat) (ta_z : jZ) (ru_y : jY)  (res : jZ × jZ × Int32) (hE : jOk E g RX7 cX7_readBehind 4 (some .boolean) rm_Reader_readBehind) (hq : jEnd E g (some (.int res.2.2)) (([n_Reader g a res.1, n_Tape g (fun i => a (i + 3)) ta_z, n_Rule g b res.2.1 ru_y] : List va_W)) 0 0)  (re_z : jZ) (ru_z : jZ) (s0 : Int32) (hf : f_Reader_readBehind_99 ta_z re_z ru_z s0 = some res) : J E g 0 0 (([n_Reader g a re_z, n_Tape g (fun i => a (i + 3)) ta_z, n_Rule g b ru_z ru_y] : List va_W)) [(0, .ref (a 0)), (1, .ref (b 0))] 99 [.int s0] := by
  unfold f_Reader_readBehind_99 at hf
  refine j_istore_n (lv' := [(3, .int s0), (0, .ref (a 0)), (1, .ref (b 0))]) hE dX7_readBehind_99 rfl (by decide) rfl ?_
  refine j_iload_n hE dX7_readBehind_100 rfl 0 rfl ?_
  refine j_if_eq (tgt := 121) hE hf dX7_readBehind_101 (by decide) (fun c28 hf => ?_) (fun c28 hf => ?_)
  · refine j_aload_n hE dX7_readBehind_121 rfl 1 rfl ?_
    refine j_iconst (v := 1) hE dX7_readBehind_122 (by decide) ?_
    obtain ⟨q29, hc30, hf⟩ := bind_of hf
    refine j_callV (ws' := ([n_Reader g a q29.1, n_Tape g (fun i => a (i + 3)) ta_z, n_Rule g b ru_z ru_y] : List va_W)) (As := [.int 1]) (rest := []) (st2 := [.int q29.2]) hE (fun l => c_Reader_stop l g a re_z ta_z 1 q29 hc30) cd_X7_stop cv_X7_stop ml_Reader_99 rfl rfl rfl (wg_Reader_0 _ _ _) ⟨⟨Nat.le_of_ble_eq_true rfl, Nat.le_of_ble_eq_true rfl⟩, ⟨Nat.zero_le _, Nat.zero_le _⟩, rfl, rfl⟩ [0, 1] rfl rfl rfl (Nat.le_of_ble_eq_true rfl) rfl dX7_readBehind_123 ?_
    obtain ⟨b31, hf⟩ := bz_of hf
    obtain rfl := Option.some.inj hf
    exact j_zret_c hE b31 hq rfl rfl dX7_readBehind_126
  · refine j_iload_n hE dX7_readBehind_104 rfl 0 rfl ?_
    refine j_iconst (v := 4) hE dX7_readBehind_105 (by decide) ?_
    refine j_icmp_ne (tgt := 127) hE hf dX7_readBehind_106 (by decide) (fun c32 hf => ?_) (fun c32 hf => ?_)
    · exact j_sub [1, 2, 0] rfl (j_Reader_readBehind_127 E g a b ta_z ru_y res hE hq re_z ru_z s0 hf)
    · refine j_aload_n hE dX7_readBehind_109 rfl 1 rfl ?_
      refine j_get (v := .ref (a 2)) hE lg_Reader_29 0 rfl 0 (wg_Reader_0 g a re_z) rfl dX7_readBehind_110 ?_
      refine j_aload_n hE dX7_readBehind_113 rfl 1 rfl ?_
      refine j_get (v := .int (re_z 6 0)) hE lg_Reader_36 0 rfl 0 (wg_Reader_0 g a re_z) rfl dX7_readBehind_114 ?_
      refine j_zald hE hf 0 rfl 2 (wg_Reader_2 g a re_z) dX7_readBehind_117 (fun hf => ?_)
      refine j_if_eq (tgt := 127) hE hf dX7_readBehind_118 (by decide) (fun c34 hf => ?_) (fun c34 hf => ?_)
      · exact j_sub [1, 2, 0] rfl (j_Reader_readBehind_127 E g a b ta_z ru_y res hE hq re_z ru_z s0 hf)
      · refine j_aload_n hE dX7_readBehind_121 rfl 1 rfl ?_
        refine j_iconst (v := 1) hE dX7_readBehind_122 (by decide) ?_
        obtain ⟨q35, hc36, hf⟩ := bind_of hf
        refine j_callV (ws' := ([n_Reader g a q35.1, n_Tape g (fun i => a (i + 3)) ta_z, n_Rule g b ru_z ru_y] : List va_W)) (As := [.int 1]) (rest := []) (st2 := [.int q35.2]) hE (fun l => c_Reader_stop l g a re_z ta_z 1 q35 hc36) cd_X7_stop cv_X7_stop ml_Reader_99 rfl rfl rfl (wg_Reader_0 _ _ _) ⟨⟨Nat.le_of_ble_eq_true rfl, Nat.le_of_ble_eq_true rfl⟩, ⟨Nat.zero_le _, Nat.zero_le _⟩, rfl, rfl⟩ [0, 1] rfl rfl rfl (Nat.le_of_ble_eq_true rfl) rfl dX7_readBehind_123 ?_
        obtain ⟨b37, hf⟩ := bz_of hf
        obtain rfl := Option.some.inj hf
        exact j_zret_c hE b37 hq rfl rfl dX7_readBehind_126
set_option maxRecDepth 100000 in
theorem c_Reader_readBehind (l : Launch) (g : jG) (a : Nat → Nat) (b : Nat → Nat) (re_z : jZ) (ta_z : jZ) (ru_z : jZ) (ru_y : jY)  (res : jZ × jZ × Int32) (hf : f_Reader_readBehind re_z ta_z ru_z = some res) : MC l g yX7_readBehind cX7_readBehind 4 (some .boolean) rm_Reader_readBehind [.ref (a 0), .ref (b 0)] (([n_Reader g a re_z, n_Tape g (fun i => a (i + 3)) ta_z, n_Rule g b ru_z ru_y] : List va_W)) (some (.int res.2.2)) (([n_Reader g a res.1, n_Tape g (fun i => a (i + 3)) ta_z, n_Rule g b res.2.1 ru_y] : List va_W)) 0 0 := by
  refine MC_of (own := RX7) (lv := [(0, .ref (a 0)), (1, .ref (b 0))]) (by decide) rfl (Nat.le_of_ble_eq_true rfl) rfl rfl (fun E hE hq => ?_)
  unfold f_Reader_readBehind at hf
  refine j_aload_n hE dX7_readBehind_0 rfl 0 rfl ?_
  refine j_get (v := .ref (a 3)) hE lg_Reader_12 0 rfl 0 (wg_Reader_0 g a re_z) rfl dX7_readBehind_1 ?_
  refine j_bipush (v := 41) hE dX7_readBehind_4 (by decide) ?_
  obtain ⟨q1, hc2, hf⟩ := bind_of hf
  refine j_callV (ws' := ([n_Reader g a re_z, n_Tape g (fun i => a (i + 3)) ta_z, n_Rule g b ru_z ru_y] : List va_W)) (As := [.int 41]) (rest := []) (st2 := [.int q1]) hE (fun l => c_Tape_isSign l g (fun i => a (i + 3)) ta_z 41 q1 hc2) cd_X10_isSign cv_X10_isSign ml_Reader_109 rfl rfl rfl (wg_Tape_0 _ _ _) ⟨⟨Nat.le_of_ble_eq_true rfl, Nat.le_of_ble_eq_true rfl⟩, ⟨Nat.zero_le _, Nat.zero_le _⟩, rfl, rfl⟩ [1] rfl rfl rfl (Nat.le_of_ble_eq_true rfl) rfl dX7_readBehind_6 ?_
  refine j_if_eq (tgt := 18) hE hf dX7_readBehind_9 (by decide) (fun c3 hf => ?_) (fun c3 hf => ?_)
  · refine j_aload_n hE dX7_readBehind_18 rfl 0 rfl ?_
    refine j_get (v := .int (re_z 6 0)) hE lg_Reader_36 0 rfl 0 (wg_Reader_0 g a re_z) rfl dX7_readBehind_19 ?_
    refine j_if_lt (tgt := 34) hE hf dX7_readBehind_22 (by decide) (fun c4 hf => ?_) (fun c4 hf => ?_)
    · refine j_aload_n hE dX7_readBehind_34 rfl 0 rfl ?_
      refine j_iconst (v := 2) hE dX7_readBehind_35 (by decide) ?_
      obtain ⟨q5, hc6, hf⟩ := bind_of hf
      refine j_callV (ws' := ([n_Reader g a q5.1, n_Tape g (fun i => a (i + 3)) ta_z, n_Rule g b ru_z ru_y] : List va_W)) (As := [.int 2]) (rest := []) (st2 := [.int q5.2]) hE (fun l => c_Reader_stop l g a re_z ta_z 2 q5 hc6) cd_X7_stop cv_X7_stop ml_Reader_99 rfl rfl rfl (wg_Reader_0 _ _ _) ⟨⟨Nat.le_of_ble_eq_true rfl, Nat.le_of_ble_eq_true rfl⟩, ⟨Nat.zero_le _, Nat.zero_le _⟩, rfl, rfl⟩ [0, 1] rfl rfl rfl (Nat.le_of_ble_eq_true rfl) rfl dX7_readBehind_36 ?_
      obtain ⟨b7, hf⟩ := bz_of hf
      obtain rfl := Option.some.inj hf
      exact j_zret_c hE b7 hq rfl rfl dX7_readBehind_39
    · refine j_aload_n hE dX7_readBehind_25 rfl 0 rfl ?_
      refine j_get (v := .int (re_z 6 0)) hE lg_Reader_36 0 rfl 0 (wg_Reader_0 g a re_z) rfl dX7_readBehind_26 ?_
      refine j_bipush (v := 8) hE dX7_readBehind_29 (by decide) ?_
      refine j_icmp_le (tgt := 40) hE hf dX7_readBehind_31 (by decide) (fun c8 hf => ?_) (fun c8 hf => ?_)
      · refine j_aload_n hE dX7_readBehind_40 rfl 0 rfl ?_
        refine j_get (v := .ref (a 3)) hE lg_Reader_12 0 rfl 0 (wg_Reader_0 g a re_z) rfl dX7_readBehind_41 ?_
        refine j_get (v := .int (ta_z 4 0)) hE lg_Reader_58 1 rfl 0 (wg_Tape_0 g (fun i => a (i + 3)) ta_z) rfl dX7_readBehind_44 ?_
        refine j_iconst (v := 3) hE dX7_readBehind_47 (by decide) ?_
        refine j_icmp_eq (tgt := 75) hE hf dX7_readBehind_48 (by decide) (fun c9 hf => ?_) (fun c9 hf => ?_)
        · refine j_iconst (v := 1) hE dX7_readBehind_75 (by decide) ?_
          refine j_goto (tgt := 80) hE dX7_readBehind_76 (by decide) ?_
          refine j_istore_n (lv' := [(2, .int 1), (0, .ref (a 0)), (1, .ref (b 0))]) hE dX7_readBehind_80 rfl (by decide) rfl ?_
          refine j_iload_n hE dX7_readBehind_81 rfl 0 rfl ?_
          refine j_if_eq_f (tgt := 98) hE (by decide) dX7_readBehind_82 (by decide) ?_
          refine j_aload_n hE dX7_readBehind_85 rfl 1 rfl ?_
          refine j_get (v := .ref (a 3)) hE lg_Reader_12 0 rfl 0 (wg_Reader_0 g a re_z) rfl dX7_readBehind_86 ?_
          refine j_get (v := .int (ta_z 5 0)) hE lg_Reader_181 1 rfl 0 (wg_Tape_0 g (fun i => a (i + 3)) ta_z) rfl dX7_readBehind_89 ?_
          obtain ⟨q10, hc11, hf⟩ := bind_of hf
          refine j_callS (ws' := ([n_Reader g a re_z, n_Tape g (fun i => a (i + 3)) ta_z, n_Rule g b ru_z ru_y] : List va_W)) (As := [.int (ta_z 5 0)]) (rest := []) (st2 := [.int q10]) hE (fun l => c_Reader_rankOf l g (ta_z 5 0) q10 hc11) cd_X7_rankOf st_X7_rankOf ml_Reader_236 rfl rfl ⟨⟨Nat.le_of_ble_eq_true rfl, Nat.le_of_ble_eq_true rfl⟩, ⟨Nat.zero_le _, Nat.zero_le _⟩, rfl, rfl⟩ [] rfl rfl rfl (Nat.le_of_ble_eq_true rfl) rfl dX7_readBehind_92 ?_
          refine j_goto (tgt := 99) hE dX7_readBehind_95 (by decide) ?_
          exact j_sub [1, 2] rfl (j_Reader_readBehind_99 E g a b ta_z ru_y res hE hq re_z ru_z q10 hf)
        · refine j_aload_n hE dX7_readBehind_51 rfl 0 rfl ?_
          refine j_get (v := .ref (a 3)) hE lg_Reader_12 0 rfl 0 (wg_Reader_0 g a re_z) rfl dX7_readBehind_52 ?_
          refine j_ldc hE co_Reader_234 dX7_readBehind_55 ?_
          obtain ⟨q12, hc13, hf⟩ := bind_of hf
          refine j_callV (ws' := ([n_Reader g a re_z, n_Tape g (fun i => a (i + 3)) ta_z, n_Rule g b ru_z ru_y] : List va_W)) (As := [.int 48365568]) (rest := []) (st2 := [.int q12]) hE (fun l => c_Tape_isWord l g (fun i => a (i + 3)) ta_z 48365568 q12 hc13) cd_X10_isWord cv_X10_isWord ml_Reader_62 rfl rfl rfl (wg_Tape_0 _ _ _) ⟨⟨Nat.le_of_ble_eq_true rfl, Nat.le_of_ble_eq_true rfl⟩, ⟨Nat.zero_le _, Nat.zero_le _⟩, rfl, rfl⟩ [1] rfl rfl rfl (Nat.le_of_ble_eq_true rfl) rfl dX7_readBehind_57 ?_
          refine j_if_ne (tgt := 75) hE hf dX7_readBehind_60 (by decide) (fun c14 hf => ?_) (fun c14 hf => ?_)
          · refine j_iconst (v := 1) hE dX7_readBehind_75 (by decide) ?_
            refine j_goto (tgt := 80) hE dX7_readBehind_76 (by decide) ?_
            refine j_istore_n (lv' := [(2, .int 1), (0, .ref (a 0)), (1, .ref (b 0))]) hE dX7_readBehind_80 rfl (by decide) rfl ?_
            refine j_iload_n hE dX7_readBehind_81 rfl 0 rfl ?_
            refine j_if_eq_f (tgt := 98) hE (by decide) dX7_readBehind_82 (by decide) ?_
            refine j_aload_n hE dX7_readBehind_85 rfl 1 rfl ?_
            refine j_get (v := .ref (a 3)) hE lg_Reader_12 0 rfl 0 (wg_Reader_0 g a re_z) rfl dX7_readBehind_86 ?_
            refine j_get (v := .int (ta_z 5 0)) hE lg_Reader_181 1 rfl 0 (wg_Tape_0 g (fun i => a (i + 3)) ta_z) rfl dX7_readBehind_89 ?_
            obtain ⟨q15, hc16, hf⟩ := bind_of hf
            refine j_callS (ws' := ([n_Reader g a re_z, n_Tape g (fun i => a (i + 3)) ta_z, n_Rule g b ru_z ru_y] : List va_W)) (As := [.int (ta_z 5 0)]) (rest := []) (st2 := [.int q15]) hE (fun l => c_Reader_rankOf l g (ta_z 5 0) q15 hc16) cd_X7_rankOf st_X7_rankOf ml_Reader_236 rfl rfl ⟨⟨Nat.le_of_ble_eq_true rfl, Nat.le_of_ble_eq_true rfl⟩, ⟨Nat.zero_le _, Nat.zero_le _⟩, rfl, rfl⟩ [] rfl rfl rfl (Nat.le_of_ble_eq_true rfl) rfl dX7_readBehind_92 ?_
            refine j_goto (tgt := 99) hE dX7_readBehind_95 (by decide) ?_
            exact j_sub [1, 2] rfl (j_Reader_readBehind_99 E g a b ta_z ru_y res hE hq re_z ru_z q15 hf)
          · refine j_aload_n hE dX7_readBehind_63 rfl 0 rfl ?_
            refine j_get (v := .ref (a 3)) hE lg_Reader_12 0 rfl 0 (wg_Reader_0 g a re_z) rfl dX7_readBehind_64 ?_
            refine j_ldc hE co_Reader_235 dX7_readBehind_67 ?_
            obtain ⟨q17, hc18, hf⟩ := bind_of hf
            refine j_callV (ws' := ([n_Reader g a re_z, n_Tape g (fun i => a (i + 3)) ta_z, n_Rule g b ru_z ru_y] : List va_W)) (As := [.int 522190848]) (rest := []) (st2 := [.int q17]) hE (fun l => c_Tape_isWord l g (fun i => a (i + 3)) ta_z 522190848 q17 hc18) cd_X10_isWord cv_X10_isWord ml_Reader_62 rfl rfl rfl (wg_Tape_0 _ _ _) ⟨⟨Nat.le_of_ble_eq_true rfl, Nat.le_of_ble_eq_true rfl⟩, ⟨Nat.zero_le _, Nat.zero_le _⟩, rfl, rfl⟩ [1] rfl rfl rfl (Nat.le_of_ble_eq_true rfl) rfl dX7_readBehind_69 ?_
            refine j_if_eq (tgt := 79) hE hf dX7_readBehind_72 (by decide) (fun c19 hf => ?_) (fun c19 hf => ?_)
            · refine j_iconst (v := 0) hE dX7_readBehind_79 (by decide) ?_
              refine j_istore_n (lv' := [(2, .int 0), (0, .ref (a 0)), (1, .ref (b 0))]) hE dX7_readBehind_80 rfl (by decide) rfl ?_
              refine j_iload_n hE dX7_readBehind_81 rfl 0 rfl ?_
              refine j_if_eq_t (tgt := 98) hE (by decide) dX7_readBehind_82 (by decide) ?_
              refine j_iconst (v := 0) hE dX7_readBehind_98 (by decide) ?_
              exact j_sub [1, 2] rfl (j_Reader_readBehind_99 E g a b ta_z ru_y res hE hq re_z ru_z 0 hf)
            · refine j_iconst (v := 1) hE dX7_readBehind_75 (by decide) ?_
              refine j_goto (tgt := 80) hE dX7_readBehind_76 (by decide) ?_
              refine j_istore_n (lv' := [(2, .int 1), (0, .ref (a 0)), (1, .ref (b 0))]) hE dX7_readBehind_80 rfl (by decide) rfl ?_
              refine j_iload_n hE dX7_readBehind_81 rfl 0 rfl ?_
              refine j_if_eq_f (tgt := 98) hE (by decide) dX7_readBehind_82 (by decide) ?_
              refine j_aload_n hE dX7_readBehind_85 rfl 1 rfl ?_
              refine j_get (v := .ref (a 3)) hE lg_Reader_12 0 rfl 0 (wg_Reader_0 g a re_z) rfl dX7_readBehind_86 ?_
              refine j_get (v := .int (ta_z 5 0)) hE lg_Reader_181 1 rfl 0 (wg_Tape_0 g (fun i => a (i + 3)) ta_z) rfl dX7_readBehind_89 ?_
              obtain ⟨q20, hc21, hf⟩ := bind_of hf
              refine j_callS (ws' := ([n_Reader g a re_z, n_Tape g (fun i => a (i + 3)) ta_z, n_Rule g b ru_z ru_y] : List va_W)) (As := [.int (ta_z 5 0)]) (rest := []) (st2 := [.int q20]) hE (fun l => c_Reader_rankOf l g (ta_z 5 0) q20 hc21) cd_X7_rankOf st_X7_rankOf ml_Reader_236 rfl rfl ⟨⟨Nat.le_of_ble_eq_true rfl, Nat.le_of_ble_eq_true rfl⟩, ⟨Nat.zero_le _, Nat.zero_le _⟩, rfl, rfl⟩ [] rfl rfl rfl (Nat.le_of_ble_eq_true rfl) rfl dX7_readBehind_92 ?_
              refine j_goto (tgt := 99) hE dX7_readBehind_95 (by decide) ?_
              exact j_sub [1, 2] rfl (j_Reader_readBehind_99 E g a b ta_z ru_y res hE hq re_z ru_z q20 hf)
      · refine j_aload_n hE dX7_readBehind_34 rfl 0 rfl ?_
        refine j_iconst (v := 2) hE dX7_readBehind_35 (by decide) ?_
        obtain ⟨q22, hc23, hf⟩ := bind_of hf
        refine j_callV (ws' := ([n_Reader g a q22.1, n_Tape g (fun i => a (i + 3)) ta_z, n_Rule g b ru_z ru_y] : List va_W)) (As := [.int 2]) (rest := []) (st2 := [.int q22.2]) hE (fun l => c_Reader_stop l g a re_z ta_z 2 q22 hc23) cd_X7_stop cv_X7_stop ml_Reader_99 rfl rfl rfl (wg_Reader_0 _ _ _) ⟨⟨Nat.le_of_ble_eq_true rfl, Nat.le_of_ble_eq_true rfl⟩, ⟨Nat.zero_le _, Nat.zero_le _⟩, rfl, rfl⟩ [0, 1] rfl rfl rfl (Nat.le_of_ble_eq_true rfl) rfl dX7_readBehind_36 ?_
        obtain ⟨b24, hf⟩ := bz_of hf
        obtain rfl := Option.some.inj hf
        exact j_zret_c hE b24 hq rfl rfl dX7_readBehind_39
  · refine j_aload_n hE dX7_readBehind_12 rfl 0 rfl ?_
    refine j_aload_n hE dX7_readBehind_13 rfl 1 rfl ?_
    obtain ⟨q25, hc26, hf⟩ := bind_of hf
    refine j_callV (ws' := ([n_Reader g a q25.1, n_Tape g (fun i => a (i + 3)) ta_z, n_Rule g b q25.2.1 ru_y] : List va_W)) (As := [.ref (b 0)]) (rest := []) (st2 := [.int q25.2.2]) hE (fun l => c_Reader_putClose l g a b re_z ta_z ru_z ru_y q25 hc26) cd_X7_putClose cv_X7_putClose ml_Reader_231 rfl rfl rfl (wg_Reader_0 _ _ _) ⟨⟨Nat.le_of_ble_eq_true rfl, Nat.le_of_ble_eq_true rfl⟩, ⟨Nat.zero_le _, Nat.zero_le _⟩, rfl, rfl⟩ [0, 1, 2] rfl rfl rfl (Nat.le_of_ble_eq_true rfl) rfl dX7_readBehind_14 ?_
    obtain ⟨b27, hf⟩ := bz_of hf
    obtain rfl := Option.some.inj hf
    exact j_zret_c hE b27 hq rfl rfl dX7_readBehind_17
def rm_Reader_putValue : Room := { frames := 1, cells := 0, slots := 0, locals := 21 }
def f_Reader_putValue (re_z : jZ) (ta_z : jZ) (ru_z : jZ) (x2 : Int32) : Option (jZ × jZ × Int32) := (if (re_z 7 0) < 64 then (f_Rule_add ru_z x2).bind fun q2 => some ((up2 (up2 re_z 7 0 ((re_z 7 0) + 1)) 8 0 0), q2, 1)
    else (f_Reader_stop re_z ta_z 2).bind fun q4 => (bz q4.2).bind fun _ => some (q4.1, ru_z, q4.2))
set_option maxRecDepth 100000 in
theorem c_Reader_putValue (l : Launch) (g : jG) (a : Nat → Nat) (b : Nat → Nat) (re_z : jZ) (ta_z : jZ) (ru_z : jZ) (ru_y : jY) (x2 : Int32) (res : jZ × jZ × Int32) (hf : f_Reader_putValue re_z ta_z ru_z x2 = some res) : MC l g yX7_putValue cX7_putValue 3 (some .boolean) rm_Reader_putValue [.ref (a 0), .ref (b 0), .int x2] (([n_Reader g a re_z, n_Tape g (fun i => a (i + 3)) ta_z, n_Rule g b ru_z ru_y] : List va_W)) (some (.int res.2.2)) (([n_Reader g a res.1, n_Tape g (fun i => a (i + 3)) ta_z, n_Rule g b res.2.1 ru_y] : List va_W)) 0 0 := by
  refine MC_of (own := RX7) (lv := [(0, .ref (a 0)), (1, .ref (b 0)), (2, .int x2)]) (by decide) rfl (Nat.le_of_ble_eq_true rfl) rfl rfl (fun E hE hq => ?_)
  unfold f_Reader_putValue at hf
  refine j_aload_n hE dX7_putValue_0 rfl 0 rfl ?_
  refine j_get (v := .int (re_z 7 0)) hE lg_Reader_39 0 rfl 0 (wg_Reader_0 g a re_z) rfl dX7_putValue_1 ?_
  refine j_bipush (v := 64) hE dX7_putValue_4 (by decide) ?_
  refine j_icmp_lt (tgt := 15) hE hf dX7_putValue_6 (by decide) (fun c1 hf => ?_) (fun c1 hf => ?_)
  · refine j_aload_n hE dX7_putValue_15 rfl 0 rfl ?_
    refine j_dup hE dX7_putValue_16 rfl ?_
    refine j_get (v := .int (re_z 7 0)) hE lg_Reader_39 0 rfl 0 (wg_Reader_0 g a re_z) rfl dX7_putValue_17 ?_
    refine j_iconst (v := 1) hE dX7_putValue_20 (by decide) ?_
    refine j_iadd hE dX7_putValue_21 ?_
    refine j_put (v := .int ((re_z 7 0) + 1)) (ws' := ([n_Reader g a (up2 re_z 7 0 ((re_z 7 0) + 1)), n_Tape g (fun i => a (i + 3)) ta_z, n_Rule g b ru_z ru_y] : List va_W)) hE lp_Reader_39 0 rfl 0 (wg_Reader_0 g a re_z) rfl rfl (Nat.le_of_ble_eq_true rfl) (wp_Reader_7 g a re_z ((re_z 7 0) + 1)) rfl dX7_putValue_22 ?_
    refine j_aload_n hE dX7_putValue_25 rfl 1 rfl ?_
    refine j_iload_n hE dX7_putValue_26 rfl 2 rfl ?_
    obtain ⟨q2, hc3, hf⟩ := bind_of hf
    refine j_callV (ws' := ([n_Reader g a (up2 re_z 7 0 ((re_z 7 0) + 1)), n_Tape g (fun i => a (i + 3)) ta_z, n_Rule g b q2 ru_y] : List va_W)) (As := [.int x2]) (rest := []) (st2 := []) hE (fun l => c_Rule_add l g b ru_z ru_y x2 q2 hc3) cd_X9_add cv_X9_add ml_Reader_239 rfl rfl rfl (wg_Rule_0 _ _ _ _) ⟨⟨Nat.le_of_ble_eq_true rfl, Nat.le_of_ble_eq_true rfl⟩, ⟨Nat.zero_le _, Nat.zero_le _⟩, rfl, rfl⟩ [2] rfl rfl rfl (Nat.le_of_ble_eq_true rfl) rfl dX7_putValue_27 ?_
    refine j_aload_n hE dX7_putValue_30 rfl 0 rfl ?_
    refine j_iconst (v := 0) hE dX7_putValue_31 (by decide) ?_
    refine j_put (v := .int 0) (ws' := ([n_Reader g a (up2 (up2 re_z 7 0 ((re_z 7 0) + 1)) 8 0 0), n_Tape g (fun i => a (i + 3)) ta_z, n_Rule g b q2 ru_y] : List va_W)) hE lp_Reader_42 0 rfl 0 (wg_Reader_0 g a (up2 re_z 7 0 ((re_z 7 0) + 1))) (by decide +kernel) (by decide +kernel) (Nat.le_of_ble_eq_true rfl) (wp_Reader_8 g a (up2 re_z 7 0 ((re_z 7 0) + 1)) 0) rfl dX7_putValue_32 ?_
    refine j_iconst (v := 1) hE dX7_putValue_35 (by decide) ?_
    obtain rfl := Option.some.inj hf
    exact j_zret_c hE (Or.inr rfl) hq rfl rfl dX7_putValue_36
  · refine j_aload_n hE dX7_putValue_9 rfl 0 rfl ?_
    refine j_iconst (v := 2) hE dX7_putValue_10 (by decide) ?_
    obtain ⟨q4, hc5, hf⟩ := bind_of hf
    refine j_callV (ws' := ([n_Reader g a q4.1, n_Tape g (fun i => a (i + 3)) ta_z, n_Rule g b ru_z ru_y] : List va_W)) (As := [.int 2]) (rest := []) (st2 := [.int q4.2]) hE (fun l => c_Reader_stop l g a re_z ta_z 2 q4 hc5) cd_X7_stop cv_X7_stop ml_Reader_99 rfl rfl rfl (wg_Reader_0 _ _ _) ⟨⟨Nat.le_of_ble_eq_true rfl, Nat.le_of_ble_eq_true rfl⟩, ⟨Nat.zero_le _, Nat.zero_le _⟩, rfl, rfl⟩ [0, 1] rfl rfl rfl (Nat.le_of_ble_eq_true rfl) rfl dX7_putValue_11 ?_
    obtain ⟨b6, hf⟩ := bz_of hf
    obtain rfl := Option.some.inj hf
    exact j_zret_c hE b6 hq rfl rfl dX7_putValue_14
def rm_Reader_putOpen : Room := { frames := 1, cells := 0, slots := 0, locals := 21 }
def f_Reader_putOpen (re_z : jZ) (ta_z : jZ)  : Option (jZ × Int32) := (if (re_z 6 0) < 0 then (f_Reader_stop re_z ta_z 2).bind fun q2 => (bz q2.2).bind fun _ => some (q2.1, q2.2)
    else (if 8 ≤ (re_z 6 0) then (f_Reader_stop re_z ta_z 2).bind fun q6 => (bz q6.2).bind fun _ => some (q6.1, q6.2)
    else (if (re_z 5 0) < 0 then (f_Reader_stop re_z ta_z 2).bind fun q10 => (bz q10.2).bind fun _ => some (q10.1, q10.2)
    else (if (re_z 5 0) < 72 then (ix (re_z 5 0) 72).bind fun _ => (ix ((re_z 6 0) + 1) 9).bind fun _ => some ((up2 (up2 (up2 (up2 (up2 re_z 3 (Int32.toNatClampNeg (re_z 5 0)) 40) 5 0 ((re_z 5 0) + 1)) 6 0 ((re_z 6 0) + 1)) 4 (Int32.toNatClampNeg ((re_z 6 0) + 1)) 0) 9 0 1), 1)
    else (f_Reader_stop re_z ta_z 2).bind fun q14 => (bz q14.2).bind fun _ => some (q14.1, q14.2)))))
set_option maxRecDepth 100000 in
theorem c_Reader_putOpen (l : Launch) (g : jG) (a : Nat → Nat) (re_z : jZ) (ta_z : jZ)  (res : jZ × Int32) (hf : f_Reader_putOpen re_z ta_z = some res) : MC l g yX7_putOpen cX7_putOpen 1 (some .boolean) rm_Reader_putOpen [.ref (a 0)] (([n_Reader g a re_z, n_Tape g (fun i => a (i + 3)) ta_z] : List va_W)) (some (.int res.2)) (([n_Reader g a res.1, n_Tape g (fun i => a (i + 3)) ta_z] : List va_W)) 0 0 := by
  refine MC_of (own := RX7) (lv := [(0, .ref (a 0))]) (by decide) rfl (Nat.le_of_ble_eq_true rfl) rfl rfl (fun E hE hq => ?_)
  unfold f_Reader_putOpen at hf
  refine j_aload_n hE dX7_putOpen_0 rfl 0 rfl ?_
  refine j_get (v := .int (re_z 6 0)) hE lg_Reader_36 0 rfl 0 (wg_Reader_0 g a re_z) rfl dX7_putOpen_1 ?_
  refine j_if_lt (tgt := 35) hE hf dX7_putOpen_4 (by decide) (fun c1 hf => ?_) (fun c1 hf => ?_)
  · refine j_aload_n hE dX7_putOpen_35 rfl 0 rfl ?_
    refine j_iconst (v := 2) hE dX7_putOpen_36 (by decide) ?_
    obtain ⟨q2, hc3, hf⟩ := bind_of hf
    refine j_callV (ws' := ([n_Reader g a q2.1, n_Tape g (fun i => a (i + 3)) ta_z] : List va_W)) (As := [.int 2]) (rest := []) (st2 := [.int q2.2]) hE (fun l => c_Reader_stop l g a re_z ta_z 2 q2 hc3) cd_X7_stop cv_X7_stop ml_Reader_99 rfl rfl rfl (wg_Reader_0 _ _ _) ⟨⟨Nat.le_of_ble_eq_true rfl, Nat.le_of_ble_eq_true rfl⟩, ⟨Nat.zero_le _, Nat.zero_le _⟩, rfl, rfl⟩ [0, 1] rfl rfl rfl (Nat.le_of_ble_eq_true rfl) rfl dX7_putOpen_37 ?_
    obtain ⟨b4, hf⟩ := bz_of hf
    obtain rfl := Option.some.inj hf
    exact j_zret_c hE b4 hq rfl rfl dX7_putOpen_40
  · refine j_aload_n hE dX7_putOpen_7 rfl 0 rfl ?_
    refine j_get (v := .int (re_z 6 0)) hE lg_Reader_36 0 rfl 0 (wg_Reader_0 g a re_z) rfl dX7_putOpen_8 ?_
    refine j_bipush (v := 8) hE dX7_putOpen_11 (by decide) ?_
    refine j_icmp_ge (tgt := 35) hE hf dX7_putOpen_13 (by decide) (fun c5 hf => ?_) (fun c5 hf => ?_)
    · refine j_aload_n hE dX7_putOpen_35 rfl 0 rfl ?_
      refine j_iconst (v := 2) hE dX7_putOpen_36 (by decide) ?_
      obtain ⟨q6, hc7, hf⟩ := bind_of hf
      refine j_callV (ws' := ([n_Reader g a q6.1, n_Tape g (fun i => a (i + 3)) ta_z] : List va_W)) (As := [.int 2]) (rest := []) (st2 := [.int q6.2]) hE (fun l => c_Reader_stop l g a re_z ta_z 2 q6 hc7) cd_X7_stop cv_X7_stop ml_Reader_99 rfl rfl rfl (wg_Reader_0 _ _ _) ⟨⟨Nat.le_of_ble_eq_true rfl, Nat.le_of_ble_eq_true rfl⟩, ⟨Nat.zero_le _, Nat.zero_le _⟩, rfl, rfl⟩ [0, 1] rfl rfl rfl (Nat.le_of_ble_eq_true rfl) rfl dX7_putOpen_37 ?_
      obtain ⟨b8, hf⟩ := bz_of hf
      obtain rfl := Option.some.inj hf
      exact j_zret_c hE b8 hq rfl rfl dX7_putOpen_40
    · refine j_aload_n hE dX7_putOpen_16 rfl 0 rfl ?_
      refine j_get (v := .int (re_z 5 0)) hE lg_Reader_33 0 rfl 0 (wg_Reader_0 g a re_z) rfl dX7_putOpen_17 ?_
      refine j_if_lt (tgt := 35) hE hf dX7_putOpen_20 (by decide) (fun c9 hf => ?_) (fun c9 hf => ?_)
      · refine j_aload_n hE dX7_putOpen_35 rfl 0 rfl ?_
        refine j_iconst (v := 2) hE dX7_putOpen_36 (by decide) ?_
        obtain ⟨q10, hc11, hf⟩ := bind_of hf
        refine j_callV (ws' := ([n_Reader g a q10.1, n_Tape g (fun i => a (i + 3)) ta_z] : List va_W)) (As := [.int 2]) (rest := []) (st2 := [.int q10.2]) hE (fun l => c_Reader_stop l g a re_z ta_z 2 q10 hc11) cd_X7_stop cv_X7_stop ml_Reader_99 rfl rfl rfl (wg_Reader_0 _ _ _) ⟨⟨Nat.le_of_ble_eq_true rfl, Nat.le_of_ble_eq_true rfl⟩, ⟨Nat.zero_le _, Nat.zero_le _⟩, rfl, rfl⟩ [0, 1] rfl rfl rfl (Nat.le_of_ble_eq_true rfl) rfl dX7_putOpen_37 ?_
        obtain ⟨b12, hf⟩ := bz_of hf
        obtain rfl := Option.some.inj hf
        exact j_zret_c hE b12 hq rfl rfl dX7_putOpen_40
      · refine j_aload_n hE dX7_putOpen_23 rfl 0 rfl ?_
        refine j_get (v := .int (re_z 5 0)) hE lg_Reader_33 0 rfl 0 (wg_Reader_0 g a re_z) rfl dX7_putOpen_24 ?_
        refine j_aload_n hE dX7_putOpen_27 rfl 0 rfl ?_
        refine j_get (v := .ref (a 1)) hE lg_Reader_25 0 rfl 0 (wg_Reader_0 g a re_z) rfl dX7_putOpen_28 ?_
        refine j_alen (v := 72) (t0 := 1) hE 0 rfl 1 (wg_Reader_1 g a re_z) rfl rfl dX7_putOpen_31 ?_
        refine j_icmp_lt (tgt := 41) hE hf dX7_putOpen_32 (by decide) (fun c13 hf => ?_) (fun c13 hf => ?_)
        · refine j_aload_n hE dX7_putOpen_41 rfl 0 rfl ?_
          refine j_get (v := .ref (a 1)) hE lg_Reader_25 0 rfl 0 (wg_Reader_0 g a re_z) rfl dX7_putOpen_42 ?_
          refine j_aload_n hE dX7_putOpen_45 rfl 0 rfl ?_
          refine j_get (v := .int (re_z 5 0)) hE lg_Reader_33 0 rfl 0 (wg_Reader_0 g a re_z) rfl dX7_putOpen_46 ?_
          refine j_bipush (v := 40) hE dX7_putOpen_49 (by decide) ?_
          refine j_iast (ws' := ([n_Reader g a (up2 re_z 3 (Int32.toNatClampNeg (re_z 5 0)) 40), n_Tape g (fun i => a (i + 3)) ta_z] : List va_W)) hE hf 0 rfl 1 (wg_Reader_1 g a re_z) (wa_Reader_1 g a re_z (Int32.toNatClampNeg (re_z 5 0)) 40) rfl dX7_putOpen_51 (fun hf => ?_)
          refine j_aload_n hE dX7_putOpen_52 rfl 0 rfl ?_
          refine j_dup hE dX7_putOpen_53 rfl ?_
          refine j_get (v := .int (re_z 5 0)) hE lg_Reader_33 0 rfl 0 (wg_Reader_0 g a (up2 re_z 3 (Int32.toNatClampNeg (re_z 5 0)) 40)) rfl dX7_putOpen_54 ?_
          refine j_iconst (v := 1) hE dX7_putOpen_57 (by decide) ?_
          refine j_iadd hE dX7_putOpen_58 ?_
          refine j_put (v := .int ((re_z 5 0) + 1)) (ws' := ([n_Reader g a (up2 (up2 re_z 3 (Int32.toNatClampNeg (re_z 5 0)) 40) 5 0 ((re_z 5 0) + 1)), n_Tape g (fun i => a (i + 3)) ta_z] : List va_W)) hE lp_Reader_33 0 rfl 0 (wg_Reader_0 g a (up2 re_z 3 (Int32.toNatClampNeg (re_z 5 0)) 40)) rfl rfl (Nat.le_of_ble_eq_true rfl) (wp_Reader_5 g a (up2 re_z 3 (Int32.toNatClampNeg (re_z 5 0)) 40) ((re_z 5 0) + 1)) rfl dX7_putOpen_59 ?_
          refine j_aload_n hE dX7_putOpen_62 rfl 0 rfl ?_
          refine j_dup hE dX7_putOpen_63 rfl ?_
          refine j_get (v := .int (re_z 6 0)) hE lg_Reader_36 0 rfl 0 (wg_Reader_0 g a (up2 (up2 re_z 3 (Int32.toNatClampNeg (re_z 5 0)) 40) 5 0 ((re_z 5 0) + 1))) rfl dX7_putOpen_64 ?_
          refine j_iconst (v := 1) hE dX7_putOpen_67 (by decide) ?_
          refine j_iadd hE dX7_putOpen_68 ?_
          refine j_put (v := .int ((re_z 6 0) + 1)) (ws' := ([n_Reader g a (up2 (up2 (up2 re_z 3 (Int32.toNatClampNeg (re_z 5 0)) 40) 5 0 ((re_z 5 0) + 1)) 6 0 ((re_z 6 0) + 1)), n_Tape g (fun i => a (i + 3)) ta_z] : List va_W)) hE lp_Reader_36 0 rfl 0 (wg_Reader_0 g a (up2 (up2 re_z 3 (Int32.toNatClampNeg (re_z 5 0)) 40) 5 0 ((re_z 5 0) + 1))) rfl rfl (Nat.le_of_ble_eq_true rfl) (wp_Reader_6 g a (up2 (up2 re_z 3 (Int32.toNatClampNeg (re_z 5 0)) 40) 5 0 ((re_z 5 0) + 1)) ((re_z 6 0) + 1)) rfl dX7_putOpen_69 ?_
          refine j_aload_n hE dX7_putOpen_72 rfl 0 rfl ?_
          refine j_get (v := .ref (a 2)) hE lg_Reader_29 0 rfl 0 (wg_Reader_0 g a (up2 (up2 (up2 re_z 3 (Int32.toNatClampNeg (re_z 5 0)) 40) 5 0 ((re_z 5 0) + 1)) 6 0 ((re_z 6 0) + 1))) rfl dX7_putOpen_73 ?_
          refine j_aload_n hE dX7_putOpen_76 rfl 0 rfl ?_
          refine j_get (v := .int ((re_z 6 0) + 1)) hE lg_Reader_36 0 rfl 0 (wg_Reader_0 g a (up2 (up2 (up2 re_z 3 (Int32.toNatClampNeg (re_z 5 0)) 40) 5 0 ((re_z 5 0) + 1)) 6 0 ((re_z 6 0) + 1))) rfl dX7_putOpen_77 ?_
          refine j_iconst (v := 0) hE dX7_putOpen_80 (by decide) ?_
          refine j_zast (ws' := ([n_Reader g a (up2 (up2 (up2 (up2 re_z 3 (Int32.toNatClampNeg (re_z 5 0)) 40) 5 0 ((re_z 5 0) + 1)) 6 0 ((re_z 6 0) + 1)) 4 (Int32.toNatClampNeg ((re_z 6 0) + 1)) 0), n_Tape g (fun i => a (i + 3)) ta_z] : List va_W)) hE hf 0 rfl 2 (wg_Reader_2 g a (up2 (up2 (up2 re_z 3 (Int32.toNatClampNeg (re_z 5 0)) 40) 5 0 ((re_z 5 0) + 1)) 6 0 ((re_z 6 0) + 1))) (wa_Reader_2 g a (up2 (up2 (up2 re_z 3 (Int32.toNatClampNeg (re_z 5 0)) 40) 5 0 ((re_z 5 0) + 1)) 6 0 ((re_z 6 0) + 1)) (Int32.toNatClampNeg ((re_z 6 0) + 1)) 0) rfl dX7_putOpen_81 (fun hf => ?_)
          refine j_aload_n hE dX7_putOpen_82 rfl 0 rfl ?_
          refine j_iconst (v := 1) hE dX7_putOpen_83 (by decide) ?_
          refine j_put (v := .int 1) (ws' := ([n_Reader g a (up2 (up2 (up2 (up2 (up2 re_z 3 (Int32.toNatClampNeg (re_z 5 0)) 40) 5 0 ((re_z 5 0) + 1)) 6 0 ((re_z 6 0) + 1)) 4 (Int32.toNatClampNeg ((re_z 6 0) + 1)) 0) 9 0 1), n_Tape g (fun i => a (i + 3)) ta_z] : List va_W)) hE lp_Reader_46 0 rfl 0 (wg_Reader_0 g a (up2 (up2 (up2 (up2 re_z 3 (Int32.toNatClampNeg (re_z 5 0)) 40) 5 0 ((re_z 5 0) + 1)) 6 0 ((re_z 6 0) + 1)) 4 (Int32.toNatClampNeg ((re_z 6 0) + 1)) 0)) (by decide +kernel) (by decide +kernel) (Nat.le_of_ble_eq_true rfl) (wp_Reader_9 g a (up2 (up2 (up2 (up2 re_z 3 (Int32.toNatClampNeg (re_z 5 0)) 40) 5 0 ((re_z 5 0) + 1)) 6 0 ((re_z 6 0) + 1)) 4 (Int32.toNatClampNeg ((re_z 6 0) + 1)) 0) 1) rfl dX7_putOpen_84 ?_
          refine j_iconst (v := 1) hE dX7_putOpen_87 (by decide) ?_
          obtain rfl := Option.some.inj hf
          exact j_zret_c hE (Or.inr rfl) hq rfl rfl dX7_putOpen_88
        · refine j_aload_n hE dX7_putOpen_35 rfl 0 rfl ?_
          refine j_iconst (v := 2) hE dX7_putOpen_36 (by decide) ?_
          obtain ⟨q14, hc15, hf⟩ := bind_of hf
          refine j_callV (ws' := ([n_Reader g a q14.1, n_Tape g (fun i => a (i + 3)) ta_z] : List va_W)) (As := [.int 2]) (rest := []) (st2 := [.int q14.2]) hE (fun l => c_Reader_stop l g a re_z ta_z 2 q14 hc15) cd_X7_stop cv_X7_stop ml_Reader_99 rfl rfl rfl (wg_Reader_0 _ _ _) ⟨⟨Nat.le_of_ble_eq_true rfl, Nat.le_of_ble_eq_true rfl⟩, ⟨Nat.zero_le _, Nat.zero_le _⟩, rfl, rfl⟩ [0, 1] rfl rfl rfl (Nat.le_of_ble_eq_true rfl) rfl dX7_putOpen_37 ?_
          obtain ⟨b16, hf⟩ := bz_of hf
          obtain rfl := Option.some.inj hf
          exact j_zret_c hE b16 hq rfl rfl dX7_putOpen_40
def rm_Reader_readValue : Room := { frames := 2, cells := 0, slots := 0, locals := 43 }
def f_Reader_readValue_85 (ta_z : jZ)   (re_z : jZ) (ru_z : jZ) : Option (jZ × jZ × Int32) := (f_Tape_isWord ta_z 486146048).bind fun q18 => (if q18 = 0 then (f_Tape_isSign ta_z 40).bind fun q21 => (if q21 = 0 then (f_Reader_stop re_z ta_z 1).bind fun q24 => (bz q24.2).bind fun _ => some (q24.1, ru_z, q24.2)
    else (f_Reader_putOpen re_z ta_z).bind fun q27 => (bz q27.2).bind fun _ => some (q27.1, ru_z, q27.2))
    else (if (re_z 9 0) = 0 then (f_Tape_isSign ta_z 40).bind fun q31 => (if q31 = 0 then (f_Reader_stop re_z ta_z 1).bind fun q34 => (bz q34.2).bind fun _ => some (q34.1, ru_z, q34.2)
    else (f_Reader_putOpen re_z ta_z).bind fun q37 => (bz q37.2).bind fun _ => some (q37.1, ru_z, q37.2))
    else (f_Reader_putOnPile re_z ta_z 486146048).bind fun q40 => (bz q40.2).bind fun _ => some (q40.1, ru_z, q40.2)))
def f_Reader_readValue (re_z : jZ) (ta_z : jZ) (ru_z : jZ)  : Option (jZ × jZ × Int32) := (if (ta_z 4 0) = 2 then (if (ta_z 5 0) ≤ 999 then (f_Rule_stepOf (ta_z 5 0)).bind fun q10 => (f_Reader_putValue re_z ta_z ru_z q10).bind fun q12 => (bz q12.2.2).bind fun _ => some (q12.1, q12.2.1, q12.2.2)
    else (f_Reader_stop re_z ta_z 2).bind fun q15 => (bz q15.2).bind fun _ => some (q15.1, ru_z, q15.2))
    else (if (ta_z 4 0) = 1 then (f_Tape_isOfCounts (ta_z 5 0)).bind fun q3 => (if q3 = 0 then f_Reader_readValue_85 ta_z re_z ru_z
    else (f_Reader_putValue re_z ta_z ru_z (ta_z 5 0)).bind fun q6 => (bz q6.2.2).bind fun _ => some (q6.1, q6.2.1, q6.2.2))
    else f_Reader_readValue_85 ta_z re_z ru_z))
set_option maxRecDepth 100000 in
theorem j_Reader_readValue_85 (E : jT) (g : jG) (a : Nat → Nat) (b : Nat → Nat) (ta_z : jZ) (ru_y : jY)  (res : jZ × jZ × Int32) (hE : jOk E g RX7 cX7_readValue 2 (some .boolean) rm_Reader_readValue) (hq : jEnd E g (some (.int res.2.2)) (([n_Reader g a res.1, n_Tape g (fun i => a (i + 3)) ta_z, n_Rule g b res.2.1 ru_y] : List va_W)) 0 0)  (re_z : jZ) (ru_z : jZ) (hf : f_Reader_readValue_85 ta_z re_z ru_z = some res) : J E g 0 0 (([n_Reader g a re_z, n_Tape g (fun i => a (i + 3)) ta_z, n_Rule g b ru_z ru_y] : List va_W)) [(0, .ref (a 0))] 85 [] := by
  unfold f_Reader_readValue_85 at hf
  refine j_aload_n hE dX7_readValue_85 rfl 0 rfl ?_
  refine j_get (v := .ref (a 3)) hE lg_Reader_12 0 rfl 0 (wg_Reader_0 g a re_z) rfl dX7_readValue_86 ?_
  refine j_ldc hE co_Reader_224 dX7_readValue_89 ?_
  obtain ⟨q18, hc19, hf⟩ := bind_of hf
  refine j_callV (ws' := ([n_Reader g a re_z, n_Tape g (fun i => a (i + 3)) ta_z, n_Rule g b ru_z ru_y] : List va_W)) (As := [.int 486146048]) (rest := []) (st2 := [.int q18]) hE (fun l => c_Tape_isWord l g (fun i => a (i + 3)) ta_z 486146048 q18 hc19) cd_X10_isWord cv_X10_isWord ml_Reader_62 rfl rfl rfl (wg_Tape_0 _ _ _) ⟨⟨Nat.le_of_ble_eq_true rfl, Nat.le_of_ble_eq_true rfl⟩, ⟨Nat.zero_le _, Nat.zero_le _⟩, rfl, rfl⟩ [1] rfl rfl rfl (Nat.le_of_ble_eq_true rfl) rfl dX7_readValue_91 ?_
  refine j_if_eq (tgt := 111) hE hf dX7_readValue_94 (by decide) (fun c20 hf => ?_) (fun c20 hf => ?_)
  · refine j_aload_n hE dX7_readValue_111 rfl 0 rfl ?_
    refine j_get (v := .ref (a 3)) hE lg_Reader_12 0 rfl 0 (wg_Reader_0 g a re_z) rfl dX7_readValue_112 ?_
    refine j_bipush (v := 40) hE dX7_readValue_115 (by decide) ?_
    obtain ⟨q21, hc22, hf⟩ := bind_of hf
    refine j_callV (ws' := ([n_Reader g a re_z, n_Tape g (fun i => a (i + 3)) ta_z, n_Rule g b ru_z ru_y] : List va_W)) (As := [.int 40]) (rest := []) (st2 := [.int q21]) hE (fun l => c_Tape_isSign l g (fun i => a (i + 3)) ta_z 40 q21 hc22) cd_X10_isSign cv_X10_isSign ml_Reader_109 rfl rfl rfl (wg_Tape_0 _ _ _) ⟨⟨Nat.le_of_ble_eq_true rfl, Nat.le_of_ble_eq_true rfl⟩, ⟨Nat.zero_le _, Nat.zero_le _⟩, rfl, rfl⟩ [1] rfl rfl rfl (Nat.le_of_ble_eq_true rfl) rfl dX7_readValue_117 ?_
    refine j_if_eq (tgt := 130) hE hf dX7_readValue_120 (by decide) (fun c23 hf => ?_) (fun c23 hf => ?_)
    · refine j_aload_n hE dX7_readValue_130 rfl 0 rfl ?_
      refine j_iconst (v := 1) hE dX7_readValue_131 (by decide) ?_
      obtain ⟨q24, hc25, hf⟩ := bind_of hf
      refine j_callV (ws' := ([n_Reader g a q24.1, n_Tape g (fun i => a (i + 3)) ta_z, n_Rule g b ru_z ru_y] : List va_W)) (As := [.int 1]) (rest := []) (st2 := [.int q24.2]) hE (fun l => c_Reader_stop l g a re_z ta_z 1 q24 hc25) cd_X7_stop cv_X7_stop ml_Reader_99 rfl rfl rfl (wg_Reader_0 _ _ _) ⟨⟨Nat.le_of_ble_eq_true rfl, Nat.le_of_ble_eq_true rfl⟩, ⟨Nat.zero_le _, Nat.zero_le _⟩, rfl, rfl⟩ [0, 1] rfl rfl rfl (Nat.le_of_ble_eq_true rfl) rfl dX7_readValue_132 ?_
      obtain ⟨b26, hf⟩ := bz_of hf
      obtain rfl := Option.some.inj hf
      exact j_zret_c hE b26 hq rfl rfl dX7_readValue_135
    · refine j_aload_n hE dX7_readValue_123 rfl 0 rfl ?_
      obtain ⟨q27, hc28, hf⟩ := bind_of hf
      refine j_callV (ws' := ([n_Reader g a q27.1, n_Tape g (fun i => a (i + 3)) ta_z, n_Rule g b ru_z ru_y] : List va_W)) (As := []) (rest := []) (st2 := [.int q27.2]) hE (fun l => c_Reader_putOpen l g a re_z ta_z q27 hc28) cd_X7_putOpen cv_X7_putOpen ml_Reader_228 rfl rfl rfl (wg_Reader_0 _ _ _) ⟨⟨Nat.le_of_ble_eq_true rfl, Nat.le_of_ble_eq_true rfl⟩, ⟨Nat.zero_le _, Nat.zero_le _⟩, rfl, rfl⟩ [0, 1] rfl rfl rfl (Nat.le_of_ble_eq_true rfl) rfl dX7_readValue_124 ?_
      refine j_goto (tgt := 135) hE dX7_readValue_127 (by decide) ?_
      obtain ⟨b29, hf⟩ := bz_of hf
      obtain rfl := Option.some.inj hf
      exact j_zret_c hE b29 hq rfl rfl dX7_readValue_135
  · refine j_aload_n hE dX7_readValue_97 rfl 0 rfl ?_
    refine j_get (v := .int (re_z 9 0)) hE lg_Reader_46 0 rfl 0 (wg_Reader_0 g a re_z) rfl dX7_readValue_98 ?_
    refine j_if_eq (tgt := 111) hE hf dX7_readValue_101 (by decide) (fun c30 hf => ?_) (fun c30 hf => ?_)
    · refine j_aload_n hE dX7_readValue_111 rfl 0 rfl ?_
      refine j_get (v := .ref (a 3)) hE lg_Reader_12 0 rfl 0 (wg_Reader_0 g a re_z) rfl dX7_readValue_112 ?_
      refine j_bipush (v := 40) hE dX7_readValue_115 (by decide) ?_
      obtain ⟨q31, hc32, hf⟩ := bind_of hf
      refine j_callV (ws' := ([n_Reader g a re_z, n_Tape g (fun i => a (i + 3)) ta_z, n_Rule g b ru_z ru_y] : List va_W)) (As := [.int 40]) (rest := []) (st2 := [.int q31]) hE (fun l => c_Tape_isSign l g (fun i => a (i + 3)) ta_z 40 q31 hc32) cd_X10_isSign cv_X10_isSign ml_Reader_109 rfl rfl rfl (wg_Tape_0 _ _ _) ⟨⟨Nat.le_of_ble_eq_true rfl, Nat.le_of_ble_eq_true rfl⟩, ⟨Nat.zero_le _, Nat.zero_le _⟩, rfl, rfl⟩ [1] rfl rfl rfl (Nat.le_of_ble_eq_true rfl) rfl dX7_readValue_117 ?_
      refine j_if_eq (tgt := 130) hE hf dX7_readValue_120 (by decide) (fun c33 hf => ?_) (fun c33 hf => ?_)
      · refine j_aload_n hE dX7_readValue_130 rfl 0 rfl ?_
        refine j_iconst (v := 1) hE dX7_readValue_131 (by decide) ?_
        obtain ⟨q34, hc35, hf⟩ := bind_of hf
        refine j_callV (ws' := ([n_Reader g a q34.1, n_Tape g (fun i => a (i + 3)) ta_z, n_Rule g b ru_z ru_y] : List va_W)) (As := [.int 1]) (rest := []) (st2 := [.int q34.2]) hE (fun l => c_Reader_stop l g a re_z ta_z 1 q34 hc35) cd_X7_stop cv_X7_stop ml_Reader_99 rfl rfl rfl (wg_Reader_0 _ _ _) ⟨⟨Nat.le_of_ble_eq_true rfl, Nat.le_of_ble_eq_true rfl⟩, ⟨Nat.zero_le _, Nat.zero_le _⟩, rfl, rfl⟩ [0, 1] rfl rfl rfl (Nat.le_of_ble_eq_true rfl) rfl dX7_readValue_132 ?_
        obtain ⟨b36, hf⟩ := bz_of hf
        obtain rfl := Option.some.inj hf
        exact j_zret_c hE b36 hq rfl rfl dX7_readValue_135
      · refine j_aload_n hE dX7_readValue_123 rfl 0 rfl ?_
        obtain ⟨q37, hc38, hf⟩ := bind_of hf
        refine j_callV (ws' := ([n_Reader g a q37.1, n_Tape g (fun i => a (i + 3)) ta_z, n_Rule g b ru_z ru_y] : List va_W)) (As := []) (rest := []) (st2 := [.int q37.2]) hE (fun l => c_Reader_putOpen l g a re_z ta_z q37 hc38) cd_X7_putOpen cv_X7_putOpen ml_Reader_228 rfl rfl rfl (wg_Reader_0 _ _ _) ⟨⟨Nat.le_of_ble_eq_true rfl, Nat.le_of_ble_eq_true rfl⟩, ⟨Nat.zero_le _, Nat.zero_le _⟩, rfl, rfl⟩ [0, 1] rfl rfl rfl (Nat.le_of_ble_eq_true rfl) rfl dX7_readValue_124 ?_
        refine j_goto (tgt := 135) hE dX7_readValue_127 (by decide) ?_
        obtain ⟨b39, hf⟩ := bz_of hf
        obtain rfl := Option.some.inj hf
        exact j_zret_c hE b39 hq rfl rfl dX7_readValue_135
    · refine j_aload_n hE dX7_readValue_104 rfl 0 rfl ?_
      refine j_ldc hE co_Reader_224 dX7_readValue_105 ?_
      obtain ⟨q40, hc41, hf⟩ := bind_of hf
      refine j_callV (ws' := ([n_Reader g a q40.1, n_Tape g (fun i => a (i + 3)) ta_z, n_Rule g b ru_z ru_y] : List va_W)) (As := [.int 486146048]) (rest := []) (st2 := [.int q40.2]) hE (fun l => c_Reader_putOnPile l g a re_z ta_z 486146048 q40 hc41) cd_X7_putOnPile cv_X7_putOnPile ml_Reader_225 rfl rfl rfl (wg_Reader_0 _ _ _) ⟨⟨Nat.le_of_ble_eq_true rfl, Nat.le_of_ble_eq_true rfl⟩, ⟨Nat.zero_le _, Nat.zero_le _⟩, rfl, rfl⟩ [0, 1] rfl rfl rfl (Nat.le_of_ble_eq_true rfl) rfl dX7_readValue_107 ?_
      obtain ⟨b42, hf⟩ := bz_of hf
      obtain rfl := Option.some.inj hf
      exact j_zret_c hE b42 hq rfl rfl dX7_readValue_110
set_option maxRecDepth 100000 in
theorem c_Reader_readValue (l : Launch) (g : jG) (a : Nat → Nat) (b : Nat → Nat) (re_z : jZ) (ta_z : jZ) (ru_z : jZ) (ru_y : jY)  (res : jZ × jZ × Int32) (hf : f_Reader_readValue re_z ta_z ru_z = some res) : MC l g yX7_readValue cX7_readValue 2 (some .boolean) rm_Reader_readValue [.ref (a 0), .ref (b 0)] (([n_Reader g a re_z, n_Tape g (fun i => a (i + 3)) ta_z, n_Rule g b ru_z ru_y] : List va_W)) (some (.int res.2.2)) (([n_Reader g a res.1, n_Tape g (fun i => a (i + 3)) ta_z, n_Rule g b res.2.1 ru_y] : List va_W)) 0 0 := by
  refine MC_of (own := RX7) (lv := [(0, .ref (a 0)), (1, .ref (b 0))]) (by decide) rfl (Nat.le_of_ble_eq_true rfl) rfl rfl (fun E hE hq => ?_)
  unfold f_Reader_readValue at hf
  refine j_aload_n hE dX7_readValue_0 rfl 0 rfl ?_
  refine j_get (v := .ref (a 3)) hE lg_Reader_12 0 rfl 0 (wg_Reader_0 g a re_z) rfl dX7_readValue_1 ?_
  refine j_get (v := .int (ta_z 4 0)) hE lg_Reader_58 1 rfl 0 (wg_Tape_0 g (fun i => a (i + 3)) ta_z) rfl dX7_readValue_4 ?_
  refine j_iconst (v := 2) hE dX7_readValue_7 (by decide) ?_
  refine j_icmp_ne (tgt := 48) hE hf dX7_readValue_8 (by decide) (fun c1 hf => ?_) (fun c1 hf => ?_)
  · refine j_aload_n hE dX7_readValue_48 rfl 0 rfl ?_
    refine j_get (v := .ref (a 3)) hE lg_Reader_12 0 rfl 0 (wg_Reader_0 g a re_z) rfl dX7_readValue_49 ?_
    refine j_get (v := .int (ta_z 4 0)) hE lg_Reader_58 1 rfl 0 (wg_Tape_0 g (fun i => a (i + 3)) ta_z) rfl dX7_readValue_52 ?_
    refine j_iconst (v := 1) hE dX7_readValue_55 (by decide) ?_
    refine j_icmp_ne (tgt := 85) hE hf dX7_readValue_56 (by decide) (fun c2 hf => ?_) (fun c2 hf => ?_)
    · exact j_sub [0] rfl (j_Reader_readValue_85 E g a b ta_z ru_y res hE hq re_z ru_z hf)
    · refine j_aload_n hE dX7_readValue_59 rfl 0 rfl ?_
      refine j_get (v := .ref (a 3)) hE lg_Reader_12 0 rfl 0 (wg_Reader_0 g a re_z) rfl dX7_readValue_60 ?_
      refine j_get (v := .int (ta_z 5 0)) hE lg_Reader_181 1 rfl 0 (wg_Tape_0 g (fun i => a (i + 3)) ta_z) rfl dX7_readValue_63 ?_
      obtain ⟨q3, hc4, hf⟩ := bind_of hf
      refine j_callS (ws' := ([n_Reader g a re_z, n_Tape g (fun i => a (i + 3)) ta_z, n_Rule g b ru_z ru_y] : List va_W)) (As := [.int (ta_z 5 0)]) (rest := []) (st2 := [.int q3]) hE (fun l => c_Tape_isOfCounts l g (ta_z 5 0) q3 hc4) cd_X10_isOfCounts st_X10_isOfCounts ml_Reader_221 rfl rfl ⟨⟨Nat.le_of_ble_eq_true rfl, Nat.le_of_ble_eq_true rfl⟩, ⟨Nat.zero_le _, Nat.zero_le _⟩, rfl, rfl⟩ [] rfl rfl rfl (Nat.le_of_ble_eq_true rfl) rfl dX7_readValue_66 ?_
      refine j_if_eq (tgt := 85) hE hf dX7_readValue_69 (by decide) (fun c5 hf => ?_) (fun c5 hf => ?_)
      · exact j_sub [0] rfl (j_Reader_readValue_85 E g a b ta_z ru_y res hE hq re_z ru_z hf)
      · refine j_aload_n hE dX7_readValue_72 rfl 0 rfl ?_
        refine j_aload_n hE dX7_readValue_73 rfl 1 rfl ?_
        refine j_aload_n hE dX7_readValue_74 rfl 0 rfl ?_
        refine j_get (v := .ref (a 3)) hE lg_Reader_12 0 rfl 0 (wg_Reader_0 g a re_z) rfl dX7_readValue_75 ?_
        refine j_get (v := .int (ta_z 5 0)) hE lg_Reader_181 1 rfl 0 (wg_Tape_0 g (fun i => a (i + 3)) ta_z) rfl dX7_readValue_78 ?_
        obtain ⟨q6, hc7, hf⟩ := bind_of hf
        refine j_callV (ws' := ([n_Reader g a q6.1, n_Tape g (fun i => a (i + 3)) ta_z, n_Rule g b q6.2.1 ru_y] : List va_W)) (As := [.ref (b 0), .int (ta_z 5 0)]) (rest := []) (st2 := [.int q6.2.2]) hE (fun l => c_Reader_putValue l g a b re_z ta_z ru_z ru_y (ta_z 5 0) q6 hc7) cd_X7_putValue cv_X7_putValue ml_Reader_217 rfl rfl rfl (wg_Reader_0 _ _ _) ⟨⟨Nat.le_of_ble_eq_true rfl, Nat.le_of_ble_eq_true rfl⟩, ⟨Nat.zero_le _, Nat.zero_le _⟩, rfl, rfl⟩ [0, 1, 2] rfl rfl rfl (Nat.le_of_ble_eq_true rfl) rfl dX7_readValue_81 ?_
        obtain ⟨b8, hf⟩ := bz_of hf
        obtain rfl := Option.some.inj hf
        exact j_zret_c hE b8 hq rfl rfl dX7_readValue_84
  · refine j_aload_n hE dX7_readValue_11 rfl 0 rfl ?_
    refine j_get (v := .ref (a 3)) hE lg_Reader_12 0 rfl 0 (wg_Reader_0 g a re_z) rfl dX7_readValue_12 ?_
    refine j_get (v := .int (ta_z 5 0)) hE lg_Reader_181 1 rfl 0 (wg_Tape_0 g (fun i => a (i + 3)) ta_z) rfl dX7_readValue_15 ?_
    refine j_sipush (v := 999) hE dX7_readValue_18 (by decide) ?_
    refine j_icmp_le (tgt := 32) hE hf dX7_readValue_21 (by decide) (fun c9 hf => ?_) (fun c9 hf => ?_)
    · refine j_aload_n hE dX7_readValue_32 rfl 0 rfl ?_
      refine j_aload_n hE dX7_readValue_33 rfl 1 rfl ?_
      refine j_aload_n hE dX7_readValue_34 rfl 0 rfl ?_
      refine j_get (v := .ref (a 3)) hE lg_Reader_12 0 rfl 0 (wg_Reader_0 g a re_z) rfl dX7_readValue_35 ?_
      refine j_get (v := .int (ta_z 5 0)) hE lg_Reader_181 1 rfl 0 (wg_Tape_0 g (fun i => a (i + 3)) ta_z) rfl dX7_readValue_38 ?_
      obtain ⟨q10, hc11, hf⟩ := bind_of hf
      refine j_callS (ws' := ([n_Reader g a re_z, n_Tape g (fun i => a (i + 3)) ta_z, n_Rule g b ru_z ru_y] : List va_W)) (As := [.int (ta_z 5 0)]) (rest := [.ref (b 0), .ref (a 0)]) (st2 := [.int q10, .ref (b 0), .ref (a 0)]) hE (fun l => c_Rule_stepOf l g (ta_z 5 0) q10 hc11) cd_X9_stepOf st_X9_stepOf ml_Reader_213 rfl rfl ⟨⟨Nat.le_of_ble_eq_true rfl, Nat.le_of_ble_eq_true rfl⟩, ⟨Nat.zero_le _, Nat.zero_le _⟩, rfl, rfl⟩ [] rfl rfl rfl (Nat.le_of_ble_eq_true rfl) rfl dX7_readValue_41 ?_
      obtain ⟨q12, hc13, hf⟩ := bind_of hf
      refine j_callV (ws' := ([n_Reader g a q12.1, n_Tape g (fun i => a (i + 3)) ta_z, n_Rule g b q12.2.1 ru_y] : List va_W)) (As := [.ref (b 0), .int q10]) (rest := []) (st2 := [.int q12.2.2]) hE (fun l => c_Reader_putValue l g a b re_z ta_z ru_z ru_y q10 q12 hc13) cd_X7_putValue cv_X7_putValue ml_Reader_217 rfl rfl rfl (wg_Reader_0 _ _ _) ⟨⟨Nat.le_of_ble_eq_true rfl, Nat.le_of_ble_eq_true rfl⟩, ⟨Nat.zero_le _, Nat.zero_le _⟩, rfl, rfl⟩ [0, 1, 2] rfl rfl rfl (Nat.le_of_ble_eq_true rfl) rfl dX7_readValue_44 ?_
      obtain ⟨b14, hf⟩ := bz_of hf
      obtain rfl := Option.some.inj hf
      exact j_zret_c hE b14 hq rfl rfl dX7_readValue_47
    · refine j_aload_n hE dX7_readValue_24 rfl 0 rfl ?_
      refine j_iconst (v := 2) hE dX7_readValue_25 (by decide) ?_
      obtain ⟨q15, hc16, hf⟩ := bind_of hf
      refine j_callV (ws' := ([n_Reader g a q15.1, n_Tape g (fun i => a (i + 3)) ta_z, n_Rule g b ru_z ru_y] : List va_W)) (As := [.int 2]) (rest := []) (st2 := [.int q15.2]) hE (fun l => c_Reader_stop l g a re_z ta_z 2 q15 hc16) cd_X7_stop cv_X7_stop ml_Reader_99 rfl rfl rfl (wg_Reader_0 _ _ _) ⟨⟨Nat.le_of_ble_eq_true rfl, Nat.le_of_ble_eq_true rfl⟩, ⟨Nat.zero_le _, Nat.zero_le _⟩, rfl, rfl⟩ [0, 1] rfl rfl rfl (Nat.le_of_ble_eq_true rfl) rfl dX7_readValue_26 ?_
      refine j_goto (tgt := 47) hE dX7_readValue_29 (by decide) ?_
      obtain ⟨b17, hf⟩ := bz_of hf
      obtain rfl := Option.some.inj hf
      exact j_zret_c hE b17 hq rfl rfl dX7_readValue_47
def rm_Reader_readTake : Room := { frames := 4, cells := 0, slots := 0, locals := 87 }
def f_Reader_readTake_95   (k54 : jZ → jZ → jZ → Int32 → Option (jZ × jZ × jZ × Int32)) (re_z : jZ) (ta_z : jZ) (ru_z : jZ) (v2 : Int32) : Option (jZ × jZ × jZ × Int32) := (if (re_z 8 0) = 0 then (f_Reader_readBehind re_z ta_z ru_z).bind fun q19 => (if q19.2.2 = 0 then some (q19.1, ta_z, q19.2.1, 0)
    else (f_Tape_step ta_z).bind fun q22 => k54 q19.1 q22 q19.2.1 (v2 + 1))
    else (f_Reader_readValue re_z ta_z ru_z).bind fun q24 => (if q24.2.2 = 0 then some (q24.1, ta_z, q24.2.1, 0)
    else (f_Tape_step ta_z).bind fun q27 => k54 q24.1 q27 q24.2.1 (v2 + 1)))
def f_Reader_readTake_54    : Nat → jZ → jZ → jZ → Int32 → Option (jZ × jZ × jZ × Int32)
  | 0, _, _, _, _ => none
  | n + 1, re_z, ta_z, ru_z, v2 => (if 600 < v2 then (f_Reader_stop re_z ta_z 1).bind fun q8 => (bz q8.2).bind fun _ => some (q8.1, ta_z, ru_z, q8.2)
    else (if (re_z 8 0) = 0 then (if (re_z 6 0) = 0 then (f_Tape_isSign ta_z 59).bind fun q13 => (if q13 = 0 then f_Reader_readTake_95 (fun re_z ta_z ru_z v2 => f_Reader_readTake_54  n re_z ta_z ru_z v2) re_z ta_z ru_z v2
    else (f_Reader_layDown re_z ru_z 1).bind fun q16 => some (q16.1, ta_z, q16.2, 1))
    else f_Reader_readTake_95 (fun re_z ta_z ru_z v2 => f_Reader_readTake_54  n re_z ta_z ru_z v2) re_z ta_z ru_z v2)
    else f_Reader_readTake_95 (fun re_z ta_z ru_z v2 => f_Reader_readTake_54  n re_z ta_z ru_z v2) re_z ta_z ru_z v2))
def f_Reader_readTake (re_z : jZ) (ta_z : jZ) (ru_z : jZ)  : Option (jZ × jZ × jZ × Int32) := (if (ru_z 0 0) ≤ 0 then (ix 0 9).bind fun _ => (f_Tape_step ta_z).bind fun q2 => f_Reader_readTake_54 FU (up2 (up2 (up2 (up2 (up2 (up2 re_z 5 0 0) 6 0 0) 7 0 0) 4 (Int32.toNatClampNeg 0) 0) 8 0 1) 9 0 1) q2 ru_z 0
    else (f_Reader_stop re_z ta_z 3).bind fun q4 => (bz q4.2).bind fun _ => some (q4.1, ta_z, ru_z, q4.2))
set_option maxRecDepth 100000 in
theorem j_Reader_readTake_95 (E : jT) (g : jG) (a : Nat → Nat) (b : Nat → Nat) (ru_y : jY)  (res : jZ × jZ × jZ × Int32) (hE : jOk E g RX7 cX7_readTake 4 (some .boolean) rm_Reader_readTake) (hq : jEnd E g (some (.int res.2.2.2)) (([n_Reader g a res.1, n_Tape g (fun i => a (i + 3)) res.2.1, n_Rule g b res.2.2.1 ru_y] : List va_W)) 0 0) (k54 : jZ → jZ → jZ → Int32 → Option (jZ × jZ × jZ × Int32)) (hk54 : ∀ (re_z : jZ) (ta_z : jZ) (ru_z : jZ) (v2 : Int32), k54 re_z ta_z ru_z v2 = some res → J E g 0 0 (([n_Reader g a re_z, n_Tape g (fun i => a (i + 3)) ta_z, n_Rule g b ru_z ru_y] : List va_W)) [(0, .ref (a 0)), (1, .ref (b 0)), (2, .int v2)] 54 []) (re_z : jZ) (ta_z : jZ) (ru_z : jZ) (v2 : Int32) (hf : f_Reader_readTake_95 k54 re_z ta_z ru_z v2 = some res) : J E g 0 0 (([n_Reader g a re_z, n_Tape g (fun i => a (i + 3)) ta_z, n_Rule g b ru_z ru_y] : List va_W)) [(0, .ref (a 0)), (1, .ref (b 0)), (2, .int v2)] 95 [] := by
  unfold f_Reader_readTake_95 at hf
  refine j_aload_n hE dX7_readTake_95 rfl 0 rfl ?_
  refine j_get (v := .int (re_z 8 0)) hE lg_Reader_42 0 rfl 0 (wg_Reader_0 g a re_z) rfl dX7_readTake_96 ?_
  refine j_if_eq (tgt := 110) hE hf dX7_readTake_99 (by decide) (fun c18 hf => ?_) (fun c18 hf => ?_)
  · refine j_aload_n hE dX7_readTake_110 rfl 0 rfl ?_
    refine j_aload_n hE dX7_readTake_111 rfl 1 rfl ?_
    obtain ⟨q19, hc20, hf⟩ := bind_of hf
    refine j_callV (ws' := ([n_Reader g a q19.1, n_Tape g (fun i => a (i + 3)) ta_z, n_Rule g b q19.2.1 ru_y] : List va_W)) (As := [.ref (b 0)]) (rest := []) (st2 := [.int q19.2.2]) hE (fun l => c_Reader_readBehind l g a b re_z ta_z ru_z ru_y q19 hc20) cd_X7_readBehind cv_X7_readBehind ml_Reader_210 rfl rfl rfl (wg_Reader_0 _ _ _) ⟨⟨Nat.le_of_ble_eq_true rfl, Nat.le_of_ble_eq_true rfl⟩, ⟨Nat.zero_le _, Nat.zero_le _⟩, rfl, rfl⟩ [0, 1, 2] rfl rfl rfl (Nat.le_of_ble_eq_true rfl) rfl dX7_readTake_112 ?_
    refine j_istore_n (lv' := [(3, .int q19.2.2), (0, .ref (a 0)), (1, .ref (b 0)), (2, .int v2)]) hE dX7_readTake_115 rfl (by decide) rfl ?_
    refine j_iload_n hE dX7_readTake_116 rfl 0 rfl ?_
    refine j_if_ne (tgt := 122) hE hf dX7_readTake_117 (by decide) (fun c21 hf => ?_) (fun c21 hf => ?_)
    · refine j_aload_n hE dX7_readTake_122 rfl 1 rfl ?_
      refine j_get (v := .ref (a 3)) hE lg_Reader_12 0 rfl 0 (wg_Reader_0 g a q19.1) rfl dX7_readTake_123 ?_
      obtain ⟨q22, hc23, hf⟩ := bind_of hf
      refine j_callV (ws' := ([n_Reader g a q19.1, n_Tape g (fun i => a (i + 3)) q22, n_Rule g b q19.2.1 ru_y] : List va_W)) (As := []) (rest := []) (st2 := []) hE (fun l => c_Tape_step l g (fun i => a (i + 3)) ta_z q22 hc23) cd_X10_step cv_X10_step ml_Reader_112 rfl rfl rfl (wg_Tape_0 _ _ _) ⟨⟨Nat.le_of_ble_eq_true rfl, Nat.le_of_ble_eq_true rfl⟩, ⟨Nat.zero_le _, Nat.zero_le _⟩, rfl, rfl⟩ [1] rfl rfl rfl (Nat.le_of_ble_eq_true rfl) rfl dX7_readTake_126 ?_
      refine j_iinc (v := (v2 + 1)) (lv' := [(2, .int (v2 + 1)), (3, .int q19.2.2), (0, .ref (a 0)), (1, .ref (b 0))]) hE dX7_readTake_129 3 rfl rfl (by decide) rfl ?_
      refine j_goto (tgt := 54) hE dX7_readTake_132 (by decide) ?_
      exact j_sub [2, 3, 0] rfl (hk54 q19.1 q22 q19.2.1 (v2 + 1) hf)
    · refine j_iconst (v := 0) hE dX7_readTake_120 (by decide) ?_
      obtain rfl := Option.some.inj hf
      exact j_zret_c hE (Or.inl rfl) hq rfl rfl dX7_readTake_121
  · refine j_aload_n hE dX7_readTake_102 rfl 0 rfl ?_
    refine j_aload_n hE dX7_readTake_103 rfl 1 rfl ?_
    obtain ⟨q24, hc25, hf⟩ := bind_of hf
    refine j_callV (ws' := ([n_Reader g a q24.1, n_Tape g (fun i => a (i + 3)) ta_z, n_Rule g b q24.2.1 ru_y] : List va_W)) (As := [.ref (b 0)]) (rest := []) (st2 := [.int q24.2.2]) hE (fun l => c_Reader_readValue l g a b re_z ta_z ru_z ru_y q24 hc25) cd_X7_readValue cv_X7_readValue ml_Reader_207 rfl rfl rfl (wg_Reader_0 _ _ _) ⟨⟨Nat.le_of_ble_eq_true rfl, Nat.le_of_ble_eq_true rfl⟩, ⟨Nat.zero_le _, Nat.zero_le _⟩, rfl, rfl⟩ [0, 1, 2] rfl rfl rfl (Nat.le_of_ble_eq_true rfl) rfl dX7_readTake_104 ?_
    refine j_goto (tgt := 115) hE dX7_readTake_107 (by decide) ?_
    refine j_istore_n (lv' := [(3, .int q24.2.2), (0, .ref (a 0)), (1, .ref (b 0)), (2, .int v2)]) hE dX7_readTake_115 rfl (by decide) rfl ?_
    refine j_iload_n hE dX7_readTake_116 rfl 0 rfl ?_
    refine j_if_ne (tgt := 122) hE hf dX7_readTake_117 (by decide) (fun c26 hf => ?_) (fun c26 hf => ?_)
    · refine j_aload_n hE dX7_readTake_122 rfl 1 rfl ?_
      refine j_get (v := .ref (a 3)) hE lg_Reader_12 0 rfl 0 (wg_Reader_0 g a q24.1) rfl dX7_readTake_123 ?_
      obtain ⟨q27, hc28, hf⟩ := bind_of hf
      refine j_callV (ws' := ([n_Reader g a q24.1, n_Tape g (fun i => a (i + 3)) q27, n_Rule g b q24.2.1 ru_y] : List va_W)) (As := []) (rest := []) (st2 := []) hE (fun l => c_Tape_step l g (fun i => a (i + 3)) ta_z q27 hc28) cd_X10_step cv_X10_step ml_Reader_112 rfl rfl rfl (wg_Tape_0 _ _ _) ⟨⟨Nat.le_of_ble_eq_true rfl, Nat.le_of_ble_eq_true rfl⟩, ⟨Nat.zero_le _, Nat.zero_le _⟩, rfl, rfl⟩ [1] rfl rfl rfl (Nat.le_of_ble_eq_true rfl) rfl dX7_readTake_126 ?_
      refine j_iinc (v := (v2 + 1)) (lv' := [(2, .int (v2 + 1)), (3, .int q24.2.2), (0, .ref (a 0)), (1, .ref (b 0))]) hE dX7_readTake_129 3 rfl rfl (by decide) rfl ?_
      refine j_goto (tgt := 54) hE dX7_readTake_132 (by decide) ?_
      exact j_sub [2, 3, 0] rfl (hk54 q24.1 q27 q24.2.1 (v2 + 1) hf)
    · refine j_iconst (v := 0) hE dX7_readTake_120 (by decide) ?_
      obtain rfl := Option.some.inj hf
      exact j_zret_c hE (Or.inl rfl) hq rfl rfl dX7_readTake_121
set_option maxRecDepth 100000 in
theorem j_Reader_readTake_54 (E : jT) (g : jG) (a : Nat → Nat) (b : Nat → Nat) (ru_y : jY)  (res : jZ × jZ × jZ × Int32) (hE : jOk E g RX7 cX7_readTake 4 (some .boolean) rm_Reader_readTake) (hq : jEnd E g (some (.int res.2.2.2)) (([n_Reader g a res.1, n_Tape g (fun i => a (i + 3)) res.2.1, n_Rule g b res.2.2.1 ru_y] : List va_W)) 0 0)  : ∀ (n : Nat) (re_z : jZ) (ta_z : jZ) (ru_z : jZ) (v2 : Int32), f_Reader_readTake_54 n re_z ta_z ru_z v2 = some res → J E g 0 0 (([n_Reader g a re_z, n_Tape g (fun i => a (i + 3)) ta_z, n_Rule g b ru_z ru_y] : List va_W)) [(0, .ref (a 0)), (1, .ref (b 0)), (2, .int v2)] 54 [] := by
  intro n
  induction n with
  | zero =>
    intro re_z ta_z ru_z v2 hf
    rw [f_Reader_readTake_54] at hf
    cases hf
  | succ n ih =>
    intro re_z ta_z ru_z v2 hf
    rw [f_Reader_readTake_54] at hf
    refine j_iload_n hE dX7_readTake_54 rfl 2 rfl ?_
    refine j_sipush (v := 600) hE dX7_readTake_55 (by decide) ?_
    refine j_icmp_gt (tgt := 135) hE hf dX7_readTake_58 (by decide) (fun c7 hf => ?_) (fun c7 hf => ?_)
    · refine j_aload_n hE dX7_readTake_135 rfl 0 rfl ?_
      refine j_iconst (v := 1) hE dX7_readTake_136 (by decide) ?_
      obtain ⟨q8, hc9, hf⟩ := bind_of hf
      refine j_callV (ws' := ([n_Reader g a q8.1, n_Tape g (fun i => a (i + 3)) ta_z, n_Rule g b ru_z ru_y] : List va_W)) (As := [.int 1]) (rest := []) (st2 := [.int q8.2]) hE (fun l => c_Reader_stop l g a re_z ta_z 1 q8 hc9) cd_X7_stop cv_X7_stop ml_Reader_99 rfl rfl rfl (wg_Reader_0 _ _ _) ⟨⟨Nat.le_of_ble_eq_true rfl, Nat.le_of_ble_eq_true rfl⟩, ⟨Nat.zero_le _, Nat.zero_le _⟩, rfl, rfl⟩ [0, 1] rfl rfl rfl (Nat.le_of_ble_eq_true rfl) rfl dX7_readTake_137 ?_
      obtain ⟨b10, hf⟩ := bz_of hf
      obtain rfl := Option.some.inj hf
      exact j_zret_c hE b10 hq rfl rfl dX7_readTake_140
    · refine j_aload_n hE dX7_readTake_61 rfl 0 rfl ?_
      refine j_get (v := .int (re_z 8 0)) hE lg_Reader_42 0 rfl 0 (wg_Reader_0 g a re_z) rfl dX7_readTake_62 ?_
      refine j_if_ne (tgt := 95) hE hf dX7_readTake_65 (by decide) (fun c11 hf => ?_) (fun c11 hf => ?_)
      · exact j_Reader_readTake_95 E g a b ru_y res hE hq (fun re_z ta_z ru_z v2 => f_Reader_readTake_54  n re_z ta_z ru_z v2) (fun re_z ta_z ru_z v2 hf => ih re_z ta_z ru_z v2 hf) re_z ta_z ru_z v2 hf
      · refine j_aload_n hE dX7_readTake_68 rfl 0 rfl ?_
        refine j_get (v := .int (re_z 6 0)) hE lg_Reader_36 0 rfl 0 (wg_Reader_0 g a re_z) rfl dX7_readTake_69 ?_
        refine j_if_ne (tgt := 95) hE hf dX7_readTake_72 (by decide) (fun c12 hf => ?_) (fun c12 hf => ?_)
        · exact j_Reader_readTake_95 E g a b ru_y res hE hq (fun re_z ta_z ru_z v2 => f_Reader_readTake_54  n re_z ta_z ru_z v2) (fun re_z ta_z ru_z v2 hf => ih re_z ta_z ru_z v2 hf) re_z ta_z ru_z v2 hf
        · refine j_aload_n hE dX7_readTake_75 rfl 0 rfl ?_
          refine j_get (v := .ref (a 3)) hE lg_Reader_12 0 rfl 0 (wg_Reader_0 g a re_z) rfl dX7_readTake_76 ?_
          refine j_bipush (v := 59) hE dX7_readTake_79 (by decide) ?_
          obtain ⟨q13, hc14, hf⟩ := bind_of hf
          refine j_callV (ws' := ([n_Reader g a re_z, n_Tape g (fun i => a (i + 3)) ta_z, n_Rule g b ru_z ru_y] : List va_W)) (As := [.int 59]) (rest := []) (st2 := [.int q13]) hE (fun l => c_Tape_isSign l g (fun i => a (i + 3)) ta_z 59 q13 hc14) cd_X10_isSign cv_X10_isSign ml_Reader_109 rfl rfl rfl (wg_Tape_0 _ _ _) ⟨⟨Nat.le_of_ble_eq_true rfl, Nat.le_of_ble_eq_true rfl⟩, ⟨Nat.zero_le _, Nat.zero_le _⟩, rfl, rfl⟩ [1] rfl rfl rfl (Nat.le_of_ble_eq_true rfl) rfl dX7_readTake_81 ?_
          refine j_if_eq (tgt := 95) hE hf dX7_readTake_84 (by decide) (fun c15 hf => ?_) (fun c15 hf => ?_)
          · exact j_Reader_readTake_95 E g a b ru_y res hE hq (fun re_z ta_z ru_z v2 => f_Reader_readTake_54  n re_z ta_z ru_z v2) (fun re_z ta_z ru_z v2 hf => ih re_z ta_z ru_z v2 hf) re_z ta_z ru_z v2 hf
          · refine j_aload_n hE dX7_readTake_87 rfl 0 rfl ?_
            refine j_aload_n hE dX7_readTake_88 rfl 1 rfl ?_
            refine j_iconst (v := 1) hE dX7_readTake_89 (by decide) ?_
            obtain ⟨q16, hc17, hf⟩ := bind_of hf
            refine j_callV (ws' := ([n_Reader g a q16.1, n_Tape g (fun i => a (i + 3)) ta_z, n_Rule g b q16.2 ru_y] : List va_W)) (As := [.ref (b 0), .int 1]) (rest := []) (st2 := []) hE (fun l => c_Reader_layDown l g a b re_z ta_z ru_z ru_y 1 q16 hc17) cd_X7_layDown cv_X7_layDown ml_Reader_203 rfl rfl rfl (wg_Reader_0 _ _ _) ⟨⟨Nat.le_of_ble_eq_true rfl, Nat.le_of_ble_eq_true rfl⟩, ⟨Nat.zero_le _, Nat.zero_le _⟩, rfl, rfl⟩ [0, 1, 2] rfl rfl rfl (Nat.le_of_ble_eq_true rfl) rfl dX7_readTake_90 ?_
            refine j_iconst (v := 1) hE dX7_readTake_93 (by decide) ?_
            obtain rfl := Option.some.inj hf
            exact j_zret_c hE (Or.inr rfl) hq rfl rfl dX7_readTake_94
set_option maxRecDepth 100000 in
theorem c_Reader_readTake (l : Launch) (g : jG) (a : Nat → Nat) (b : Nat → Nat) (re_z : jZ) (ta_z : jZ) (ru_z : jZ) (ru_y : jY)  (res : jZ × jZ × jZ × Int32) (hf : f_Reader_readTake re_z ta_z ru_z = some res) : MC l g yX7_readTake cX7_readTake 4 (some .boolean) rm_Reader_readTake [.ref (a 0), .ref (b 0)] (([n_Reader g a re_z, n_Tape g (fun i => a (i + 3)) ta_z, n_Rule g b ru_z ru_y] : List va_W)) (some (.int res.2.2.2)) (([n_Reader g a res.1, n_Tape g (fun i => a (i + 3)) res.2.1, n_Rule g b res.2.2.1 ru_y] : List va_W)) 0 0 := by
  refine MC_of (own := RX7) (lv := [(0, .ref (a 0)), (1, .ref (b 0))]) (by decide) rfl (Nat.le_of_ble_eq_true rfl) rfl rfl (fun E hE hq => ?_)
  unfold f_Reader_readTake at hf
  refine j_aload_n hE dX7_readTake_0 rfl 1 rfl ?_
  refine j_get (v := .int (ru_z 0 0)) hE lg_Reader_198 2 rfl 0 (wg_Rule_0 g b ru_z ru_y) rfl dX7_readTake_1 ?_
  refine j_if_le (tgt := 13) hE hf dX7_readTake_4 (by decide) (fun c1 hf => ?_) (fun c1 hf => ?_)
  · refine j_aload_n hE dX7_readTake_13 rfl 0 rfl ?_
    refine j_iconst (v := 0) hE dX7_readTake_14 (by decide) ?_
    refine j_put (v := .int 0) (ws' := ([n_Reader g a (up2 re_z 5 0 0), n_Tape g (fun i => a (i + 3)) ta_z, n_Rule g b ru_z ru_y] : List va_W)) hE lp_Reader_33 0 rfl 0 (wg_Reader_0 g a re_z) rfl rfl (Nat.le_of_ble_eq_true rfl) (wp_Reader_5 g a re_z 0) rfl dX7_readTake_15 ?_
    refine j_aload_n hE dX7_readTake_18 rfl 0 rfl ?_
    refine j_iconst (v := 0) hE dX7_readTake_19 (by decide) ?_
    refine j_put (v := .int 0) (ws' := ([n_Reader g a (up2 (up2 re_z 5 0 0) 6 0 0), n_Tape g (fun i => a (i + 3)) ta_z, n_Rule g b ru_z ru_y] : List va_W)) hE lp_Reader_36 0 rfl 0 (wg_Reader_0 g a (up2 re_z 5 0 0)) rfl rfl (Nat.le_of_ble_eq_true rfl) (wp_Reader_6 g a (up2 re_z 5 0 0) 0) rfl dX7_readTake_20 ?_
    refine j_aload_n hE dX7_readTake_23 rfl 0 rfl ?_
    refine j_iconst (v := 0) hE dX7_readTake_24 (by decide) ?_
    refine j_put (v := .int 0) (ws' := ([n_Reader g a (up2 (up2 (up2 re_z 5 0 0) 6 0 0) 7 0 0), n_Tape g (fun i => a (i + 3)) ta_z, n_Rule g b ru_z ru_y] : List va_W)) hE lp_Reader_39 0 rfl 0 (wg_Reader_0 g a (up2 (up2 re_z 5 0 0) 6 0 0)) rfl rfl (Nat.le_of_ble_eq_true rfl) (wp_Reader_7 g a (up2 (up2 re_z 5 0 0) 6 0 0) 0) rfl dX7_readTake_25 ?_
    refine j_aload_n hE dX7_readTake_28 rfl 0 rfl ?_
    refine j_get (v := .ref (a 2)) hE lg_Reader_29 0 rfl 0 (wg_Reader_0 g a (up2 (up2 (up2 re_z 5 0 0) 6 0 0) 7 0 0)) rfl dX7_readTake_29 ?_
    refine j_iconst (v := 0) hE dX7_readTake_32 (by decide) ?_
    refine j_iconst (v := 0) hE dX7_readTake_33 (by decide) ?_
    refine j_zast (ws' := ([n_Reader g a (up2 (up2 (up2 (up2 re_z 5 0 0) 6 0 0) 7 0 0) 4 (Int32.toNatClampNeg 0) 0), n_Tape g (fun i => a (i + 3)) ta_z, n_Rule g b ru_z ru_y] : List va_W)) hE hf 0 rfl 2 (wg_Reader_2 g a (up2 (up2 (up2 re_z 5 0 0) 6 0 0) 7 0 0)) (wa_Reader_2 g a (up2 (up2 (up2 re_z 5 0 0) 6 0 0) 7 0 0) (Int32.toNatClampNeg 0) 0) rfl dX7_readTake_34 (fun hf => ?_)
    refine j_aload_n hE dX7_readTake_35 rfl 0 rfl ?_
    refine j_iconst (v := 1) hE dX7_readTake_36 (by decide) ?_
    refine j_put (v := .int 1) (ws' := ([n_Reader g a (up2 (up2 (up2 (up2 (up2 re_z 5 0 0) 6 0 0) 7 0 0) 4 (Int32.toNatClampNeg 0) 0) 8 0 1), n_Tape g (fun i => a (i + 3)) ta_z, n_Rule g b ru_z ru_y] : List va_W)) hE lp_Reader_42 0 rfl 0 (wg_Reader_0 g a (up2 (up2 (up2 (up2 re_z 5 0 0) 6 0 0) 7 0 0) 4 (Int32.toNatClampNeg 0) 0)) (by decide +kernel) (by decide +kernel) (Nat.le_of_ble_eq_true rfl) (wp_Reader_8 g a (up2 (up2 (up2 (up2 re_z 5 0 0) 6 0 0) 7 0 0) 4 (Int32.toNatClampNeg 0) 0) 1) rfl dX7_readTake_37 ?_
    refine j_aload_n hE dX7_readTake_40 rfl 0 rfl ?_
    refine j_iconst (v := 1) hE dX7_readTake_41 (by decide) ?_
    refine j_put (v := .int 1) (ws' := ([n_Reader g a (up2 (up2 (up2 (up2 (up2 (up2 re_z 5 0 0) 6 0 0) 7 0 0) 4 (Int32.toNatClampNeg 0) 0) 8 0 1) 9 0 1), n_Tape g (fun i => a (i + 3)) ta_z, n_Rule g b ru_z ru_y] : List va_W)) hE lp_Reader_46 0 rfl 0 (wg_Reader_0 g a (up2 (up2 (up2 (up2 (up2 re_z 5 0 0) 6 0 0) 7 0 0) 4 (Int32.toNatClampNeg 0) 0) 8 0 1)) (by decide +kernel) (by decide +kernel) (Nat.le_of_ble_eq_true rfl) (wp_Reader_9 g a (up2 (up2 (up2 (up2 (up2 re_z 5 0 0) 6 0 0) 7 0 0) 4 (Int32.toNatClampNeg 0) 0) 8 0 1) 1) rfl dX7_readTake_42 ?_
    refine j_aload_n hE dX7_readTake_45 rfl 0 rfl ?_
    refine j_get (v := .ref (a 3)) hE lg_Reader_12 0 rfl 0 (wg_Reader_0 g a (up2 (up2 (up2 (up2 (up2 (up2 re_z 5 0 0) 6 0 0) 7 0 0) 4 (Int32.toNatClampNeg 0) 0) 8 0 1) 9 0 1)) rfl dX7_readTake_46 ?_
    obtain ⟨q2, hc3, hf⟩ := bind_of hf
    refine j_callV (ws' := ([n_Reader g a (up2 (up2 (up2 (up2 (up2 (up2 re_z 5 0 0) 6 0 0) 7 0 0) 4 (Int32.toNatClampNeg 0) 0) 8 0 1) 9 0 1), n_Tape g (fun i => a (i + 3)) q2, n_Rule g b ru_z ru_y] : List va_W)) (As := []) (rest := []) (st2 := []) hE (fun l => c_Tape_step l g (fun i => a (i + 3)) ta_z q2 hc3) cd_X10_step cv_X10_step ml_Reader_112 rfl rfl rfl (wg_Tape_0 _ _ _) ⟨⟨Nat.le_of_ble_eq_true rfl, Nat.le_of_ble_eq_true rfl⟩, ⟨Nat.zero_le _, Nat.zero_le _⟩, rfl, rfl⟩ [1] rfl rfl rfl (Nat.le_of_ble_eq_true rfl) rfl dX7_readTake_49 ?_
    refine j_iconst (v := 0) hE dX7_readTake_52 (by decide) ?_
    refine j_istore_n (lv' := [(2, .int 0), (0, .ref (a 0)), (1, .ref (b 0))]) hE dX7_readTake_53 rfl (by decide) rfl ?_
    exact j_sub [1, 2, 0] rfl (j_Reader_readTake_54 E g a b ru_y res hE hq FU (up2 (up2 (up2 (up2 (up2 (up2 re_z 5 0 0) 6 0 0) 7 0 0) 4 (Int32.toNatClampNeg 0) 0) 8 0 1) 9 0 1) q2 ru_z 0 hf)
  · refine j_aload_n hE dX7_readTake_7 rfl 0 rfl ?_
    refine j_iconst (v := 3) hE dX7_readTake_8 (by decide) ?_
    obtain ⟨q4, hc5, hf⟩ := bind_of hf
    refine j_callV (ws' := ([n_Reader g a q4.1, n_Tape g (fun i => a (i + 3)) ta_z, n_Rule g b ru_z ru_y] : List va_W)) (As := [.int 3]) (rest := []) (st2 := [.int q4.2]) hE (fun l => c_Reader_stop l g a re_z ta_z 3 q4 hc5) cd_X7_stop cv_X7_stop ml_Reader_99 rfl rfl rfl (wg_Reader_0 _ _ _) ⟨⟨Nat.le_of_ble_eq_true rfl, Nat.le_of_ble_eq_true rfl⟩, ⟨Nat.zero_le _, Nat.zero_le _⟩, rfl, rfl⟩ [0, 1] rfl rfl rfl (Nat.le_of_ble_eq_true rfl) rfl dX7_readTake_9 ?_
    obtain ⟨b6, hf⟩ := bz_of hf
    obtain rfl := Option.some.inj hf
    exact j_zret_c hE b6 hq rfl rfl dX7_readTake_12
def rm_WP_findRoad_names : Room := { frames := 0, cells := 0, slots := 0, locals := 0 }
def f_WP_findRoad_names_2 (ro_z : jZ) (x1 : Int32) (x2 : Int32)  : Nat → Int32 → Option (Int32)
  | 0, _ => none
  | n + 1, v3 => (if x1 ≤ v3 then some (-1)
    else (if 12 ≤ v3 then some (-1)
    else (ix v3 12).bind fun _ => (if (ro_z 8 (Int32.toNatClampNeg v3)) = x2 then some v3
    else f_WP_findRoad_names_2 ro_z x1 x2 n (v3 + 1))))
def f_WP_findRoad_names (ro_z : jZ) (x1 : Int32) (x2 : Int32) : Option (Int32) := f_WP_findRoad_names_2 ro_z x1 x2 FU 0
set_option maxRecDepth 100000 in
theorem j_WP_findRoad_names_2 (E : jT) (g : jG) (b : Nat → Nat) (ro_z : jZ) (x1 : Int32) (x2 : Int32) (res : Int32) (hE : jOk E g RX11 cX11_find 4 (some .int) rm_WP_findRoad_names) (hq : jEnd E g (some (.int res)) (([n_Road g b ro_z] : List va_W)) 0 0)  : ∀ (n : Nat) (v3 : Int32), f_WP_findRoad_names_2 ro_z x1 x2 n v3 = some res → J E g 0 0 (([n_Road g b ro_z] : List va_W)) [(0, .ref (b 1)), (1, .int x1), (2, .int x2), (3, .int v3)] 2 [] := by
  intro n
  induction n with
  | zero =>
    intro v3 hf
    rw [f_WP_findRoad_names_2] at hf
    cases hf
  | succ n ih =>
    intro v3 hf
    rw [f_WP_findRoad_names_2] at hf
    refine j_iload_n hE dX11_find_2 rfl 3 rfl ?_
    refine j_iload_n hE dX11_find_3 rfl 1 rfl ?_
    refine j_icmp_ge (tgt := 28) hE hf dX11_find_4 (by decide) (fun c1 hf => ?_) (fun c1 hf => ?_)
    · refine j_iconst (v := (-1)) hE dX11_find_28 (by decide) ?_
      obtain rfl := Option.some.inj hf
      exact j_iret hE hq rfl rfl dX11_find_29
    · refine j_iload_n hE dX11_find_7 rfl 3 rfl ?_
      refine j_aload_n hE dX11_find_8 rfl 0 rfl ?_
      refine j_alen (v := 12) (t0 := 1) hE 0 rfl 1 (wg_Road_1 g b ro_z) rfl rfl dX11_find_9 ?_
      refine j_icmp_ge (tgt := 28) hE hf dX11_find_10 (by decide) (fun c2 hf => ?_) (fun c2 hf => ?_)
      · refine j_iconst (v := (-1)) hE dX11_find_28 (by decide) ?_
        obtain rfl := Option.some.inj hf
        exact j_iret hE hq rfl rfl dX11_find_29
      · refine j_aload_n hE dX11_find_13 rfl 0 rfl ?_
        refine j_iload_n hE dX11_find_14 rfl 3 rfl ?_
        refine j_iald hE hf 0 rfl 1 (wg_Road_1 g b ro_z) dX11_find_15 (fun hf => ?_)
        refine j_iload_n hE dX11_find_16 rfl 2 rfl ?_
        refine j_icmp_ne (tgt := 22) hE hf dX11_find_17 (by decide) (fun c4 hf => ?_) (fun c4 hf => ?_)
        · refine j_iinc (v := (v3 + 1)) (lv' := [(3, .int (v3 + 1)), (0, .ref (b 1)), (1, .int x1), (2, .int x2)]) hE dX11_find_22 3 rfl rfl (by decide) rfl ?_
          refine j_goto (tgt := 2) hE dX11_find_25 (by decide) ?_
          exact j_sub [1, 2, 3, 0] rfl (ih (v3 + 1) hf)
        · refine j_iload_n hE dX11_find_20 rfl 3 rfl ?_
          obtain rfl := Option.some.inj hf
          exact j_iret hE hq rfl rfl dX11_find_21
set_option maxRecDepth 100000 in
theorem c_WP_findRoad_names (l : Launch) (g : jG) (b : Nat → Nat) (ro_z : jZ) (x1 : Int32) (x2 : Int32) (res : Int32) (hf : f_WP_findRoad_names ro_z x1 x2 = some res) : MC l g yX11_find cX11_find 4 (some .int) rm_WP_findRoad_names [.ref (b 1), .int x1, .int x2] (([n_Road g b ro_z] : List va_W)) (some (.int res)) (([n_Road g b ro_z] : List va_W)) 0 0 := by
  refine MC_of (own := RX11) (lv := [(0, .ref (b 1)), (1, .int x1), (2, .int x2)]) (by decide) rfl (Nat.le_of_ble_eq_true rfl) rfl rfl (fun E hE hq => ?_)
  unfold f_WP_findRoad_names at hf
  refine j_iconst (v := 0) hE dX11_find_0 (by decide) ?_
  refine j_istore_n (lv' := [(3, .int 0), (0, .ref (b 1)), (1, .int x1), (2, .int x2)]) hE dX11_find_1 rfl (by decide) rfl ?_
  exact j_sub [1, 2, 3, 0] rfl (j_WP_findRoad_names_2 E g b ro_z x1 x2 res hE hq FU 0 hf)
def rm_Reader_readNameRoad_names : Room := { frames := 2, cells := 0, slots := 0, locals := 43 }
def f_Reader_readNameRoad_names (re_z : jZ) (ta_z : jZ) (ro_z : jZ) (x2 : Int32) : Option (jZ × jZ × jZ × Int32) := (if (ta_z 4 0) = 1 then (f_Tape_isOfLanguage (ta_z 5 0)).bind fun q5 => (if q5 = 0 then (f_WP_findRoad_names ro_z x2 (ta_z 5 0)).bind fun q8 => (if q8 = (-1) then (if x2 < 0 then (f_Reader_stop re_z ta_z 2).bind fun q12 => (bz q12.2).bind fun _ => some (q12.1, ta_z, ro_z, q12.2)
    else (if x2 < 12 then (ix x2 12).bind fun _ => (f_Tape_step ta_z).bind fun q16 => some (re_z, q16, (up2 ro_z 8 (Int32.toNatClampNeg x2) (ta_z 5 0)), 1)
    else (f_Reader_stop re_z ta_z 2).bind fun q18 => (bz q18.2).bind fun _ => some (q18.1, ta_z, ro_z, q18.2)))
    else (f_Reader_stop re_z ta_z 3).bind fun q21 => (bz q21.2).bind fun _ => some (q21.1, ta_z, ro_z, q21.2))
    else (f_Reader_stop re_z ta_z 1).bind fun q24 => (bz q24.2).bind fun _ => some (q24.1, ta_z, ro_z, q24.2))
    else (f_Reader_stop re_z ta_z 1).bind fun q2 => (bz q2.2).bind fun _ => some (q2.1, ta_z, ro_z, q2.2))
set_option maxRecDepth 100000 in
theorem c_Reader_readNameRoad_names (l : Launch) (g : jG) (a : Nat → Nat) (b : Nat → Nat) (re_z : jZ) (ta_z : jZ) (ro_z : jZ) (x2 : Int32) (res : jZ × jZ × jZ × Int32) (hf : f_Reader_readNameRoad_names re_z ta_z ro_z x2 = some res) : MC l g yX7_readName cX7_readName 3 (some .boolean) rm_Reader_readNameRoad_names [.ref (a 0), .ref (b 1), .int x2] (([n_Reader g a re_z, n_Tape g (fun i => a (i + 3)) ta_z, n_Road g b ro_z] : List va_W)) (some (.int res.2.2.2)) (([n_Reader g a res.1, n_Tape g (fun i => a (i + 3)) res.2.1, n_Road g b res.2.2.1] : List va_W)) 0 0 := by
  refine MC_of (own := RX7) (lv := [(0, .ref (a 0)), (1, .ref (b 1)), (2, .int x2)]) (by decide) rfl (Nat.le_of_ble_eq_true rfl) rfl rfl (fun E hE hq => ?_)
  unfold f_Reader_readNameRoad_names at hf
  refine j_aload_n hE dX7_readName_0 rfl 0 rfl ?_
  refine j_get (v := .ref (a 3)) hE lg_Reader_12 0 rfl 0 (wg_Reader_0 g a re_z) rfl dX7_readName_1 ?_
  refine j_get (v := .int (ta_z 4 0)) hE lg_Reader_58 1 rfl 0 (wg_Tape_0 g (fun i => a (i + 3)) ta_z) rfl dX7_readName_4 ?_
  refine j_iconst (v := 1) hE dX7_readName_7 (by decide) ?_
  refine j_icmp_ne (tgt := 24) hE hf dX7_readName_8 (by decide) (fun c1 hf => ?_) (fun c1 hf => ?_)
  · refine j_aload_n hE dX7_readName_24 rfl 0 rfl ?_
    refine j_iconst (v := 1) hE dX7_readName_25 (by decide) ?_
    obtain ⟨q2, hc3, hf⟩ := bind_of hf
    refine j_callV (ws' := ([n_Reader g a q2.1, n_Tape g (fun i => a (i + 3)) ta_z, n_Road g b ro_z] : List va_W)) (As := [.int 1]) (rest := []) (st2 := [.int q2.2]) hE (fun l => c_Reader_stop l g a re_z ta_z 1 q2 hc3) cd_X7_stop cv_X7_stop ml_Reader_99 rfl rfl rfl (wg_Reader_0 _ _ _) ⟨⟨Nat.le_of_ble_eq_true rfl, Nat.le_of_ble_eq_true rfl⟩, ⟨Nat.zero_le _, Nat.zero_le _⟩, rfl, rfl⟩ [0, 1] rfl rfl rfl (Nat.le_of_ble_eq_true rfl) rfl dX7_readName_26 ?_
    obtain ⟨b4, hf⟩ := bz_of hf
    obtain rfl := Option.some.inj hf
    exact j_zret_c hE b4 hq rfl rfl dX7_readName_29
  · refine j_aload_n hE dX7_readName_11 rfl 0 rfl ?_
    refine j_get (v := .ref (a 3)) hE lg_Reader_12 0 rfl 0 (wg_Reader_0 g a re_z) rfl dX7_readName_12 ?_
    refine j_get (v := .int (ta_z 5 0)) hE lg_Reader_181 1 rfl 0 (wg_Tape_0 g (fun i => a (i + 3)) ta_z) rfl dX7_readName_15 ?_
    obtain ⟨q5, hc6, hf⟩ := bind_of hf
    refine j_callS (ws' := ([n_Reader g a re_z, n_Tape g (fun i => a (i + 3)) ta_z, n_Road g b ro_z] : List va_W)) (As := [.int (ta_z 5 0)]) (rest := []) (st2 := [.int q5]) hE (fun l => c_Tape_isOfLanguage l g (ta_z 5 0) q5 hc6) cd_X10_isOfLanguage st_X10_isOfLanguage ml_Reader_184 rfl rfl ⟨⟨Nat.le_of_ble_eq_true rfl, Nat.le_of_ble_eq_true rfl⟩, ⟨Nat.zero_le _, Nat.zero_le _⟩, rfl, rfl⟩ [] rfl rfl rfl (Nat.le_of_ble_eq_true rfl) rfl dX7_readName_18 ?_
    refine j_if_eq (tgt := 30) hE hf dX7_readName_21 (by decide) (fun c7 hf => ?_) (fun c7 hf => ?_)
    · refine j_aload_n hE dX7_readName_30 rfl 1 rfl ?_
      refine j_iload_n hE dX7_readName_31 rfl 2 rfl ?_
      refine j_aload_n hE dX7_readName_32 rfl 0 rfl ?_
      refine j_get (v := .ref (a 3)) hE lg_Reader_12 0 rfl 0 (wg_Reader_0 g a re_z) rfl dX7_readName_33 ?_
      refine j_get (v := .int (ta_z 5 0)) hE lg_Reader_181 1 rfl 0 (wg_Tape_0 g (fun i => a (i + 3)) ta_z) rfl dX7_readName_36 ?_
      obtain ⟨q8, hc9, hf⟩ := bind_of hf
      refine j_callSN (ws' := ([n_Reader g a re_z, n_Tape g (fun i => a (i + 3)) ta_z, n_Road g b ro_z] : List va_W)) (As := [.ref (b 1), .int x2, .int (ta_z 5 0)]) (rest := []) (st2 := [.int q8]) hE (fun l => c_WP_findRoad_names l g b ro_z x2 (ta_z 5 0) q8 hc9) cd_X11_find st_X11_find ml_Reader_187 rfl rfl ⟨⟨Nat.le_of_ble_eq_true rfl, Nat.le_of_ble_eq_true rfl⟩, ⟨Nat.zero_le _, Nat.zero_le _⟩, rfl, rfl⟩ [2] rfl rfl rfl (Nat.le_of_ble_eq_true rfl) rfl dX7_readName_39 ?_
      refine j_iconst (v := (-1)) hE dX7_readName_42 (by decide) ?_
      refine j_icmp_eq (tgt := 52) hE hf dX7_readName_43 (by decide) (fun c10 hf => ?_) (fun c10 hf => ?_)
      · refine j_iload_n hE dX7_readName_52 rfl 2 rfl ?_
        refine j_if_lt (tgt := 62) hE hf dX7_readName_53 (by decide) (fun c11 hf => ?_) (fun c11 hf => ?_)
        · refine j_aload_n hE dX7_readName_62 rfl 0 rfl ?_
          refine j_iconst (v := 2) hE dX7_readName_63 (by decide) ?_
          obtain ⟨q12, hc13, hf⟩ := bind_of hf
          refine j_callV (ws' := ([n_Reader g a q12.1, n_Tape g (fun i => a (i + 3)) ta_z, n_Road g b ro_z] : List va_W)) (As := [.int 2]) (rest := []) (st2 := [.int q12.2]) hE (fun l => c_Reader_stop l g a re_z ta_z 2 q12 hc13) cd_X7_stop cv_X7_stop ml_Reader_99 rfl rfl rfl (wg_Reader_0 _ _ _) ⟨⟨Nat.le_of_ble_eq_true rfl, Nat.le_of_ble_eq_true rfl⟩, ⟨Nat.zero_le _, Nat.zero_le _⟩, rfl, rfl⟩ [0, 1] rfl rfl rfl (Nat.le_of_ble_eq_true rfl) rfl dX7_readName_64 ?_
          obtain ⟨b14, hf⟩ := bz_of hf
          obtain rfl := Option.some.inj hf
          exact j_zret_c hE b14 hq rfl rfl dX7_readName_67
        · refine j_iload_n hE dX7_readName_56 rfl 2 rfl ?_
          refine j_aload_n hE dX7_readName_57 rfl 1 rfl ?_
          refine j_alen (v := 12) (t0 := 1) hE 2 rfl 1 (wg_Road_1 g b ro_z) rfl rfl dX7_readName_58 ?_
          refine j_icmp_lt (tgt := 68) hE hf dX7_readName_59 (by decide) (fun c15 hf => ?_) (fun c15 hf => ?_)
          · refine j_aload_n hE dX7_readName_68 rfl 1 rfl ?_
            refine j_iload_n hE dX7_readName_69 rfl 2 rfl ?_
            refine j_aload_n hE dX7_readName_70 rfl 0 rfl ?_
            refine j_get (v := .ref (a 3)) hE lg_Reader_12 0 rfl 0 (wg_Reader_0 g a re_z) rfl dX7_readName_71 ?_
            refine j_get (v := .int (ta_z 5 0)) hE lg_Reader_181 1 rfl 0 (wg_Tape_0 g (fun i => a (i + 3)) ta_z) rfl dX7_readName_74 ?_
            refine j_iast (ws' := ([n_Reader g a re_z, n_Tape g (fun i => a (i + 3)) ta_z, n_Road g b (up2 ro_z 8 (Int32.toNatClampNeg x2) (ta_z 5 0))] : List va_W)) hE hf 2 rfl 1 (wg_Road_1 g b ro_z) (wa_Road_1 g b ro_z (Int32.toNatClampNeg x2) (ta_z 5 0)) rfl dX7_readName_77 (fun hf => ?_)
            refine j_aload_n hE dX7_readName_78 rfl 0 rfl ?_
            refine j_get (v := .ref (a 3)) hE lg_Reader_12 0 rfl 0 (wg_Reader_0 g a re_z) rfl dX7_readName_79 ?_
            obtain ⟨q16, hc17, hf⟩ := bind_of hf
            refine j_callV (ws' := ([n_Reader g a re_z, n_Tape g (fun i => a (i + 3)) q16, n_Road g b (up2 ro_z 8 (Int32.toNatClampNeg x2) (ta_z 5 0))] : List va_W)) (As := []) (rest := []) (st2 := []) hE (fun l => c_Tape_step l g (fun i => a (i + 3)) ta_z q16 hc17) cd_X10_step cv_X10_step ml_Reader_112 rfl rfl rfl (wg_Tape_0 _ _ _) ⟨⟨Nat.le_of_ble_eq_true rfl, Nat.le_of_ble_eq_true rfl⟩, ⟨Nat.zero_le _, Nat.zero_le _⟩, rfl, rfl⟩ [1] rfl rfl rfl (Nat.le_of_ble_eq_true rfl) rfl dX7_readName_82 ?_
            refine j_iconst (v := 1) hE dX7_readName_85 (by decide) ?_
            obtain rfl := Option.some.inj hf
            exact j_zret_c hE (Or.inr rfl) hq rfl rfl dX7_readName_86
          · refine j_aload_n hE dX7_readName_62 rfl 0 rfl ?_
            refine j_iconst (v := 2) hE dX7_readName_63 (by decide) ?_
            obtain ⟨q18, hc19, hf⟩ := bind_of hf
            refine j_callV (ws' := ([n_Reader g a q18.1, n_Tape g (fun i => a (i + 3)) ta_z, n_Road g b ro_z] : List va_W)) (As := [.int 2]) (rest := []) (st2 := [.int q18.2]) hE (fun l => c_Reader_stop l g a re_z ta_z 2 q18 hc19) cd_X7_stop cv_X7_stop ml_Reader_99 rfl rfl rfl (wg_Reader_0 _ _ _) ⟨⟨Nat.le_of_ble_eq_true rfl, Nat.le_of_ble_eq_true rfl⟩, ⟨Nat.zero_le _, Nat.zero_le _⟩, rfl, rfl⟩ [0, 1] rfl rfl rfl (Nat.le_of_ble_eq_true rfl) rfl dX7_readName_64 ?_
            obtain ⟨b20, hf⟩ := bz_of hf
            obtain rfl := Option.some.inj hf
            exact j_zret_c hE b20 hq rfl rfl dX7_readName_67
      · refine j_aload_n hE dX7_readName_46 rfl 0 rfl ?_
        refine j_iconst (v := 3) hE dX7_readName_47 (by decide) ?_
        obtain ⟨q21, hc22, hf⟩ := bind_of hf
        refine j_callV (ws' := ([n_Reader g a q21.1, n_Tape g (fun i => a (i + 3)) ta_z, n_Road g b ro_z] : List va_W)) (As := [.int 3]) (rest := []) (st2 := [.int q21.2]) hE (fun l => c_Reader_stop l g a re_z ta_z 3 q21 hc22) cd_X7_stop cv_X7_stop ml_Reader_99 rfl rfl rfl (wg_Reader_0 _ _ _) ⟨⟨Nat.le_of_ble_eq_true rfl, Nat.le_of_ble_eq_true rfl⟩, ⟨Nat.zero_le _, Nat.zero_le _⟩, rfl, rfl⟩ [0, 1] rfl rfl rfl (Nat.le_of_ble_eq_true rfl) rfl dX7_readName_48 ?_
        obtain ⟨b23, hf⟩ := bz_of hf
        obtain rfl := Option.some.inj hf
        exact j_zret_c hE b23 hq rfl rfl dX7_readName_51
    · refine j_aload_n hE dX7_readName_24 rfl 0 rfl ?_
      refine j_iconst (v := 1) hE dX7_readName_25 (by decide) ?_
      obtain ⟨q24, hc25, hf⟩ := bind_of hf
      refine j_callV (ws' := ([n_Reader g a q24.1, n_Tape g (fun i => a (i + 3)) ta_z, n_Road g b ro_z] : List va_W)) (As := [.int 1]) (rest := []) (st2 := [.int q24.2]) hE (fun l => c_Reader_stop l g a re_z ta_z 1 q24 hc25) cd_X7_stop cv_X7_stop ml_Reader_99 rfl rfl rfl (wg_Reader_0 _ _ _) ⟨⟨Nat.le_of_ble_eq_true rfl, Nat.le_of_ble_eq_true rfl⟩, ⟨Nat.zero_le _, Nat.zero_le _⟩, rfl, rfl⟩ [0, 1] rfl rfl rfl (Nat.le_of_ble_eq_true rfl) rfl dX7_readName_26 ?_
      obtain ⟨b26, hf⟩ := bz_of hf
      obtain rfl := Option.some.inj hf
      exact j_zret_c hE b26 hq rfl rfl dX7_readName_29
def rm_Reader_readPlace : Room := { frames := 3, cells := 0, slots := 0, locals := 66 }
def f_Reader_readPlace (re_z : jZ) (ta_z : jZ) (ro_z : jZ)  : Option (jZ × jZ × jZ × Int32) := (if (ro_z 7 0) < 0 then (f_Reader_stop re_z ta_z 2).bind fun q2 => (bz q2.2).bind fun _ => some (q2.1, ta_z, ro_z, q2.2)
    else (if (ro_z 7 0) < 12 then (f_Tape_step ta_z).bind fun q6 => (f_Reader_readNameRoad_names re_z q6 ro_z (ro_z 7 0)).bind fun q8 => (if q8.2.2.2 = 0 then some (q8.1, q8.2.1, q8.2.2.1, 0)
    else (f_Reader_readNumber q8.1 q8.2.1 0 9).bind fun q11 => (if q11.2.2 = (-1) then some (q11.1, q11.2.1, q8.2.2.1, 0)
    else (ix (ro_z 7 0) 12).bind fun _ => some (q11.1, q11.2.1, (up2 (up2 q8.2.2.1 9 (Int32.toNatClampNeg (ro_z 7 0)) q11.2.2) 7 0 ((ro_z 7 0) + 1)), 1)))
    else (f_Reader_stop re_z ta_z 2).bind fun q14 => (bz q14.2).bind fun _ => some (q14.1, ta_z, ro_z, q14.2)))
set_option maxRecDepth 100000 in
theorem c_Reader_readPlace (l : Launch) (g : jG) (a : Nat → Nat) (b : Nat → Nat) (re_z : jZ) (ta_z : jZ) (ro_z : jZ) (ki_z : jZ) (ru_z : jZ) (ru_y : jY) (no_z : jZ)  (res : jZ × jZ × jZ × Int32) (hf : f_Reader_readPlace re_z ta_z ro_z = some res) : MC l g yX7_readPlace cX7_readPlace 4 (some .boolean) rm_Reader_readPlace [.ref (a 0), .ref (b 0)] (([n_Reader g a re_z, n_Tape g (fun i => a (i + 3)) ta_z, n_Road g b ro_z, n_Kinds g (fun i => b (i + 8)) ki_z, n_Rule g (fun i => b (i + 14)) ru_z ru_y, n_Notes g (fun i => b (i + 17)) no_z] : List va_W)) (some (.int res.2.2.2)) (([n_Reader g a res.1, n_Tape g (fun i => a (i + 3)) res.2.1, n_Road g b res.2.2.1, n_Kinds g (fun i => b (i + 8)) ki_z, n_Rule g (fun i => b (i + 14)) ru_z ru_y, n_Notes g (fun i => b (i + 17)) no_z] : List va_W)) 0 0 := by
  refine MC_of (own := RX7) (lv := [(0, .ref (a 0)), (1, .ref (b 0))]) (by decide) rfl (Nat.le_of_ble_eq_true rfl) rfl rfl (fun E hE hq => ?_)
  unfold f_Reader_readPlace at hf
  refine j_aload_n hE dX7_readPlace_0 rfl 1 rfl ?_
  refine j_get (v := .int (ro_z 7 0)) hE lg_Reader_79 2 rfl 0 (wg_Road_0 g b ro_z) rfl dX7_readPlace_1 ?_
  refine j_istore_n (lv' := [(2, .int (ro_z 7 0)), (0, .ref (a 0)), (1, .ref (b 0))]) hE dX7_readPlace_4 rfl (by decide) rfl ?_
  refine j_iload_n hE dX7_readPlace_5 rfl 0 rfl ?_
  refine j_if_lt (tgt := 15) hE hf dX7_readPlace_6 (by decide) (fun c1 hf => ?_) (fun c1 hf => ?_)
  · refine j_aload_n hE dX7_readPlace_15 rfl 1 rfl ?_
    refine j_iconst (v := 2) hE dX7_readPlace_16 (by decide) ?_
    obtain ⟨q2, hc3, hf⟩ := bind_of hf
    refine j_callV (ws' := ([n_Reader g a q2.1, n_Tape g (fun i => a (i + 3)) ta_z, n_Road g b ro_z, n_Kinds g (fun i => b (i + 8)) ki_z, n_Rule g (fun i => b (i + 14)) ru_z ru_y, n_Notes g (fun i => b (i + 17)) no_z] : List va_W)) (As := [.int 2]) (rest := []) (st2 := [.int q2.2]) hE (fun l => c_Reader_stop l g a re_z ta_z 2 q2 hc3) cd_X7_stop cv_X7_stop ml_Reader_99 rfl rfl rfl (wg_Reader_0 _ _ _) ⟨⟨Nat.le_of_ble_eq_true rfl, Nat.le_of_ble_eq_true rfl⟩, ⟨Nat.zero_le _, Nat.zero_le _⟩, rfl, rfl⟩ [0, 1] rfl rfl rfl (Nat.le_of_ble_eq_true rfl) rfl dX7_readPlace_17 ?_
    obtain ⟨b4, hf⟩ := bz_of hf
    obtain rfl := Option.some.inj hf
    exact j_zret_c hE b4 hq rfl rfl dX7_readPlace_20
  · refine j_iload_n hE dX7_readPlace_9 rfl 0 rfl ?_
    refine j_bipush (v := 12) hE dX7_readPlace_10 (by decide) ?_
    refine j_icmp_lt (tgt := 21) hE hf dX7_readPlace_12 (by decide) (fun c5 hf => ?_) (fun c5 hf => ?_)
    · refine j_aload_n hE dX7_readPlace_21 rfl 1 rfl ?_
      refine j_get (v := .ref (a 3)) hE lg_Reader_12 0 rfl 0 (wg_Reader_0 g a re_z) rfl dX7_readPlace_22 ?_
      obtain ⟨q6, hc7, hf⟩ := bind_of hf
      refine j_callV (ws' := ([n_Reader g a re_z, n_Tape g (fun i => a (i + 3)) q6, n_Road g b ro_z, n_Kinds g (fun i => b (i + 8)) ki_z, n_Rule g (fun i => b (i + 14)) ru_z ru_y, n_Notes g (fun i => b (i + 17)) no_z] : List va_W)) (As := []) (rest := []) (st2 := []) hE (fun l => c_Tape_step l g (fun i => a (i + 3)) ta_z q6 hc7) cd_X10_step cv_X10_step ml_Reader_112 rfl rfl rfl (wg_Tape_0 _ _ _) ⟨⟨Nat.le_of_ble_eq_true rfl, Nat.le_of_ble_eq_true rfl⟩, ⟨Nat.zero_le _, Nat.zero_le _⟩, rfl, rfl⟩ [1] rfl rfl rfl (Nat.le_of_ble_eq_true rfl) rfl dX7_readPlace_25 ?_
      refine j_aload_n hE dX7_readPlace_28 rfl 1 rfl ?_
      refine j_aload_n hE dX7_readPlace_29 rfl 2 rfl ?_
      refine j_get (v := .ref (b 1)) hE lg_Reader_141 2 rfl 0 (wg_Road_0 g b ro_z) rfl dX7_readPlace_30 ?_
      refine j_iload_n hE dX7_readPlace_33 rfl 0 rfl ?_
      obtain ⟨q8, hc9, hf⟩ := bind_of hf
      refine j_callV (ws' := ([n_Reader g a q8.1, n_Tape g (fun i => a (i + 3)) q8.2.1, n_Road g b q8.2.2.1, n_Kinds g (fun i => b (i + 8)) ki_z, n_Rule g (fun i => b (i + 14)) ru_z ru_y, n_Notes g (fun i => b (i + 17)) no_z] : List va_W)) (As := [.ref (b 1), .int (ro_z 7 0)]) (rest := []) (st2 := [.int q8.2.2.2]) hE (fun l => c_Reader_readNameRoad_names l g a b re_z q6 ro_z (ro_z 7 0) q8 hc9) cd_X7_readName cv_X7_readName ml_Reader_123 rfl rfl rfl (wg_Reader_0 _ _ _) ⟨⟨Nat.le_of_ble_eq_true rfl, Nat.le_of_ble_eq_true rfl⟩, ⟨Nat.zero_le _, Nat.zero_le _⟩, rfl, rfl⟩ [0, 1, 2] rfl rfl rfl (Nat.le_of_ble_eq_true rfl) rfl dX7_readPlace_34 ?_
      refine j_if_ne (tgt := 42) hE hf dX7_readPlace_37 (by decide) (fun c10 hf => ?_) (fun c10 hf => ?_)
      · refine j_aload_n hE dX7_readPlace_42 rfl 1 rfl ?_
        refine j_iconst (v := 0) hE dX7_readPlace_43 (by decide) ?_
        refine j_bipush (v := 9) hE dX7_readPlace_44 (by decide) ?_
        obtain ⟨q11, hc12, hf⟩ := bind_of hf
        refine j_callV (ws' := ([n_Reader g a q11.1, n_Tape g (fun i => a (i + 3)) q11.2.1, n_Road g b q8.2.2.1, n_Kinds g (fun i => b (i + 8)) ki_z, n_Rule g (fun i => b (i + 14)) ru_z ru_y, n_Notes g (fun i => b (i + 17)) no_z] : List va_W)) (As := [.int 0, .int 9]) (rest := []) (st2 := [.int q11.2.2]) hE (fun l => c_Reader_readNumber l g a q8.1 q8.2.1 0 9 q11 hc12) cd_X7_readNumber cv_X7_readNumber ml_Reader_127 rfl rfl rfl (wg_Reader_0 _ _ _) ⟨⟨Nat.le_of_ble_eq_true rfl, Nat.le_of_ble_eq_true rfl⟩, ⟨Nat.zero_le _, Nat.zero_le _⟩, rfl, rfl⟩ [0, 1] rfl rfl rfl (Nat.le_of_ble_eq_true rfl) rfl dX7_readPlace_46 ?_
        refine j_istore_n (lv' := [(3, .int q11.2.2), (2, .int (ro_z 7 0)), (0, .ref (a 0)), (1, .ref (b 0))]) hE dX7_readPlace_49 rfl (by decide) rfl ?_
        refine j_iload_n hE dX7_readPlace_50 rfl 0 rfl ?_
        refine j_iconst (v := (-1)) hE dX7_readPlace_51 (by decide) ?_
        refine j_icmp_ne (tgt := 57) hE hf dX7_readPlace_52 (by decide) (fun c13 hf => ?_) (fun c13 hf => ?_)
        · refine j_aload_n hE dX7_readPlace_57 rfl 3 rfl ?_
          refine j_get (v := .ref (b 2)) hE lg_Reader_142 2 rfl 0 (wg_Road_0 g b q8.2.2.1) rfl dX7_readPlace_58 ?_
          refine j_iload_n hE dX7_readPlace_61 rfl 1 rfl ?_
          refine j_iload_n hE dX7_readPlace_62 rfl 0 rfl ?_
          refine j_iast (ws' := ([n_Reader g a q11.1, n_Tape g (fun i => a (i + 3)) q11.2.1, n_Road g b (up2 q8.2.2.1 9 (Int32.toNatClampNeg (ro_z 7 0)) q11.2.2), n_Kinds g (fun i => b (i + 8)) ki_z, n_Rule g (fun i => b (i + 14)) ru_z ru_y, n_Notes g (fun i => b (i + 17)) no_z] : List va_W)) hE hf 2 rfl 2 (wg_Road_2 g b q8.2.2.1) (wa_Road_2 g b q8.2.2.1 (Int32.toNatClampNeg (ro_z 7 0)) q11.2.2) rfl dX7_readPlace_63 (fun hf => ?_)
          refine j_aload_n hE dX7_readPlace_64 rfl 3 rfl ?_
          refine j_iload_n hE dX7_readPlace_65 rfl 1 rfl ?_
          refine j_iconst (v := 1) hE dX7_readPlace_66 (by decide) ?_
          refine j_iadd hE dX7_readPlace_67 ?_
          refine j_put (v := .int ((ro_z 7 0) + 1)) (ws' := ([n_Reader g a q11.1, n_Tape g (fun i => a (i + 3)) q11.2.1, n_Road g b (up2 (up2 q8.2.2.1 9 (Int32.toNatClampNeg (ro_z 7 0)) q11.2.2) 7 0 ((ro_z 7 0) + 1)), n_Kinds g (fun i => b (i + 8)) ki_z, n_Rule g (fun i => b (i + 14)) ru_z ru_y, n_Notes g (fun i => b (i + 17)) no_z] : List va_W)) hE lp_Reader_79 2 rfl 0 (wg_Road_0 g b (up2 q8.2.2.1 9 (Int32.toNatClampNeg (ro_z 7 0)) q11.2.2)) rfl rfl (Nat.le_of_ble_eq_true rfl) (wp_Road_7 g b (up2 q8.2.2.1 9 (Int32.toNatClampNeg (ro_z 7 0)) q11.2.2) ((ro_z 7 0) + 1)) rfl dX7_readPlace_68 ?_
          refine j_iconst (v := 1) hE dX7_readPlace_71 (by decide) ?_
          obtain rfl := Option.some.inj hf
          exact j_zret_c hE (Or.inr rfl) hq rfl rfl dX7_readPlace_72
        · refine j_iconst (v := 0) hE dX7_readPlace_55 (by decide) ?_
          obtain rfl := Option.some.inj hf
          exact j_zret_c hE (Or.inl rfl) hq rfl rfl dX7_readPlace_56
      · refine j_iconst (v := 0) hE dX7_readPlace_40 (by decide) ?_
        obtain rfl := Option.some.inj hf
        exact j_zret_c hE (Or.inl rfl) hq rfl rfl dX7_readPlace_41
    · refine j_aload_n hE dX7_readPlace_15 rfl 1 rfl ?_
      refine j_iconst (v := 2) hE dX7_readPlace_16 (by decide) ?_
      obtain ⟨q14, hc15, hf⟩ := bind_of hf
      refine j_callV (ws' := ([n_Reader g a q14.1, n_Tape g (fun i => a (i + 3)) ta_z, n_Road g b ro_z, n_Kinds g (fun i => b (i + 8)) ki_z, n_Rule g (fun i => b (i + 14)) ru_z ru_y, n_Notes g (fun i => b (i + 17)) no_z] : List va_W)) (As := [.int 2]) (rest := []) (st2 := [.int q14.2]) hE (fun l => c_Reader_stop l g a re_z ta_z 2 q14 hc15) cd_X7_stop cv_X7_stop ml_Reader_99 rfl rfl rfl (wg_Reader_0 _ _ _) ⟨⟨Nat.le_of_ble_eq_true rfl, Nat.le_of_ble_eq_true rfl⟩, ⟨Nat.zero_le _, Nat.zero_le _⟩, rfl, rfl⟩ [0, 1] rfl rfl rfl (Nat.le_of_ble_eq_true rfl) rfl dX7_readPlace_17 ?_
      obtain ⟨b16, hf⟩ := bz_of hf
      obtain rfl := Option.some.inj hf
      exact j_zret_c hE b16 hq rfl rfl dX7_readPlace_20
def rm_Reader_readWorks : Room := { frames := 3, cells := 0, slots := 0, locals := 66 }
def f_Reader_readWorks_47  (x2 : Int32)  (re_z : jZ) (ta_z : jZ) (ro_z : jZ) (v3 : Int32) (s0 : Int32) : Option (jZ × jZ × jZ × Int32) := (if s0 = (-1) then some (re_z, ta_z, ro_z, 0)
    else (ix x2 12).bind fun _ => (ix x2 12).bind fun _ => some (re_z, ta_z, (up2 (up2 ro_z 12 (Int32.toNatClampNeg x2) v3) 13 (Int32.toNatClampNeg x2) s0), 1))
def f_Reader_readWorks (re_z : jZ) (ta_z : jZ) (ro_z : jZ) (x2 : Int32) : Option (jZ × jZ × jZ × Int32) := (ix x2 12).bind fun _ => (if (ro_z 12 (Int32.toNatClampNeg x2)) = (-1) then (f_Tape_step ta_z).bind fun q3 => (f_Reader_readNumber re_z q3 0 8).bind fun q5 => (if q5.2.2 = (-1) then f_Reader_readWorks_47 x2 q5.1 q5.2.1 ro_z q5.2.2 (-1)
    else (f_Reader_readNumber q5.1 q5.2.1 0 9).bind fun q8 => f_Reader_readWorks_47 x2 q8.1 q8.2.1 ro_z q5.2.2 q8.2.2)
    else (f_Reader_stop re_z ta_z 3).bind fun q10 => (bz q10.2).bind fun _ => some (q10.1, ta_z, ro_z, q10.2))
set_option maxRecDepth 100000 in
theorem j_Reader_readWorks_47 (E : jT) (g : jG) (a : Nat → Nat) (b : Nat → Nat) (ki_z : jZ) (ru_z : jZ) (ru_y : jY) (no_z : jZ) (x2 : Int32) (res : jZ × jZ × jZ × Int32) (hE : jOk E g RX7 cX7_readWorks 5 (some .boolean) rm_Reader_readWorks) (hq : jEnd E g (some (.int res.2.2.2)) (([n_Reader g a res.1, n_Tape g (fun i => a (i + 3)) res.2.1, n_Road g b res.2.2.1, n_Kinds g (fun i => b (i + 8)) ki_z, n_Rule g (fun i => b (i + 14)) ru_z ru_y, n_Notes g (fun i => b (i + 17)) no_z] : List va_W)) 0 0)  (re_z : jZ) (ta_z : jZ) (ro_z : jZ) (v3 : Int32) (s0 : Int32) (hf : f_Reader_readWorks_47 x2 re_z ta_z ro_z v3 s0 = some res) : J E g 0 0 (([n_Reader g a re_z, n_Tape g (fun i => a (i + 3)) ta_z, n_Road g b ro_z, n_Kinds g (fun i => b (i + 8)) ki_z, n_Rule g (fun i => b (i + 14)) ru_z ru_y, n_Notes g (fun i => b (i + 17)) no_z] : List va_W)) [(1, .ref (b 0)), (2, .int x2), (3, .int v3)] 47 [.int s0] := by
  unfold f_Reader_readWorks_47 at hf
  refine j_istore (lv' := [(4, .int s0), (1, .ref (b 0)), (2, .int x2), (3, .int v3)]) hE dX7_readWorks_47 (by decide) rfl ?_
  refine j_iload hE dX7_readWorks_49 0 rfl ?_
  refine j_iconst (v := (-1)) hE dX7_readWorks_51 (by decide) ?_
  refine j_icmp_ne (tgt := 57) hE hf dX7_readWorks_52 (by decide) (fun c13 hf => ?_) (fun c13 hf => ?_)
  · refine j_aload_n hE dX7_readWorks_57 rfl 1 rfl ?_
    refine j_get (v := .ref (b 5)) hE lg_Reader_166 2 rfl 0 (wg_Road_0 g b ro_z) rfl dX7_readWorks_58 ?_
    refine j_iload_n hE dX7_readWorks_61 rfl 2 rfl ?_
    refine j_iload_n hE dX7_readWorks_62 rfl 3 rfl ?_
    refine j_iast (ws' := ([n_Reader g a re_z, n_Tape g (fun i => a (i + 3)) ta_z, n_Road g b (up2 ro_z 12 (Int32.toNatClampNeg x2) v3), n_Kinds g (fun i => b (i + 8)) ki_z, n_Rule g (fun i => b (i + 14)) ru_z ru_y, n_Notes g (fun i => b (i + 17)) no_z] : List va_W)) hE hf 2 rfl 5 (wg_Road_5 g b ro_z) (wa_Road_5 g b ro_z (Int32.toNatClampNeg x2) v3) rfl dX7_readWorks_63 (fun hf => ?_)
    refine j_aload_n hE dX7_readWorks_64 rfl 1 rfl ?_
    refine j_get (v := .ref (b 6)) hE lg_Reader_169 2 rfl 0 (wg_Road_0 g b (up2 ro_z 12 (Int32.toNatClampNeg x2) v3)) rfl dX7_readWorks_65 ?_
    refine j_iload_n hE dX7_readWorks_68 rfl 2 rfl ?_
    refine j_iload hE dX7_readWorks_69 0 rfl ?_
    refine j_iast (ws' := ([n_Reader g a re_z, n_Tape g (fun i => a (i + 3)) ta_z, n_Road g b (up2 (up2 ro_z 12 (Int32.toNatClampNeg x2) v3) 13 (Int32.toNatClampNeg x2) s0), n_Kinds g (fun i => b (i + 8)) ki_z, n_Rule g (fun i => b (i + 14)) ru_z ru_y, n_Notes g (fun i => b (i + 17)) no_z] : List va_W)) hE hf 2 rfl 6 (wg_Road_6 g b (up2 ro_z 12 (Int32.toNatClampNeg x2) v3)) (wa_Road_6 g b (up2 ro_z 12 (Int32.toNatClampNeg x2) v3) (Int32.toNatClampNeg x2) s0) rfl dX7_readWorks_71 (fun hf => ?_)
    refine j_iconst (v := 1) hE dX7_readWorks_72 (by decide) ?_
    obtain rfl := Option.some.inj hf
    exact j_zret_c hE (Or.inr rfl) hq rfl rfl dX7_readWorks_73
  · refine j_iconst (v := 0) hE dX7_readWorks_55 (by decide) ?_
    obtain rfl := Option.some.inj hf
    exact j_zret_c hE (Or.inl rfl) hq rfl rfl dX7_readWorks_56
set_option maxRecDepth 100000 in
theorem c_Reader_readWorks (l : Launch) (g : jG) (a : Nat → Nat) (b : Nat → Nat) (re_z : jZ) (ta_z : jZ) (ro_z : jZ) (ki_z : jZ) (ru_z : jZ) (ru_y : jY) (no_z : jZ) (x2 : Int32) (res : jZ × jZ × jZ × Int32) (hf : f_Reader_readWorks re_z ta_z ro_z x2 = some res) : MC l g yX7_readWorks cX7_readWorks 5 (some .boolean) rm_Reader_readWorks [.ref (a 0), .ref (b 0), .int x2] (([n_Reader g a re_z, n_Tape g (fun i => a (i + 3)) ta_z, n_Road g b ro_z, n_Kinds g (fun i => b (i + 8)) ki_z, n_Rule g (fun i => b (i + 14)) ru_z ru_y, n_Notes g (fun i => b (i + 17)) no_z] : List va_W)) (some (.int res.2.2.2)) (([n_Reader g a res.1, n_Tape g (fun i => a (i + 3)) res.2.1, n_Road g b res.2.2.1, n_Kinds g (fun i => b (i + 8)) ki_z, n_Rule g (fun i => b (i + 14)) ru_z ru_y, n_Notes g (fun i => b (i + 17)) no_z] : List va_W)) 0 0 := by
  refine MC_of (own := RX7) (lv := [(0, .ref (a 0)), (1, .ref (b 0)), (2, .int x2)]) (by decide) rfl (Nat.le_of_ble_eq_true rfl) rfl rfl (fun E hE hq => ?_)
  unfold f_Reader_readWorks at hf
  refine j_aload_n hE dX7_readWorks_0 rfl 1 rfl ?_
  refine j_get (v := .ref (b 5)) hE lg_Reader_166 2 rfl 0 (wg_Road_0 g b ro_z) rfl dX7_readWorks_1 ?_
  refine j_iload_n hE dX7_readWorks_4 rfl 2 rfl ?_
  refine j_iald hE hf 2 rfl 5 (wg_Road_5 g b ro_z) dX7_readWorks_5 (fun hf => ?_)
  refine j_iconst (v := (-1)) hE dX7_readWorks_6 (by decide) ?_
  refine j_icmp_eq (tgt := 16) hE hf dX7_readWorks_7 (by decide) (fun c2 hf => ?_) (fun c2 hf => ?_)
  · refine j_aload_n hE dX7_readWorks_16 rfl 0 rfl ?_
    refine j_get (v := .ref (a 3)) hE lg_Reader_12 0 rfl 0 (wg_Reader_0 g a re_z) rfl dX7_readWorks_17 ?_
    obtain ⟨q3, hc4, hf⟩ := bind_of hf
    refine j_callV (ws' := ([n_Reader g a re_z, n_Tape g (fun i => a (i + 3)) q3, n_Road g b ro_z, n_Kinds g (fun i => b (i + 8)) ki_z, n_Rule g (fun i => b (i + 14)) ru_z ru_y, n_Notes g (fun i => b (i + 17)) no_z] : List va_W)) (As := []) (rest := []) (st2 := []) hE (fun l => c_Tape_step l g (fun i => a (i + 3)) ta_z q3 hc4) cd_X10_step cv_X10_step ml_Reader_112 rfl rfl rfl (wg_Tape_0 _ _ _) ⟨⟨Nat.le_of_ble_eq_true rfl, Nat.le_of_ble_eq_true rfl⟩, ⟨Nat.zero_le _, Nat.zero_le _⟩, rfl, rfl⟩ [1] rfl rfl rfl (Nat.le_of_ble_eq_true rfl) rfl dX7_readWorks_20 ?_
    refine j_aload_n hE dX7_readWorks_23 rfl 0 rfl ?_
    refine j_iconst (v := 0) hE dX7_readWorks_24 (by decide) ?_
    refine j_bipush (v := 8) hE dX7_readWorks_25 (by decide) ?_
    obtain ⟨q5, hc6, hf⟩ := bind_of hf
    refine j_callV (ws' := ([n_Reader g a q5.1, n_Tape g (fun i => a (i + 3)) q5.2.1, n_Road g b ro_z, n_Kinds g (fun i => b (i + 8)) ki_z, n_Rule g (fun i => b (i + 14)) ru_z ru_y, n_Notes g (fun i => b (i + 17)) no_z] : List va_W)) (As := [.int 0, .int 8]) (rest := []) (st2 := [.int q5.2.2]) hE (fun l => c_Reader_readNumber l g a re_z q3 0 8 q5 hc6) cd_X7_readNumber cv_X7_readNumber ml_Reader_127 rfl rfl rfl (wg_Reader_0 _ _ _) ⟨⟨Nat.le_of_ble_eq_true rfl, Nat.le_of_ble_eq_true rfl⟩, ⟨Nat.zero_le _, Nat.zero_le _⟩, rfl, rfl⟩ [0, 1] rfl rfl rfl (Nat.le_of_ble_eq_true rfl) rfl dX7_readWorks_27 ?_
    refine j_istore_n (lv' := [(3, .int q5.2.2), (0, .ref (a 0)), (1, .ref (b 0)), (2, .int x2)]) hE dX7_readWorks_30 rfl (by decide) rfl ?_
    refine j_iload_n hE dX7_readWorks_31 rfl 0 rfl ?_
    refine j_iconst (v := (-1)) hE dX7_readWorks_32 (by decide) ?_
    refine j_icmp_ne (tgt := 40) hE hf dX7_readWorks_33 (by decide) (fun c7 hf => ?_) (fun c7 hf => ?_)
    · refine j_aload_n hE dX7_readWorks_40 rfl 1 rfl ?_
      refine j_iconst (v := 0) hE dX7_readWorks_41 (by decide) ?_
      refine j_bipush (v := 9) hE dX7_readWorks_42 (by decide) ?_
      obtain ⟨q8, hc9, hf⟩ := bind_of hf
      refine j_callV (ws' := ([n_Reader g a q8.1, n_Tape g (fun i => a (i + 3)) q8.2.1, n_Road g b ro_z, n_Kinds g (fun i => b (i + 8)) ki_z, n_Rule g (fun i => b (i + 14)) ru_z ru_y, n_Notes g (fun i => b (i + 17)) no_z] : List va_W)) (As := [.int 0, .int 9]) (rest := []) (st2 := [.int q8.2.2]) hE (fun l => c_Reader_readNumber l g a q5.1 q5.2.1 0 9 q8 hc9) cd_X7_readNumber cv_X7_readNumber ml_Reader_127 rfl rfl rfl (wg_Reader_0 _ _ _) ⟨⟨Nat.le_of_ble_eq_true rfl, Nat.le_of_ble_eq_true rfl⟩, ⟨Nat.zero_le _, Nat.zero_le _⟩, rfl, rfl⟩ [0, 1] rfl rfl rfl (Nat.le_of_ble_eq_true rfl) rfl dX7_readWorks_44 ?_
      exact j_sub [2, 3, 0] rfl (j_Reader_readWorks_47 E g a b ki_z ru_z ru_y no_z x2 res hE hq q8.1 q8.2.1 ro_z q5.2.2 q8.2.2 hf)
    · refine j_iconst (v := (-1)) hE dX7_readWorks_36 (by decide) ?_
      refine j_goto (tgt := 47) hE dX7_readWorks_37 (by decide) ?_
      exact j_sub [2, 3, 0] rfl (j_Reader_readWorks_47 E g a b ki_z ru_z ru_y no_z x2 res hE hq q5.1 q5.2.1 ro_z q5.2.2 (-1) hf)
  · refine j_aload_n hE dX7_readWorks_10 rfl 0 rfl ?_
    refine j_iconst (v := 3) hE dX7_readWorks_11 (by decide) ?_
    obtain ⟨q10, hc11, hf⟩ := bind_of hf
    refine j_callV (ws' := ([n_Reader g a q10.1, n_Tape g (fun i => a (i + 3)) ta_z, n_Road g b ro_z, n_Kinds g (fun i => b (i + 8)) ki_z, n_Rule g (fun i => b (i + 14)) ru_z ru_y, n_Notes g (fun i => b (i + 17)) no_z] : List va_W)) (As := [.int 3]) (rest := []) (st2 := [.int q10.2]) hE (fun l => c_Reader_stop l g a re_z ta_z 3 q10 hc11) cd_X7_stop cv_X7_stop ml_Reader_99 rfl rfl rfl (wg_Reader_0 _ _ _) ⟨⟨Nat.le_of_ble_eq_true rfl, Nat.le_of_ble_eq_true rfl⟩, ⟨Nat.zero_le _, Nat.zero_le _⟩, rfl, rfl⟩ [0, 1] rfl rfl rfl (Nat.le_of_ble_eq_true rfl) rfl dX7_readWorks_12 ?_
    obtain ⟨b12, hf⟩ := bz_of hf
    obtain rfl := Option.some.inj hf
    exact j_zret_c hE b12 hq rfl rfl dX7_readWorks_15
def rm_Reader_readBox : Room := { frames := 3, cells := 0, slots := 0, locals := 66 }
def f_Reader_readBox (re_z : jZ) (ta_z : jZ) (ro_z : jZ) (x2 : Int32) : Option (jZ × jZ × jZ × Int32) := (ix x2 12).bind fun _ => (if (ro_z 11 (Int32.toNatClampNeg x2)) = 0 then (f_Tape_step ta_z).bind fun q3 => (f_Reader_readNumber re_z q3 1 8).bind fun q5 => (if q5.2.2 = (-1) then some (q5.1, q5.2.1, ro_z, 0)
    else (ix x2 12).bind fun _ => some (q5.1, q5.2.1, (up2 ro_z 11 (Int32.toNatClampNeg x2) q5.2.2), 1))
    else (f_Reader_stop re_z ta_z 3).bind fun q8 => (bz q8.2).bind fun _ => some (q8.1, ta_z, ro_z, q8.2))
set_option maxRecDepth 100000 in
theorem c_Reader_readBox (l : Launch) (g : jG) (a : Nat → Nat) (b : Nat → Nat) (re_z : jZ) (ta_z : jZ) (ro_z : jZ) (ki_z : jZ) (ru_z : jZ) (ru_y : jY) (no_z : jZ) (x2 : Int32) (res : jZ × jZ × jZ × Int32) (hf : f_Reader_readBox re_z ta_z ro_z x2 = some res) : MC l g yX7_readBox cX7_readBox 4 (some .boolean) rm_Reader_readBox [.ref (a 0), .ref (b 0), .int x2] (([n_Reader g a re_z, n_Tape g (fun i => a (i + 3)) ta_z, n_Road g b ro_z, n_Kinds g (fun i => b (i + 8)) ki_z, n_Rule g (fun i => b (i + 14)) ru_z ru_y, n_Notes g (fun i => b (i + 17)) no_z] : List va_W)) (some (.int res.2.2.2)) (([n_Reader g a res.1, n_Tape g (fun i => a (i + 3)) res.2.1, n_Road g b res.2.2.1, n_Kinds g (fun i => b (i + 8)) ki_z, n_Rule g (fun i => b (i + 14)) ru_z ru_y, n_Notes g (fun i => b (i + 17)) no_z] : List va_W)) 0 0 := by
  refine MC_of (own := RX7) (lv := [(0, .ref (a 0)), (1, .ref (b 0)), (2, .int x2)]) (by decide) rfl (Nat.le_of_ble_eq_true rfl) rfl rfl (fun E hE hq => ?_)
  unfold f_Reader_readBox at hf
  refine j_aload_n hE dX7_readBox_0 rfl 1 rfl ?_
  refine j_get (v := .ref (b 4)) hE lg_Reader_163 2 rfl 0 (wg_Road_0 g b ro_z) rfl dX7_readBox_1 ?_
  refine j_iload_n hE dX7_readBox_4 rfl 2 rfl ?_
  refine j_iald hE hf 2 rfl 4 (wg_Road_4 g b ro_z) dX7_readBox_5 (fun hf => ?_)
  refine j_if_eq (tgt := 15) hE hf dX7_readBox_6 (by decide) (fun c2 hf => ?_) (fun c2 hf => ?_)
  · refine j_aload_n hE dX7_readBox_15 rfl 0 rfl ?_
    refine j_get (v := .ref (a 3)) hE lg_Reader_12 0 rfl 0 (wg_Reader_0 g a re_z) rfl dX7_readBox_16 ?_
    obtain ⟨q3, hc4, hf⟩ := bind_of hf
    refine j_callV (ws' := ([n_Reader g a re_z, n_Tape g (fun i => a (i + 3)) q3, n_Road g b ro_z, n_Kinds g (fun i => b (i + 8)) ki_z, n_Rule g (fun i => b (i + 14)) ru_z ru_y, n_Notes g (fun i => b (i + 17)) no_z] : List va_W)) (As := []) (rest := []) (st2 := []) hE (fun l => c_Tape_step l g (fun i => a (i + 3)) ta_z q3 hc4) cd_X10_step cv_X10_step ml_Reader_112 rfl rfl rfl (wg_Tape_0 _ _ _) ⟨⟨Nat.le_of_ble_eq_true rfl, Nat.le_of_ble_eq_true rfl⟩, ⟨Nat.zero_le _, Nat.zero_le _⟩, rfl, rfl⟩ [1] rfl rfl rfl (Nat.le_of_ble_eq_true rfl) rfl dX7_readBox_19 ?_
    refine j_aload_n hE dX7_readBox_22 rfl 0 rfl ?_
    refine j_iconst (v := 1) hE dX7_readBox_23 (by decide) ?_
    refine j_bipush (v := 8) hE dX7_readBox_24 (by decide) ?_
    obtain ⟨q5, hc6, hf⟩ := bind_of hf
    refine j_callV (ws' := ([n_Reader g a q5.1, n_Tape g (fun i => a (i + 3)) q5.2.1, n_Road g b ro_z, n_Kinds g (fun i => b (i + 8)) ki_z, n_Rule g (fun i => b (i + 14)) ru_z ru_y, n_Notes g (fun i => b (i + 17)) no_z] : List va_W)) (As := [.int 1, .int 8]) (rest := []) (st2 := [.int q5.2.2]) hE (fun l => c_Reader_readNumber l g a re_z q3 1 8 q5 hc6) cd_X7_readNumber cv_X7_readNumber ml_Reader_127 rfl rfl rfl (wg_Reader_0 _ _ _) ⟨⟨Nat.le_of_ble_eq_true rfl, Nat.le_of_ble_eq_true rfl⟩, ⟨Nat.zero_le _, Nat.zero_le _⟩, rfl, rfl⟩ [0, 1] rfl rfl rfl (Nat.le_of_ble_eq_true rfl) rfl dX7_readBox_26 ?_
    refine j_istore_n (lv' := [(3, .int q5.2.2), (0, .ref (a 0)), (1, .ref (b 0)), (2, .int x2)]) hE dX7_readBox_29 rfl (by decide) rfl ?_
    refine j_iload_n hE dX7_readBox_30 rfl 0 rfl ?_
    refine j_iconst (v := (-1)) hE dX7_readBox_31 (by decide) ?_
    refine j_icmp_ne (tgt := 37) hE hf dX7_readBox_32 (by decide) (fun c7 hf => ?_) (fun c7 hf => ?_)
    · refine j_aload_n hE dX7_readBox_37 rfl 2 rfl ?_
      refine j_get (v := .ref (b 4)) hE lg_Reader_163 2 rfl 0 (wg_Road_0 g b ro_z) rfl dX7_readBox_38 ?_
      refine j_iload_n hE dX7_readBox_41 rfl 3 rfl ?_
      refine j_iload_n hE dX7_readBox_42 rfl 0 rfl ?_
      refine j_iast (ws' := ([n_Reader g a q5.1, n_Tape g (fun i => a (i + 3)) q5.2.1, n_Road g b (up2 ro_z 11 (Int32.toNatClampNeg x2) q5.2.2), n_Kinds g (fun i => b (i + 8)) ki_z, n_Rule g (fun i => b (i + 14)) ru_z ru_y, n_Notes g (fun i => b (i + 17)) no_z] : List va_W)) hE hf 2 rfl 4 (wg_Road_4 g b ro_z) (wa_Road_4 g b ro_z (Int32.toNatClampNeg x2) q5.2.2) rfl dX7_readBox_43 (fun hf => ?_)
      refine j_iconst (v := 1) hE dX7_readBox_44 (by decide) ?_
      obtain rfl := Option.some.inj hf
      exact j_zret_c hE (Or.inr rfl) hq rfl rfl dX7_readBox_45
    · refine j_iconst (v := 0) hE dX7_readBox_35 (by decide) ?_
      obtain rfl := Option.some.inj hf
      exact j_zret_c hE (Or.inl rfl) hq rfl rfl dX7_readBox_36
  · refine j_aload_n hE dX7_readBox_9 rfl 0 rfl ?_
    refine j_iconst (v := 3) hE dX7_readBox_10 (by decide) ?_
    obtain ⟨q8, hc9, hf⟩ := bind_of hf
    refine j_callV (ws' := ([n_Reader g a q8.1, n_Tape g (fun i => a (i + 3)) ta_z, n_Road g b ro_z, n_Kinds g (fun i => b (i + 8)) ki_z, n_Rule g (fun i => b (i + 14)) ru_z ru_y, n_Notes g (fun i => b (i + 17)) no_z] : List va_W)) (As := [.int 3]) (rest := []) (st2 := [.int q8.2]) hE (fun l => c_Reader_stop l g a re_z ta_z 3 q8 hc9) cd_X7_stop cv_X7_stop ml_Reader_99 rfl rfl rfl (wg_Reader_0 _ _ _) ⟨⟨Nat.le_of_ble_eq_true rfl, Nat.le_of_ble_eq_true rfl⟩, ⟨Nat.zero_le _, Nat.zero_le _⟩, rfl, rfl⟩ [0, 1] rfl rfl rfl (Nat.le_of_ble_eq_true rfl) rfl dX7_readBox_11 ?_
    obtain ⟨b10, hf⟩ := bz_of hf
    obtain rfl := Option.some.inj hf
    exact j_zret_c hE b10 hq rfl rfl dX7_readBox_14
def rm_Reader_readLot : Room := { frames := 2, cells := 0, slots := 0, locals := 43 }
def f_Reader_readLot (re_z : jZ) (ta_z : jZ) (ro_z : jZ) (x2 : Int32) : Option (jZ × jZ × jZ × Int32) := (ix x2 12).bind fun _ => (if (ro_z 10 (Int32.toNatClampNeg x2)) = 0 then (f_Tape_step ta_z).bind fun q3 => (ix x2 12).bind fun _ => some (re_z, q3, (up2 ro_z 10 (Int32.toNatClampNeg x2) 1), 1)
    else (f_Reader_stop re_z ta_z 3).bind fun q5 => (bz q5.2).bind fun _ => some (q5.1, ta_z, ro_z, q5.2))
set_option maxRecDepth 100000 in
theorem c_Reader_readLot (l : Launch) (g : jG) (a : Nat → Nat) (b : Nat → Nat) (re_z : jZ) (ta_z : jZ) (ro_z : jZ) (ki_z : jZ) (ru_z : jZ) (ru_y : jY) (no_z : jZ) (x2 : Int32) (res : jZ × jZ × jZ × Int32) (hf : f_Reader_readLot re_z ta_z ro_z x2 = some res) : MC l g yX7_readLot cX7_readLot 3 (some .boolean) rm_Reader_readLot [.ref (a 0), .ref (b 0), .int x2] (([n_Reader g a re_z, n_Tape g (fun i => a (i + 3)) ta_z, n_Road g b ro_z, n_Kinds g (fun i => b (i + 8)) ki_z, n_Rule g (fun i => b (i + 14)) ru_z ru_y, n_Notes g (fun i => b (i + 17)) no_z] : List va_W)) (some (.int res.2.2.2)) (([n_Reader g a res.1, n_Tape g (fun i => a (i + 3)) res.2.1, n_Road g b res.2.2.1, n_Kinds g (fun i => b (i + 8)) ki_z, n_Rule g (fun i => b (i + 14)) ru_z ru_y, n_Notes g (fun i => b (i + 17)) no_z] : List va_W)) 0 0 := by
  refine MC_of (own := RX7) (lv := [(0, .ref (a 0)), (1, .ref (b 0)), (2, .int x2)]) (by decide) rfl (Nat.le_of_ble_eq_true rfl) rfl rfl (fun E hE hq => ?_)
  unfold f_Reader_readLot at hf
  refine j_aload_n hE dX7_readLot_0 rfl 1 rfl ?_
  refine j_get (v := .ref (b 3)) hE lg_Reader_160 2 rfl 0 (wg_Road_0 g b ro_z) rfl dX7_readLot_1 ?_
  refine j_iload_n hE dX7_readLot_4 rfl 2 rfl ?_
  refine j_zald hE hf 2 rfl 3 (wg_Road_3 g b ro_z) dX7_readLot_5 (fun hf => ?_)
  refine j_if_eq (tgt := 15) hE hf dX7_readLot_6 (by decide) (fun c2 hf => ?_) (fun c2 hf => ?_)
  · refine j_aload_n hE dX7_readLot_15 rfl 0 rfl ?_
    refine j_get (v := .ref (a 3)) hE lg_Reader_12 0 rfl 0 (wg_Reader_0 g a re_z) rfl dX7_readLot_16 ?_
    obtain ⟨q3, hc4, hf⟩ := bind_of hf
    refine j_callV (ws' := ([n_Reader g a re_z, n_Tape g (fun i => a (i + 3)) q3, n_Road g b ro_z, n_Kinds g (fun i => b (i + 8)) ki_z, n_Rule g (fun i => b (i + 14)) ru_z ru_y, n_Notes g (fun i => b (i + 17)) no_z] : List va_W)) (As := []) (rest := []) (st2 := []) hE (fun l => c_Tape_step l g (fun i => a (i + 3)) ta_z q3 hc4) cd_X10_step cv_X10_step ml_Reader_112 rfl rfl rfl (wg_Tape_0 _ _ _) ⟨⟨Nat.le_of_ble_eq_true rfl, Nat.le_of_ble_eq_true rfl⟩, ⟨Nat.zero_le _, Nat.zero_le _⟩, rfl, rfl⟩ [1] rfl rfl rfl (Nat.le_of_ble_eq_true rfl) rfl dX7_readLot_19 ?_
    refine j_aload_n hE dX7_readLot_22 rfl 1 rfl ?_
    refine j_get (v := .ref (b 3)) hE lg_Reader_160 2 rfl 0 (wg_Road_0 g b ro_z) rfl dX7_readLot_23 ?_
    refine j_iload_n hE dX7_readLot_26 rfl 2 rfl ?_
    refine j_iconst (v := 1) hE dX7_readLot_27 (by decide) ?_
    refine j_zast (ws' := ([n_Reader g a re_z, n_Tape g (fun i => a (i + 3)) q3, n_Road g b (up2 ro_z 10 (Int32.toNatClampNeg x2) 1), n_Kinds g (fun i => b (i + 8)) ki_z, n_Rule g (fun i => b (i + 14)) ru_z ru_y, n_Notes g (fun i => b (i + 17)) no_z] : List va_W)) hE hf 2 rfl 3 (wg_Road_3 g b ro_z) (wa_Road_3 g b ro_z (Int32.toNatClampNeg x2) 1) rfl dX7_readLot_28 (fun hf => ?_)
    refine j_iconst (v := 1) hE dX7_readLot_29 (by decide) ?_
    obtain rfl := Option.some.inj hf
    exact j_zret_c hE (Or.inr rfl) hq rfl rfl dX7_readLot_30
  · refine j_aload_n hE dX7_readLot_9 rfl 0 rfl ?_
    refine j_iconst (v := 3) hE dX7_readLot_10 (by decide) ?_
    obtain ⟨q5, hc6, hf⟩ := bind_of hf
    refine j_callV (ws' := ([n_Reader g a q5.1, n_Tape g (fun i => a (i + 3)) ta_z, n_Road g b ro_z, n_Kinds g (fun i => b (i + 8)) ki_z, n_Rule g (fun i => b (i + 14)) ru_z ru_y, n_Notes g (fun i => b (i + 17)) no_z] : List va_W)) (As := [.int 3]) (rest := []) (st2 := [.int q5.2]) hE (fun l => c_Reader_stop l g a re_z ta_z 3 q5 hc6) cd_X7_stop cv_X7_stop ml_Reader_99 rfl rfl rfl (wg_Reader_0 _ _ _) ⟨⟨Nat.le_of_ble_eq_true rfl, Nat.le_of_ble_eq_true rfl⟩, ⟨Nat.zero_le _, Nat.zero_le _⟩, rfl, rfl⟩ [0, 1] rfl rfl rfl (Nat.le_of_ble_eq_true rfl) rfl dX7_readLot_11 ?_
    obtain ⟨b7, hf⟩ := bz_of hf
    obtain rfl := Option.some.inj hf
    exact j_zret_c hE b7 hq rfl rfl dX7_readLot_14
