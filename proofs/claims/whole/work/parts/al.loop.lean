theorem lw_in {i : Int32} {t L : Nat} (ht : i.toInt = t) (hL : L ≤ 3072) (v : Int32) (k : Nat) (hv : v.toInt = k) (hk : t + k < L) : vp_in (i + v) L := by
  have e : (i + v).toInt = t + k := by rw [i_add (by omega) (by omega)]; omega
  unfold vp_in
  rw [i_lt, i_tn, e]
  have : (0 : Int32).toInt = 0 := rfl
  omega
theorem lw_body {E : jT} {g : jG} {kc ks b L o p0 q0 : Nat} {xs : Nat → Int32} {i : Int32} (hE : jOk E g RL code 7 ret room_1) (hX : jSc E b L xs) (hXE : jXE E) (h0 : vp_in i L) (hi : lwA i L) (hk : kc + 1 ≤ 601024) (hs : ks + 6 ≤ 7293034) (a am : Nat → Nat) (ha : a 0 = p0) (hm : am 0 = q0) (re : jZ) (ta : jZ) (ro : jZ) (ki : jZ) (ru : jZ) (ruy : jY) (no : jZ) (sro : jZ) (ski : jZ) (sru : jZ) (sruy : jY) (sno : jZ) (od : jZ) (ody : jY) (lu : jZ) (luy : jY) (fa : jZ) (fod : jZ) (fody : jY) (ho : jZ) (po : jZ) (pod : jZ) (pody : jY) (mo : jZ) (my : jY) (out : Nat → Int64) (I : lwI re ta ro ki ru no lu luy mo) (kk : lwK E g kc ks b p0 q0 o i) : J E g kc ks (lwW g a am o re ta ro ki ru ruy no sro ski sru sruy sno od ody lu luy fa fod fody ho po pod pody mo my out) (lwL b p0 q0 o i) 33 [] := by
  refine j_aload_n hE dL_law_33 rfl 4 rfl ?_
  refine j_iload hE dL_law_34 0 rfl ?_
  refine j_xld hE hX h0 dL_law_36 ?_
  refine j_bipush (v := 31) hE dL_law_37 (by decide) ?_
  refine j_iand hE dL_law_39 ?_
  generalize xs i.toNatClampNeg &&& 31 = v
  have hk1 : kc ≤ 601024 := by omega
  have hs1 : ks ≤ 7293034 := by omega
  by_cases c : v.toInt < 0 ∨ 23 < v.toInt
  · exact j_tableOut hE dL_law_40 c (tgt := 1171) (by decide) (J_wide (Nat.le_succ _) (Nat.le_add_right _ _) (kk a am re ta ro ki ru ruy no sro ski sru sruy sno od ody lu luy fa fod fody ho po pod pody mo my out ha hm I))
  have c1 : ¬ v.toInt < 0 := fun h => c (Or.inl h)
  have c2 : ¬ 23 < v.toInt := fun h => c (Or.inr h)
  obtain ⟨n, hn⟩ : ∃ n : Nat, v.toInt = n := ⟨v.toInt.toNat, by omega⟩
  have hn2 : n < 24 := by omega
  have go : ∀ (off : Int) (tgt : Nat), (#[112, 185, 210, 235, 272, 340, 389, 414, 439, 476, 538, 600, 661, 735, 760, 798, 835, 884, 921, 958, 995, 1044, 1057, 1106] : Array Int)[n]? = some off → ((40 : Nat) : Int) + off = (tgt : Int) → J E g kc ks (lwW g a am o re ta ro ki ru ruy no sro ski sru sruy sno od ody lu luy fa fod fody ho po pod pody mo my out) (lwL b p0 q0 o i) tgt [] → J E g kc ks (lwW g a am o re ta ro ki ru ruy no sro ski sru sruy sno od ody lu luy fa fod fody ho po pod pody mo my out) (lwL b p0 q0 o i) 40 [.int v] := fun off tgt ho ht k => j_tableIn hE dL_law_40 c1 c2 (by rw [hn]; simpa using ho) ht k
  match n, hn2, go with
  | 0, _, go => exact go 112 152 rfl (by decide) (kl_feed hE hX hi hk1 hs1 a am ha hm re ta ro ki ru ruy no sro ski sru sruy sno od ody lu luy fa fod fody ho po pod pody mo my out I kk)
  | 1, _, go => exact go 185 225 rfl (by decide) (kl_text hE hX hi hk1 hs1 a am ha hm re ta ro ki ru ruy no sro ski sru sruy sno od ody lu luy fa fod fody ho po pod pody mo my out I kk)
  | 2, _, go => exact go 210 250 rfl (by decide) (kl_fault hE hX hi hk1 hs1 a am ha hm re ta ro ki ru ruy no sro ski sru sruy sno od ody lu luy fa fod fody ho po pod pody mo my out I kk)
  | 3, _, go => exact go 235 275 rfl (by decide) (kl_named hE hX hi hk1 hs1 a am ha hm re ta ro ki ru ruy no sro ski sru sruy sno od ody lu luy fa fod fody ho po pod pody mo my out I kk)
  | 4, _, go => exact go 272 312 rfl (by decide) (kl_look hE hX hi hk1 hs1 a am ha hm re ta ro ki ru ruy no sro ski sru sruy sno od ody lu luy fa fod fody ho po pod pody mo my out I kk hXE hk hs)
  | 5, _, go => exact go 340 380 rfl (by decide) (kl_note hE hX hi hk1 hs1 a am ha hm re ta ro ki ru ruy no sro ski sru sruy sno od ody lu luy fa fod fody ho po pod pody mo my out I kk)
  | 6, _, go => exact go 389 429 rfl (by decide) (kl_strike hE hX hi hk1 hs1 a am ha hm re ta ro ki ru ruy no sro ski sru sruy sno od ody lu luy fa fod fody ho po pod pody mo my out I kk)
  | 7, _, go => exact go 414 454 rfl (by decide) (kl_known hE hX hi hk1 hs1 a am ha hm re ta ro ki ru ruy no sro ski sru sruy sno od ody lu luy fa fod fody ho po pod pody mo my out I kk)
  | 8, _, go => exact go 439 479 rfl (by decide) (kl_count hE hX hi hk1 hs1 a am ha hm re ta ro ki ru ruy no sro ski sru sruy sno od ody lu luy fa fod fody ho po pod pody mo my out I kk)
  | 9, _, go => exact go 476 516 rfl (by decide) (kl_likely hE hX hi hk1 hs1 a am ha hm re ta ro ki ru ruy no sro ski sru sruy sno od ody lu luy fa fod fody ho po pod pody mo my out I kk)
  | 10, _, go => exact go 538 578 rfl (by decide) (kl_rate hE hX hi hk1 hs1 a am ha hm re ta ro ki ru ruy no sro ski sru sruy sno od ody lu luy fa fod fody ho po pod pody mo my out I kk)
  | 11, _, go => exact go 600 640 rfl (by decide) (kl_span hE hX hi hk1 hs1 a am ha hm re ta ro ki ru ruy no sro ski sru sruy sno od ody lu luy fa fod fody ho po pod pody mo my out I kk)
  | 12, _, go => exact go 661 701 rfl (by decide) (kl_worse hE hX hi hk1 hs1 a am ha hm re ta ro ki ru ruy no sro ski sru sruy sno od ody lu luy fa fod fody ho po pod pody mo my out I kk)
  | 13, _, go => exact go 735 775 rfl (by decide) (kl_taken hE hX hi hk1 hs1 a am ha hm re ta ro ki ru ruy no sro ski sru sruy sno od ody lu luy fa fod fody ho po pod pody mo my out I kk)
  | 14, _, go => exact go 760 800 rfl (by decide) (kl_law hE hX hi hk1 hs1 a am ha hm re ta ro ki ru ruy no sro ski sru sruy sno od ody lu luy fa fod fody ho po pod pody mo my out I kk)
  | 15, _, go => exact go 798 838 rfl (by decide) (kl_fall hE hX hi hk1 hs1 a am ha hm re ta ro ki ru ruy no sro ski sru sruy sno od ody lu luy fa fod fody ho po pod pody mo my out I kk)
  | 16, _, go => exact go 835 875 rfl (by decide) (kl_lot hE hX hi hk1 hs1 a am ha hm re ta ro ki ru ruy no sro ski sru sruy sno od ody lu luy fa fod fody ho po pod pody mo my out I kk)
  | 17, _, go => exact go 884 924 rfl (by decide) (kl_chose hE hX hi hk1 hs1 a am ha hm re ta ro ki ru ruy no sro ski sru sruy sno od ody lu luy fa fod fody ho po pod pody mo my out I kk)
  | 18, _, go => exact go 921 961 rfl (by decide) (kl_house hE hX hi hk1 hs1 a am ha hm re ta ro ki ru ruy no sro ski sru sruy sno od ody lu luy fa fod fody ho po pod pody mo my out I kk)
  | 19, _, go => exact go 958 998 rfl (by decide) (kl_coin hE hX hi hk1 hs1 a am ha hm re ta ro ki ru ruy no sro ski sru sruy sno od ody lu luy fa fod fody ho po pod pody mo my out I kk)
  | 20, _, go => exact go 995 1035 rfl (by decide) (kl_poles hE hX hi hk1 hs1 a am ha hm re ta ro ki ru ruy no sro ski sru sruy sno od ody lu luy fa fod fody ho po pod pody mo my out I kk)
  | 21, _, go => exact go 1044 1084 rfl (by decide) (kl_never hE hX hi hk1 hs1 a am ha hm re ta ro ki ru ruy no sro ski sru sruy sno od ody lu luy fa fod fody ho po pod pody mo my out I kk)
  | 22, _, go => exact go 1057 1097 rfl (by decide) (kl_draws hE hX hi hk1 hs1 a am ha hm re ta ro ki ru ruy no sro ski sru sruy sno od ody lu luy fa fod fody ho po pod pody mo my out I kk)
  | 23, _, go => exact go 1106 1146 rfl (by decide) (kl_number hE hX hi hk1 hs1 a am ha hm re ta ro ki ru ruy no sro ski sru sruy sno od ody lu luy fa fod fody ho po pod pody mo my out I kk)
  | n + 24, h, _ => exact absurd h (by omega)
theorem lw_loop {E : jT} {g : jG} {b L o p0 q0 : Nat} {xs : Nat → Int32} (hE : jOk E g RL code 7 ret room_1) (hX : jSc E b L xs) (hXE : jXE E) (hL : L ≤ 3072) (hend : ∀ (kc ks : Nat) (ws : List va_W) (lv : List (Nat × Value)), kc ≤ 601024 → ks ≤ 7293034 → J E g kc ks ws lv 1178 [.int 1]) : ∀ (n t : Nat) (i : Int32) (a am : Nat → Nat) (re : jZ) (ta : jZ) (ro : jZ) (ki : jZ) (ru : jZ) (ruy : jY) (no : jZ) (sro : jZ) (ski : jZ) (sru : jZ) (sruy : jY) (sno : jZ) (od : jZ) (ody : jY) (lu : jZ) (luy : jY) (fa : jZ) (fod : jZ) (fody : jY) (ho : jZ) (po : jZ) (pod : jZ) (pody : jY) (mo : jZ) (my : jY) (out : Nat → Int64), L - t ≤ n → i.toInt = t → t ≤ L + 6 → a 0 = p0 → am 0 = q0 → lwI re ta ro ki ru no lu luy mo → J E g (95 + t) (5267 + 6 * t) (lwW g a am o re ta ro ki ru ruy no sro ski sru sruy sno od ody lu luy fa fod fody ho po pod pody mo my out) (lwL b p0 q0 o i) 23 [] := by
  have e6 : (6 : Int32).toInt = 6 := rfl
  have eL : (Int32.ofNat L).toInt = L := nI_toInt (by omega)
  have eS : (Int32.ofNat L - 6).toInt = (L : Int) - 6 := by rw [i_sub (by omega) (by omega), eL, e6]
  intro n
  induction n with
  | zero =>
    intro t i a am re ta ro ki ru ruy no sro ski sru sruy sno od ody lu luy fa fod fody ho po pod pody mo my out hn ht htl ha hm I
    refine j_iload hE dL_law_23 0 rfl ?_
    refine j_aload_n hE dL_law_25 rfl 4 rfl ?_
    refine j_xlen hE hX dL_law_26 ?_
    refine j_bipush (v := 6) hE dL_law_27 (by decide) ?_
    refine j_isub hE dL_law_29 ?_
    refine j_icmp_gt_t hE (by rw [i_lt, eS]; omega) dL_law_30 (tgt := 1177) (by decide) ?_
    refine j_iconst (v := 1) hE dL_law_1177 (by decide) ?_
    exact hend _ _ _ _ (by omega) (by omega)
  | succ n ih =>
    intro t i a am re ta ro ki ru ruy no sro ski sru sruy sno od ody lu luy fa fod fody ho po pod pody mo my out hn ht htl ha hm I
    refine j_iload hE dL_law_23 0 rfl ?_
    refine j_aload_n hE dL_law_25 rfl 4 rfl ?_
    refine j_xlen hE hX dL_law_26 ?_
    refine j_bipush (v := 6) hE dL_law_27 (by decide) ?_
    refine j_isub hE dL_law_29 ?_
    by_cases c : t + 6 ≤ L
    · refine j_icmp_gt_f hE (by rw [i_lt, eS]; omega) dL_law_30 (tgt := 1177) (by decide) ?_
      have h0 : vp_in i L := by
        unfold vp_in
        rw [i_lt, i_tn, ht]
        have : (0 : Int32).toInt = 0 := rfl
        omega
      refine lw_body hE hX hXE h0 ⟨lw_in ht hL 1 1 rfl (by omega), lw_in ht hL 2 2 rfl (by omega), lw_in ht hL 3 3 rfl (by omega), lw_in ht hL 4 4 rfl (by omega), lw_in ht hL 5 5 rfl (by omega)⟩ (by omega) (by omega) a am ha hm re ta ro ki ru ruy no sro ski sru sruy sno od ody lu luy fa fod fody ho po pod pody mo my out I ?_
      intro a2 am2 re9 ta9 ro9 ki9 ru9 ruy9 no9 sro9 ski9 sru9 sruy9 sno9 od9 ody9 lu9 luy9 fa9 fod9 fody9 ho9 po9 pod9 pody9 mo9 my9 out9 ha2 hm2 I2
      refine j_iinc (v := i + 6) (lv' := lwL b p0 q0 o (i + 6)) hE dL_law_1171 0 rfl rfl (by decide) rfl ?_
      refine j_goto hE dL_law_1174 (tgt := 23) (by decide) ?_
      exact J_wide (k := 95 + (t + 6)) (n := 5267 + 6 * (t + 6)) (by omega) (by omega) (ih (t + 6) (i + 6) a2 am2 re9 ta9 ro9 ki9 ru9 ruy9 no9 sro9 ski9 sru9 sruy9 sno9 od9 ody9 lu9 luy9 fa9 fod9 fody9 ho9 po9 pod9 pody9 mo9 my9 out9 (by omega) (by rw [i_add (by omega) (by omega), ht, e6]; omega) (by omega) ha2 hm2 I2)
    · refine j_icmp_gt_t hE (by rw [i_lt, eS]; omega) dL_law_30 (tgt := 1177) (by decide) ?_
      refine j_iconst (v := 1) hE dL_law_1177 (by decide) ?_
      exact hend _ _ _ _ (by omega) (by omega)
