def strC (i k : Nat) : Int32 := (strB.getD i []).getD k 0
theorem str_ok : ∀ i, i < 3 → (strL.getD i 0 = (strB.getD i []).length ∧ ∀ b ∈ strB.getD i [], (((b &&& 255).toUInt32 % 65536).toInt32 = b ∧ narrow .char (.int b) = .int b)) := by decide +kernel
theorem str_at {i k : Nat} (hi : i < 3) (hk : k < strL.getD i 0) : ((strC i k &&& 255).toUInt32 % 65536).toInt32 = strC i k ∧ narrow .char (.int (strC i k)) = .int (strC i k) := by
  obtain ⟨h1, h2⟩ := str_ok i hi
  refine h2 _ ?_
  rw [h1] at hk
  unfold strC
  generalize strB.getD i [] = L at hk ⊢
  rw [List.getD_eq_getElem?_getD, List.getElem?_eq_getElem hk]
  exact List.getElem_mem hk
section JS
variable {E : jT} {g : jG} {own : String} {cc : ByteArray} {nL : Nat} {ret : Option FieldType} {rm : Room} {kc ks : Nat} {ws : List va_W} {lv : List (Nat × Value)} {pc : Nat} {st : List Value}
theorem j_lds0 (hE : jOk E g RX11 cc nL ret rm) (hd : decode cc pc = .ok (.ldc 120, 2)) (kk : J E g kc ks ws lv (pc + 2) (.ref (g.2.2.2.2.2.1 0) :: st)) : J E g kc ks ws lv pc st := by
  obtain ⟨p, l, e, R, s, m, args, below, meth, c, Q, A⟩ := E
  obtain ⟨hx, hb, hml, hr, hown, hts, hK, hlk, hA, rfl, hN, hSt⟩ := hE
  intro H locs ls hP hD hS hL
  exact va_ldcS (own := RX11) (tx := str0) hx hb hown hSt.2.1 hd (kk H locs ls hP hD hS hL)

theorem j_lds1 (hE : jOk E g RX11 cc nL ret rm) (hd : decode cc pc = .ok (.ldc 146, 2)) (kk : J E g kc ks ws lv (pc + 2) (.ref (g.2.2.2.2.2.1 1) :: st)) : J E g kc ks ws lv pc st := by
  obtain ⟨p, l, e, R, s, m, args, below, meth, c, Q, A⟩ := E
  obtain ⟨hx, hb, hml, hr, hown, hts, hK, hlk, hA, rfl, hN, hSt⟩ := hE
  intro H locs ls hP hD hS hL
  exact va_ldcS (own := RX11) (tx := str1) hx hb hown hSt.2.2.1 hd (kk H locs ls hP hD hS hL)

theorem j_lds2 (hE : jOk E g RX12 cc nL ret rm) (hd : decode cc pc = .ok (.ldc 129, 2)) (kk : J E g kc ks ws lv (pc + 2) (.ref (g.2.2.2.2.2.1 2) :: st)) : J E g kc ks ws lv pc st := by
  obtain ⟨p, l, e, R, s, m, args, below, meth, c, Q, A⟩ := E
  obtain ⟨hx, hb, hml, hr, hown, hts, hK, hlk, hA, rfl, hN, hSt⟩ := hE
  intro H locs ls hP hD hS hL
  exact va_ldcS (own := RX12) (tx := str2) hx hb hown hSt.2.2.2.1 hd (kk H locs ls hP hD hS hL)

def jSg (own : String) (index : Nat) (n d : String) : Prop := Cond.fieldLink own index "java/lang/String" n d ∈ tb
theorem j_sgetV {i index : Nat} (hE : jOk E g own cc nL ret rm) (hi : i < 3) (hl : jSg own index "value" "[B") (hd : decode cc pc = .ok (.getfield index, 3)) (kk : J E g kc ks ws lv (pc + 3) (.ref (g.2.2.2.2.2.2 i) :: st)) : J E g kc ks ws lv pc (.ref (g.2.2.2.2.2.1 i) :: st) := by
  obtain ⟨p, l, e, R, s, m, args, below, meth, c, Q, A⟩ := E
  obtain ⟨hx, hb, hml, hr, hown, hts, hK, hlk, hA, rfl, hN, hSt⟩ := hE
  intro H locs ls hP hD hS hL
  exact vk_getf hx hb (hSt.1.1 i hi).2.2.1 hS hown (hts _ hl) (fun _ h => h) hd (kk H locs ls hP hD hS hL)
theorem j_sgetC {i index : Nat} (hE : jOk E g own cc nL ret rm) (hi : i < 3) (hl : jSg own index "coder" "B") (hd : decode cc pc = .ok (.getfield index, 3)) (kk : J E g kc ks ws lv (pc + 3) (.int 0 :: st)) : J E g kc ks ws lv pc (.ref (g.2.2.2.2.2.1 i) :: st) := by
  obtain ⟨p, l, e, R, s, m, args, below, meth, c, Q, A⟩ := E
  obtain ⟨hx, hb, hml, hr, hown, hts, hK, hlk, hA, rfl, hN, hSt⟩ := hE
  intro H locs ls hP hD hS hL
  exact vk_getf hx hb (hSt.1.1 i hi).2.1 hS hown (hts _ hl) (fun _ h => h) hd (kk H locs ls hP hD hS hL)
theorem j_stlen {i : Nat} {v : Int32} (hE : jOk E g own cc nL ret rm) (hi : i < 3) (hv : Int32.ofNat (strL.getD i 0) = v) (hd : decode cc pc = .ok (.arraylength, 1)) (kk : J E g kc ks ws lv (pc + 1) (.int v :: st)) : J E g kc ks ws lv pc (.ref (g.2.2.2.2.2.2 i) :: st) := by
  obtain ⟨p, l, e, R, s, m, args, below, meth, c, Q, A⟩ := E
  obtain ⟨hx, hb, hml, hr, hown, hts, hK, hlk, hA, rfl, hN, hSt⟩ := hE
  intro H locs ls hP hD hS hL
  exact va_tlen hx hb (hSt.1.1 i hi).2.2.2 hS hv hd (kk H locs ls hP hD hS hL)
theorem j_sbald {i : Nat} {k : Int32} (hE : jOk E g own cc nL ret rm) (hi : i < 3) (hk : vp_in k (strL.getD i 0)) (hd : decode cc pc = .ok (.baload, 1)) (kk : J E g kc ks ws lv (pc + 1) (.int (strC i k.toNatClampNeg) :: st)) : J E g kc ks ws lv pc (.int k :: .ref (g.2.2.2.2.2.2 i) :: st) := by
  obtain ⟨p, l, e, R, s, m, args, below, meth, c, Q, A⟩ := E
  obtain ⟨hx, hb, hml, hr, hown, hts, hK, hlk, hA, rfl, hN, hSt⟩ := hE
  intro H locs ls hP hD hS hL
  exact va_tb hx hb (hSt.1.1 i hi).2.2.2 hS hk rfl hd (kk H locs ls hP hD hS hL)
theorem j_getsC {index : Nat} (hE : jOk E g own cc nL ret rm) (hl : jSg own index "COMPACT_STRINGS" "Z") (hd : decode cc pc = .ok (.getstatic index, 3)) (kk : J E g kc ks ws lv (pc + 3) (.int 1 :: st)) : J E g kc ks ws lv pc st := by
  obtain ⟨p, l, e, R, s, m, args, below, meth, c, Q, A⟩ := E
  obtain ⟨hx, hb, hml, hr, hown, hts, hK, hlk, hA, rfl, hN, hSt⟩ := hE
  intro H locs ls hP hD hS hL
  exact va_gets hx hb hSt.2.2.2.2.1 hS hown (hts _ hl) (fun _ h => h) hd (kk H locs ls hP hD hS hL)
theorem j_getsF {index : Nat} (hE : jOk E g own cc nL ret rm) (hl : Cond.fieldLink own index "jdk/internal/util/Preconditions" "SIOOBE_FORMATTER" "Ljava/util/function/BiFunction;" ∈ tb) (hd : decode cc pc = .ok (.getstatic index, 3)) (kk : ∀ v : Value, (v = .null ∨ ∃ t, v = .ref t) → J E g kc ks ws lv (pc + 3) (v :: st)) : J E g kc ks ws lv pc st := by
  obtain ⟨p, l, e, R, s, m, args, below, meth, c, Q, A⟩ := E
  obtain ⟨hx, hb, hml, hr, hown, hts, hK, hlk, hA, rfl, hN, hSt⟩ := hE
  intro H locs ls hP hD hS hL
  rcases hSt.2.2.2.2.2 with h | ⟨t, h⟩
  · exact va_gets hx hb h hS hown (hts _ hl) (fun _ h => h) hd (kk _ (Or.inl rfl) H locs ls hP hD hS hL)
  · exact va_gets hx hb h hS hown (hts _ hl) (fun _ h => h) hd (kk _ (Or.inr ⟨t, rfl⟩) H locs ls hP hD hS hL)
theorem j_i2c {x : Int32} (hE : jOk E g own cc nL ret rm) (hd : decode cc pc = .ok (.i2c, 1)) (kk : J E g kc ks ws lv (pc + 1) (.int (x.toUInt32 % 65536).toInt32 :: st)) : J E g kc ks ws lv pc (.int x :: st) := by
  obtain ⟨p, l, e, R, s, m, args, below, meth, c, Q, A⟩ := E
  obtain ⟨hx, hb, hml, hr, hown, hts, hK, hlk, hA, rfl, hN, hSt⟩ := hE
  intro H locs ls hP hD hS hL
  exact lv_i2c hx hb hd rfl (kk H locs ls hP hD hS hL)
theorem j_cret {ty : FieldType} {v : Int32} {v0 : Option Value} {w1 : List va_W} (hE : jOk E g own cc nL (some ty) rm) (hn : narrow ty (.int v) = .int v) (hq : jEnd E g v0 w1 kc ks) (hv : v0 = some (.int v)) (hw : w1 = ws) (hd : decode cc pc = .ok (.ireturn, 1)) : J E g kc ks ws lv pc [.int v] := by
  subst hv; subst hw
  obtain ⟨p, l, e, R, s, m, args, below, meth, c, Q, A⟩ := E
  obtain ⟨hx, hb, hml, hr, hown, hts, hK, hlk, hA, rfl, hN, hSt⟩ := hE
  intro H locs ls hP hD hS hL
  have hq : Q = MQ below (jQ g _ _ A) args s kc ks A := hq
  subst hq
  exact W.zret hx hb hr hn (fun t ht hW => ⟨rfl, by rw [ht]; exact hP, hS.F ht⟩) hS.2.2 hd hlk
def jKv (y : MethodName) : Prop := y.cls = "java/lang/String" ∧ Cond.instanceMethod y ∈ tb ∧ Cond.selects "java/lang/String" y y ∈ tb
theorem j_callK {y : MethodName} {bytes : ByteArray} {maxL : Nat} {ret2 : Option FieldType} {rm2 : Room} {n index : Nat} {As rest st2 : List Value} {v0 : Option Value} {i : Nat} (hE : jOk E g own cc nL ret rm) (hM : ∀ l, MC l g y bytes maxL ret2 rm2 (.ref (g.2.2.2.2.2.1 i) :: As) [] v0 [] 0 0) (hi : i < 3) (hc : jCd y bytes maxL ret2 n) (hv : jKv y) (hl : Cond.methodLink own index y ∈ tb) (hs : st = As.reverse ++ .ref (g.2.2.2.2.2.1 i) :: rest) (hlen : As.length = n) (hr0 : jRm rm rm2 maxL kc ks) (hcat : (rest.map fun v => v.category).sum ≤ 8) (hs2 : v0.toList ++ rest = st2) (hd : decode cc pc = .ok (.invokevirtual index, 3)) (kk : J E g kc ks ws lv (pc + 3) st2) : J E g kc ks ws lv pc st := by
  obtain ⟨p, l, e, R, s, m, args, below, meth, c, Q, A⟩ := E
  obtain ⟨hx, hb, hml, hr, hown, hts, hK, hlk, hA, rfl, hN, hSt⟩ := hE
  intro H locs ls hP hD hS hL
  obtain ⟨hPc, hDc, hF⟩ := jSub (s := s) (cs := []) (is := []) hP hD hS hA rfl rfl
  obtain ⟨hcode, hini, hnm⟩ := hc
  obtain ⟨hcl, hinst, hsel⟩ := hv
  refine j_goes (is := []) (va_runV (C := "java/lang/String") (As := As) (rest := rest) (nL := nL) (Ts := tb) ⟨hx, hb, hml, hown, hts⟩ ((hM l).2 H.size) ⟨callB_of n hts (jGood (own := own) hcode) rfl hr0.2.2.1 hr0.2.2.2 (hts _ hini) (hts _ hl) hnm hr0.1, hts _ hinst, hts _ hsel⟩ ⟨jBl, vk_recv hSt.1 hi hS, fun U hU hW => ⟨rfl, by rw [hU], by rw [hU]; exact hPc, va_K.moved hW.alike hK, hDc, hN.warm hW, by rw [hU]; exact hSt.to hW hS.2.1 hF⟩⟩ rfl hlen (by rw [← hml]; exact hL.1) hs (lv_room hcat) hd hr0.2.1) hP hD hS hF hL rfl (hM l).1 rfl hs2 kk
end JS
theorem sg_RJ0_38 : jSg RJ0 38 "COMPACT_STRINGS" "Z" := tb_t6 151 rfl rfl
theorem sg_RJ0_15 : jSg RJ0 15 "coder" "B" := tb_t8 19 rfl rfl
theorem sg_RJ0_9 : jSg RJ0 9 "value" "[B" := tb_t8 18 rfl rfl
theorem cdk_J0_coder_7d493 : jCd yJ0_coder_7d493 cJ0_coder_7d493 1 (some .byte) 0 := ⟨tb_t6 150 rfl rfl, tb_t1 15 rfl rfl, by decide +kernel⟩
theorem kv_J0_coder_7d493 : jKv yJ0_coder_7d493 := ⟨rfl, tb_t6 148 rfl rfl, tb_t6 149 rfl rfl⟩
theorem mlk_RJ0_335 : Cond.methodLink RJ0 335 yJ0_coder_7d493 ∈ tb := tb_t6 147 rfl rfl
theorem sg_F : Cond.fieldLink RJ0 1053 "jdk/internal/util/Preconditions" "SIOOBE_FORMATTER" "Ljava/util/function/BiFunction;" ∈ tb := tb_t6 167 rfl rfl
theorem cdk_J3_checkIndex_8e157 : jCd yJ3_checkIndex_8e157 cJ3_checkIndex_8e157 3 (some .int) 3 := ⟨tb_t6 171 rfl rfl, tb_t1 17 rfl rfl, by decide +kernel⟩
theorem stk_J3_checkIndex_8e157 : Cond.static yJ3_checkIndex_8e157 ∈ tb := tb_t6 170 rfl rfl
theorem mlk_RJ0_1059 : Cond.methodLink RJ0 1059 yJ3_checkIndex_8e157 ∈ tb := tb_t6 169 rfl rfl
theorem cdk_J0_checkIndex_df160 : jCd yJ0_checkIndex_df160 cJ0_checkIndex_df160 2 (none : Option Jvm.ClassFile.FieldType) 2 := ⟨tb_t6 166 rfl rfl, tb_t1 15 rfl rfl, by decide +kernel⟩
theorem stk_J0_checkIndex_df160 : Cond.static yJ0_checkIndex_df160 ∈ tb := tb_t6 165 rfl rfl
theorem mlk_RJ1_9 : Cond.methodLink RJ1 9 yJ0_checkIndex_df160 ∈ tb := tb_t6 164 rfl rfl
theorem cdk_J0_isLatin1_aae02 : jCd yJ0_isLatin1_aae02 cJ0_isLatin1_aae02 1 (some .boolean) 0 := ⟨tb_t6 160 rfl rfl, tb_t1 15 rfl rfl, by decide +kernel⟩
theorem kv_J0_isLatin1_aae02 : jKv yJ0_isLatin1_aae02 := ⟨rfl, tb_t6 158 rfl rfl, tb_t6 159 rfl rfl⟩
theorem mlk_RJ0_492 : Cond.methodLink RJ0 492 yJ0_isLatin1_aae02 ∈ tb := tb_t6 157 rfl rfl
theorem cdk_J1_charAt_3b067 : jCd yJ1_charAt_3b067 cJ1_charAt_3b067 2 (some .char) 2 := ⟨tb_t6 163 rfl rfl, tb_t1 16 rfl rfl, by decide +kernel⟩
theorem stk_J1_charAt_3b067 : Cond.static yJ1_charAt_3b067 ∈ tb := tb_t6 162 rfl rfl
theorem mlk_RJ0_495 : Cond.methodLink RJ0 495 yJ1_charAt_3b067 ∈ tb := tb_t6 161 rfl rfl
theorem cdk_J0_length_8abf5 : jCd yJ0_length_8abf5 cJ0_length_8abf5 1 (some .int) 0 := ⟨tb_t6 146 rfl rfl, tb_t1 15 rfl rfl, by decide +kernel⟩
theorem kv_J0_length_8abf5 : jKv yJ0_length_8abf5 := ⟨rfl, tb_t6 144 rfl rfl, tb_t6 145 rfl rfl⟩
theorem cdk_J0_charAt_5068e : jCd yJ0_charAt_5068e cJ0_charAt_5068e 2 (some .char) 1 := ⟨tb_t6 156 rfl rfl, tb_t1 15 rfl rfl, by decide +kernel⟩
theorem kv_J0_charAt_5068e : jKv yJ0_charAt_5068e := ⟨rfl, tb_t6 154 rfl rfl, tb_t6 155 rfl rfl⟩
def rmk (k : Nat) : Room := { frames := k, cells := 0, slots := 0, locals := 40 * k }
theorem c_k_coder (l : Launch) (g : jG) (i : Nat) (hi : i < 3) : MC l g yJ0_coder_7d493 cJ0_coder_7d493 1 (some .byte) (rmk 0) [.ref (g.2.2.2.2.2.1 i)] [] (some (.int 0)) [] 0 0 := by
  refine MC_of (own := RJ0) (lv := [(0, .ref (g.2.2.2.2.2.1 i))]) (by decide) rfl (Nat.le_of_ble_eq_true rfl) rfl rfl (fun E hE hq => ?_)
  refine j_getsC hE sg_RJ0_38 dJ0_coder_7d493_0 ?_
  refine j_if_eq_f (tgt := 13) hE (by decide) dJ0_coder_7d493_3 (by decide) ?_
  refine j_aload_n hE dJ0_coder_7d493_6 rfl 0 rfl ?_
  refine j_sgetC hE hi sg_RJ0_15 dJ0_coder_7d493_7 ?_
  refine j_goto (tgt := 14) hE dJ0_coder_7d493_10 (by decide) ?_
  exact j_cret hE (by decide) hq rfl rfl dJ0_coder_7d493_14
theorem c_k_isLatin1 (l : Launch) (g : jG) (i : Nat) (hi : i < 3) : MC l g yJ0_isLatin1_aae02 cJ0_isLatin1_aae02 1 (some .boolean) (rmk 0) [.ref (g.2.2.2.2.2.1 i)] [] (some (.int 1)) [] 0 0 := by
  refine MC_of (own := RJ0) (lv := [(0, .ref (g.2.2.2.2.2.1 i))]) (by decide) rfl (Nat.le_of_ble_eq_true rfl) rfl rfl (fun E hE hq => ?_)
  refine j_getsC hE sg_RJ0_38 dJ0_isLatin1_aae02_0 ?_
  refine j_if_eq_f (tgt := 17) hE (by decide) dJ0_isLatin1_aae02_3 (by decide) ?_
  refine j_aload_n hE dJ0_isLatin1_aae02_6 rfl 0 rfl ?_
  refine j_sgetC hE hi sg_RJ0_15 dJ0_isLatin1_aae02_7 ?_
  refine j_if_ne_f (tgt := 17) hE (by decide) dJ0_isLatin1_aae02_10 (by decide) ?_
  refine j_iconst (v := 1) hE dJ0_isLatin1_aae02_13 (by decide) ?_
  refine j_goto (tgt := 18) hE dJ0_isLatin1_aae02_14 (by decide) ?_
  exact j_cret hE (by decide) hq rfl rfl dJ0_isLatin1_aae02_18
theorem c_k_length (l : Launch) (g : jG) (i : Nat) (v : Int32) (hi : i < 3) (hv : Int32.ofNat (strL.getD i 0) = v) (hv2 : v >>> ((0 : Int32) &&& 31) = v) : MC l g yJ0_length_8abf5 cJ0_length_8abf5 1 (some .int) (rmk 1) [.ref (g.2.2.2.2.2.1 i)] [] (some (.int v)) [] 0 0 := by
  refine MC_of (own := RJ0) (lv := [(0, .ref (g.2.2.2.2.2.1 i))]) (by decide) rfl (Nat.le_of_ble_eq_true rfl) rfl rfl (fun E hE hq => ?_)
  refine j_aload_n hE dJ0_length_8abf5_0 rfl 0 rfl ?_
  refine j_sgetV hE hi sg_RJ0_9 dJ0_length_8abf5_1 ?_
  refine j_stlen hE hi hv dJ0_length_8abf5_4 ?_
  refine j_aload_n hE dJ0_length_8abf5_5 rfl 0 rfl ?_
  refine j_callK (As := []) (rest := [.int v]) (st2 := [.int 0, .int v]) hE (fun l => c_k_coder l g i hi) hi cdk_J0_coder_7d493 kv_J0_coder_7d493 mlk_RJ0_335 rfl rfl ⟨⟨Nat.le_of_ble_eq_true rfl, Nat.le_of_ble_eq_true rfl⟩, ⟨Nat.zero_le _, Nat.zero_le _⟩, rfl, rfl⟩ (Nat.le_of_ble_eq_true rfl) rfl dJ0_length_8abf5_6 ?_
  refine j_ishr hE dJ0_length_8abf5_9 ?_
  exact j_iret hE hq (by rw [hv2]) rfl dJ0_length_8abf5_10
theorem c_k_pre (l : Launch) (g : jG) (k m : Int32) (fv : Value) (hfv : fv = .null ∨ ∃ t, fv = .ref t) (h0 : ¬ k < 0) (h1 : k < m) : MC l g yJ3_checkIndex_8e157 cJ3_checkIndex_8e157 3 (some .int) (rmk 0) [.int k, .int m, fv] [] (some (.int k)) [] 0 0 := by
  have key : (lg_sl [.int k, .int m, fv]).length ≤ 3 ∧ lv_args 0 [.int k, .int m, fv] = [(0, .int k), (1, .int m), (2, fv)] := by
    rcases hfv with rfl | ⟨t, rfl⟩ <;> exact ⟨Nat.le_of_ble_eq_true rfl, rfl⟩
  refine MC_of (own := RJ3) (lv := [(0, .int k), (1, .int m), (2, fv)]) (by decide) rfl key.1 key.2 rfl (fun E hE hq => ?_)
  refine j_iload_n hE dJ3_checkIndex_8e157_0 rfl 0 rfl ?_
  refine j_if_lt_f (tgt := 9) hE h0 dJ3_checkIndex_8e157_1 (by decide) ?_
  refine j_iload_n hE dJ3_checkIndex_8e157_4 rfl 0 rfl ?_
  refine j_iload_n hE dJ3_checkIndex_8e157_5 rfl 1 rfl ?_
  refine j_icmp_lt_t (tgt := 16) hE h1 dJ3_checkIndex_8e157_6 (by decide) ?_
  refine j_iload_n hE dJ3_checkIndex_8e157_16 rfl 0 rfl ?_
  exact j_iret hE hq rfl rfl dJ3_checkIndex_8e157_17
theorem c_k_chk (l : Launch) (g : jG) (k m : Int32) (h0 : ¬ k < 0) (h1 : k < m) : MC l g yJ0_checkIndex_df160 cJ0_checkIndex_df160 2 none (rmk 1) [.int k, .int m] [] none [] 0 0 := by
  refine MC_of (own := RJ0) (lv := [(0, .int k), (1, .int m)]) (by decide) rfl (Nat.le_of_ble_eq_true rfl) rfl rfl (fun E hE hq => ?_)
  refine j_iload_n hE dJ0_checkIndex_df160_0 rfl 0 rfl ?_
  refine j_iload_n hE dJ0_checkIndex_df160_1 rfl 1 rfl ?_
  refine j_getsF hE sg_F dJ0_checkIndex_df160_2 (fun fv hfv => ?_)
  refine j_callS (As := [.int k, .int m, fv]) (rest := []) (st2 := [.int k]) (wc := []) (ws' := []) hE (fun l => c_k_pre l g k m fv hfv h0 h1) cdk_J3_checkIndex_8e157 stk_J3_checkIndex_8e157 mlk_RJ0_1059 rfl rfl ⟨⟨Nat.le_of_ble_eq_true rfl, Nat.le_of_ble_eq_true rfl⟩, ⟨Nat.zero_le _, Nat.zero_le _⟩, rfl, rfl⟩ [] rfl rfl rfl (Nat.le_of_ble_eq_true rfl) rfl dJ0_checkIndex_df160_5 ?_
  refine j_pop hE dJ0_checkIndex_df160_8 rfl ?_
  exact j_vret hE hq rfl rfl dJ0_checkIndex_df160_9
theorem c_k_lat (l : Launch) (g : jG) (i : Nat) (k m : Int32) (hi : i < 3) (hm : Int32.ofNat (strL.getD i 0) = m) (h0 : ¬ k < 0) (h1 : k < m) (hk : vp_in k (strL.getD i 0)) : MC l g yJ1_charAt_3b067 cJ1_charAt_3b067 2 (some .char) (rmk 2) [.ref (g.2.2.2.2.2.2 i), .int k] [] (some (.int (strC i k.toNatClampNeg))) [] 0 0 := by
  refine MC_of (own := RJ1) (lv := [(0, .ref (g.2.2.2.2.2.2 i)), (1, .int k)]) (by decide) rfl (Nat.le_of_ble_eq_true rfl) rfl rfl (fun E hE hq => ?_)
  have hn : k.toNatClampNeg < strL.getD i 0 := Nat.not_le.mp fun q => hk (Or.inr q)
  obtain ⟨e1, e2⟩ := str_at hi hn
  refine j_iload_n hE dJ1_charAt_3b067_0 rfl 1 rfl ?_
  refine j_aload_n hE dJ1_charAt_3b067_1 rfl 0 rfl ?_
  refine j_stlen hE hi hm dJ1_charAt_3b067_2 ?_
  refine j_callS (As := [.int k, .int m]) (rest := []) (st2 := []) (wc := []) (ws' := []) hE (fun l => c_k_chk l g k m h0 h1) cdk_J0_checkIndex_df160 stk_J0_checkIndex_df160 mlk_RJ1_9 rfl rfl ⟨⟨Nat.le_of_ble_eq_true rfl, Nat.le_of_ble_eq_true rfl⟩, ⟨Nat.zero_le _, Nat.zero_le _⟩, rfl, rfl⟩ [] rfl rfl rfl (Nat.le_of_ble_eq_true rfl) rfl dJ1_charAt_3b067_3 ?_
  refine j_aload_n hE dJ1_charAt_3b067_6 rfl 0 rfl ?_
  refine j_iload_n hE dJ1_charAt_3b067_7 rfl 1 rfl ?_
  refine j_sbald hE hi hk dJ1_charAt_3b067_8 ?_
  refine j_sipush (v := 255) hE dJ1_charAt_3b067_9 (by decide) ?_
  refine j_iand hE dJ1_charAt_3b067_12 ?_
  refine j_i2c hE dJ1_charAt_3b067_13 ?_
  rw [e1]
  exact j_cret hE e2 hq rfl rfl dJ1_charAt_3b067_14
theorem c_k_charAt (l : Launch) (g : jG) (i : Nat) (k m : Int32) (hi : i < 3) (hm : Int32.ofNat (strL.getD i 0) = m) (h0 : ¬ k < 0) (h1 : k < m) (hk : vp_in k (strL.getD i 0)) : MC l g yJ0_charAt_5068e cJ0_charAt_5068e 2 (some .char) (rmk 3) [.ref (g.2.2.2.2.2.1 i), .int k] [] (some (.int (strC i k.toNatClampNeg))) [] 0 0 := by
  refine MC_of (own := RJ0) (lv := [(0, .ref (g.2.2.2.2.2.1 i)), (1, .int k)]) (by decide) rfl (Nat.le_of_ble_eq_true rfl) rfl rfl (fun E hE hq => ?_)
  have hn : k.toNatClampNeg < strL.getD i 0 := Nat.not_le.mp fun q => hk (Or.inr q)
  obtain ⟨e1, e2⟩ := str_at hi hn
  refine j_aload_n hE dJ0_charAt_5068e_0 rfl 0 rfl ?_
  refine j_callK (As := []) (rest := []) (st2 := [.int 1]) hE (fun l => c_k_isLatin1 l g i hi) hi cdk_J0_isLatin1_aae02 kv_J0_isLatin1_aae02 mlk_RJ0_492 rfl rfl ⟨⟨Nat.le_of_ble_eq_true rfl, Nat.le_of_ble_eq_true rfl⟩, ⟨Nat.zero_le _, Nat.zero_le _⟩, rfl, rfl⟩ (Nat.le_of_ble_eq_true rfl) rfl dJ0_charAt_5068e_1 ?_
  refine j_if_eq_f (tgt := 16) hE (by decide) dJ0_charAt_5068e_4 (by decide) ?_
  refine j_aload_n hE dJ0_charAt_5068e_7 rfl 0 rfl ?_
  refine j_sgetV hE hi sg_RJ0_9 dJ0_charAt_5068e_8 ?_
  refine j_iload_n hE dJ0_charAt_5068e_11 rfl 1 rfl ?_
  refine j_callS (As := [.ref (g.2.2.2.2.2.2 i), .int k]) (rest := []) (st2 := [.int (strC i k.toNatClampNeg)]) (wc := []) (ws' := []) hE (fun l => c_k_lat l g i k m hi hm h0 h1 hk) cdk_J1_charAt_3b067 stk_J1_charAt_3b067 mlk_RJ0_495 rfl rfl ⟨⟨Nat.le_of_ble_eq_true rfl, Nat.le_of_ble_eq_true rfl⟩, ⟨Nat.zero_le _, Nat.zero_le _⟩, rfl, rfl⟩ [] rfl rfl rfl (Nat.le_of_ble_eq_true rfl) rfl dJ0_charAt_5068e_12 ?_
  exact j_cret hE e2 hq rfl rfl dJ0_charAt_5068e_15
section JS2
variable {E : jT} {g : jG} {own : String} {cc : ByteArray} {nL : Nat} {ret : Option FieldType} {rm : Room} {kc ks : Nat} {ws : List va_W} {lv : List (Nat × Value)} {pc : Nat} {st : List Value}
theorem j_slen {i index : Nat} {v : Int32} (hE : jOk E g own cc nL ret rm) (hl : Cond.methodLink own index yJ0_length_8abf5 ∈ tb) (hi : i < 3) (hv : Int32.ofNat (strL.getD i 0) = v) (hv2 : v >>> ((0 : Int32) &&& 31) = v) (hr0 : (8 ≤ rm.frames ∧ 200 ≤ rm.locals) ∧ kc ≤ rm.cells ∧ ks ≤ rm.slots) (hcat : (st.map fun v => v.category).sum ≤ 8) (hd : decode cc pc = .ok (.invokevirtual index, 3)) (kk : J E g kc ks ws lv (pc + 3) (.int v :: st)) : J E g kc ks ws lv pc (.ref (g.2.2.2.2.2.1 i) :: st) :=
  j_callK (As := []) (rest := st) (st2 := .int v :: st) hE (fun l => c_k_length l g i v hi hv hv2) hi cdk_J0_length_8abf5 kv_J0_length_8abf5 hl rfl rfl ⟨⟨Nat.le_trans (by decide) hr0.1.1, Nat.le_trans (by decide) hr0.1.2⟩, hr0.2, rfl, rfl⟩ hcat rfl hd kk
theorem str_in {k : Int32} {n : Nat} (hn : n < 2 ^ 31) (h : vp_in k n) : ¬ k < 0 ∧ k < Int32.ofNat n := by
  obtain ⟨j, hj, rfl⟩ := vp_in_of h hn
  exact ⟨nI_pos (by omega), nI_lt hj hn⟩
theorem j_schar {i n index : Nat} {k : Int32} {α : Type} {f : Nat → Option α} {r : α} (hE : jOk E g own cc nL ret rm) (hf : (ix k n).bind f = some r) (hl : Cond.methodLink own index yJ0_charAt_5068e ∈ tb) (hi : i < 3) (hv : strL.getD i 0 = n) (hn : (n < 2 ^ 31 : Bool) = true) (hr0 : (8 ≤ rm.frames ∧ 200 ≤ rm.locals) ∧ kc ≤ rm.cells ∧ ks ≤ rm.slots) (hcat : (st.map fun v => v.category).sum ≤ 8) (hd : decode cc pc = .ok (.invokevirtual index, 3)) (kk : f k.toNatClampNeg = some r → J E g kc ks ws lv (pc + 3) (.int (strC i k.toNatClampNeg) :: st)) : J E g kc ks ws lv pc (.int k :: .ref (g.2.2.2.2.2.1 i) :: st) := by
  obtain ⟨h1, hf2⟩ := ix_of hf
  subst hv
  obtain ⟨h2, h3⟩ := str_in (of_decide_eq_true hn) h1
  exact j_callK (As := [.int k]) (rest := st) (st2 := .int (strC i k.toNatClampNeg) :: st) hE (fun l => c_k_charAt l g i k _ hi rfl h2 h3 h1) hi cdk_J0_charAt_5068e kv_J0_charAt_5068e hl rfl rfl ⟨⟨Nat.le_trans (by decide) hr0.1.1, Nat.le_trans (by decide) hr0.1.2⟩, hr0.2, rfl, rfl⟩ hcat rfl hd (kk hf2)
end JS2
