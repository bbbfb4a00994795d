def mo0 : jZ := up2 (up2 (up2 (fun _ _ => 0) 18 0 5) 35 0 (-1)) 39 0 (-1)
def lwX (g : jG) (a : Nat → Nat) (re : jZ) (ta : jZ) (ro : jZ) (ki : jZ) (ru : jZ) (ruy : jY) (no : jZ) (sro : jZ) (ski : jZ) (sru : jZ) (sruy : jY) (sno : jZ) (od : jZ) (ody : jY) (lu : jZ) (luy : jY) (fa : jZ) (fod : jZ) (fody : jY) (ho : jZ) (po : jZ) (pod : jZ) (pody : jY) : List va_W := [n_WP g a , n_Reader g (fun i => a (i + 1)) re, n_Tape g (fun i => a (i + 4)) ta, n_Road g (fun i => a (i + 6)) ro, n_Kinds g (fun i => a (i + 14)) ki, n_Rule g (fun i => a (i + 20)) ru ruy, n_Notes g (fun i => a (i + 23)) no, n_Road g (fun i => a (i + 30)) sro, n_Kinds g (fun i => a (i + 38)) ski, n_Rule g (fun i => a (i + 44)) sru sruy, n_Notes g (fun i => a (i + 47)) sno, n_Odds g (fun i => a (i + 54)) od ody, n_Luck g (fun i => a (i + 57)) lu luy, n_Falls g (fun i => a (i + 59)) fa, n_Odds g (fun i => a (i + 60)) fod fody, n_House g (fun i => a (i + 63)) ho, n_Poles g (fun i => a (i + 64)) po, n_Odds g (fun i => a (i + 69)) pod pody]
theorem zNit_k (k : Nat) (hk : k ≠ 7) : ∀ n, zNit n k = (up2 (fun _ _ => 0) 1 0 (-1) : jZ) k
  | 0 => rfl
  | n + 1 => by rw [zNit, up2_k hk]; exact zNit_k k hk n
theorem zNit_7 : ∀ n j, j < n → zNit n 7 j = -1
  | 0, j, h => absurd h (Nat.not_lt_zero j)
  | n + 1, j, h => by
    rw [zNit]
    by_cases c : j = n
    · rw [c, up2_s]
    · rw [up2_j c]; exact zNit_7 n j (by omega)
theorem x0_ok : lwI (up2 (up2 (up2 (fun _ _ => 0) 2 0 (-1)) 8 0 1) 9 0 1) (fun _ _ => 0) (up2 (fun _ _ => 0) 5 0 5) (fun _ _ => 0) (fun _ _ => 0) (zNit 108) (up2 (fun _ _ => 0) 0 0 (-1)) (fun _ _ => 0) mo0 :=
  ⟨⟨rfl, by decide, by decide, fun i h => absurd h (by show ¬ (i : Int) < 0; omega)⟩,
  ⟨rfl, rfl⟩,
  ⟨rfl, by decide, by decide, rfl, fun k h => absurd h (by show ¬ (k : Int) < 0; omega)⟩,
  ⟨rfl, by decide, by decide, rfl, by decide, rfl, by decide, fun k h => absurd h (by show ¬ (k : Int) < 0; omega)⟩,
  ⟨rfl, by decide, fun k h => absurd h (by show ¬ (k : Int) < 0; omega), Or.inl rfl⟩,
  ⟨by show zNit 108 0 0 = 0; rw [zNit_k 0 (by decide)]; rfl, by decide, by show zNit 108 1 0 = -1; rw [zNit_k 1 (by decide)]; rfl, by decide, fun k h => absurd h (by show ¬ (k : Int) < 0; omega), fun j hj => by show zNit 108 7 j = _; rw [zNit_7 108 j hj]; rfl⟩,
  Or.inl rfl⟩
set_option maxRecDepth 100000 in
theorem lw_first {E : jT} {g : jG} {b L : Nat} {xs : Nat → Int32} (hE : jOk E g RL code 7 ret room_1) (hX : jSc E b L xs) (hXE : jXE E) (hL : L ≤ 3072) (hend : ∀ (kc ks : Nat) (ws : List va_W) (lv : List (Nat × Value)), kc ≤ 601024 → ks ≤ 7293034 → J E g kc ks ws lv 1178 [.int 1]) : J E g 0 0 [] [(0, .ref b)] 0 [] := by
  refine j_new hE nw_L_8 ⟨Nat.le_of_ble_eq_true rfl, Nat.le_of_ble_eq_true rfl⟩ dL_law_0 (fun p0 => ?_)
  refine j_dup hE dL_law_3 rfl ?_
  refine j_callI (wr := []) hE (fun l => n_WP_init l g p0) cd_X11_init rfl in_yX11_init ml_L_17 rfl ⟨⟨Nat.le_of_ble_eq_true rfl, Nat.le_of_ble_eq_true rfl⟩, ⟨Nat.le_of_ble_eq_true rfl, Nat.le_of_ble_eq_true rfl⟩, rfl, rfl⟩ (Nat.le_of_ble_eq_true rfl) dL_law_4 (fun a ha => ?_)
  refine j_ws (ws' := lwX g a (up2 (up2 (up2 (fun _ _ => 0) 2 0 (-1)) 8 0 1) 9 0 1) (fun _ _ => 0) (up2 (fun _ _ => 0) 5 0 5) (fun _ _ => 0) (fun _ _ => 0) (fun _ _ => 0) (zNit 108) (up2 (fun _ _ => 0) 5 0 5) (fun _ _ => 0) (fun _ _ => 0) (fun _ _ => 0) (zNit 108) (fun _ _ => 0) (fun _ _ => 0) (up2 (fun _ _ => 0) 0 0 (-1)) (fun _ _ => 0) (fun _ _ => 0) (fun _ _ => 0) (fun _ _ => 0) (fun _ _ => 0) (fun _ _ => 0) (fun _ _ => 0) (fun _ _ => 0)) rfl ?_
  refine j_astore_n (lv' := [(1, .ref p0), (0, .ref b)]) hE dL_law_7 rfl (by decide) rfl ?_
  refine j_new hE nw_L_18 ⟨Nat.le_of_ble_eq_true rfl, Nat.le_of_ble_eq_true rfl⟩ dL_law_8 (fun q0 => ?_)
  refine j_dup hE dL_law_11 rfl ?_
  refine j_callI (wr := lwX g a (up2 (up2 (up2 (fun _ _ => 0) 2 0 (-1)) 8 0 1) 9 0 1) (fun _ _ => 0) (up2 (fun _ _ => 0) 5 0 5) (fun _ _ => 0) (fun _ _ => 0) (fun _ _ => 0) (zNit 108) (up2 (fun _ _ => 0) 5 0 5) (fun _ _ => 0) (fun _ _ => 0) (fun _ _ => 0) (zNit 108) (fun _ _ => 0) (fun _ _ => 0) (up2 (fun _ _ => 0) 0 0 (-1)) (fun _ _ => 0) (fun _ _ => 0) (fun _ _ => 0) (fun _ _ => 0) (fun _ _ => 0) (fun _ _ => 0) (fun _ _ => 0) (fun _ _ => 0)) hE (fun l => n_Mo_init l g q0) cd_X12_init rfl in_yX12_init ml_L_20 rfl ⟨⟨Nat.le_of_ble_eq_true rfl, Nat.le_of_ble_eq_true rfl⟩, ⟨Nat.le_of_ble_eq_true rfl, Nat.le_of_ble_eq_true rfl⟩, rfl, rfl⟩ (Nat.le_of_ble_eq_true rfl) dL_law_12 (fun am hm => ?_)
  refine j_astore_n (lv' := [(2, .ref q0), (1, .ref p0), (0, .ref b)]) hE dL_law_15 rfl (by decide) rfl ?_
  refine j_iconst (v := 1) hE dL_law_16 (by decide) ?_
  refine j_newaJ (N := 1) hE ac_J (by decide) (by decide) (Nat.le_of_ble_eq_true rfl) ⟨Nat.le_of_ble_eq_true rfl, Nat.le_of_ble_eq_true rfl⟩ dL_law_17 (fun o => ?_)
  refine j_ws (ws' := (lwW g a am o (up2 (up2 (up2 (fun _ _ => 0) 2 0 (-1)) 8 0 1) 9 0 1) (fun _ _ => 0) (up2 (fun _ _ => 0) 5 0 5) (fun _ _ => 0) (fun _ _ => 0) (fun _ _ => 0) (zNit 108) (up2 (fun _ _ => 0) 5 0 5) (fun _ _ => 0) (fun _ _ => 0) (fun _ _ => 0) (zNit 108) (fun _ _ => 0) (fun _ _ => 0) (up2 (fun _ _ => 0) 0 0 (-1)) (fun _ _ => 0) (fun _ _ => 0) (fun _ _ => 0) (fun _ _ => 0) (fun _ _ => 0) (fun _ _ => 0) (fun _ _ => 0) (fun _ _ => 0) mo0 (fun _ _ => 0) (fun _ => 0))) rfl ?_
  refine j_astore_n (lv' := [(3, .ref o), (2, .ref q0), (1, .ref p0), (0, .ref b)]) hE dL_law_19 rfl (by decide) rfl ?_
  refine j_iconst (v := 0) hE dL_law_20 (by decide) ?_
  refine j_istore (lv' := lwL b p0 q0 o 0) hE dL_law_21 (by decide) rfl ?_
  exact lw_loop hE hX hXE hL hend L 0 0 a am (up2 (up2 (up2 (fun _ _ => 0) 2 0 (-1)) 8 0 1) 9 0 1) (fun _ _ => 0) (up2 (fun _ _ => 0) 5 0 5) (fun _ _ => 0) (fun _ _ => 0) (fun _ _ => 0) (zNit 108) (up2 (fun _ _ => 0) 5 0 5) (fun _ _ => 0) (fun _ _ => 0) (fun _ _ => 0) (zNit 108) (fun _ _ => 0) (fun _ _ => 0) (up2 (fun _ _ => 0) 0 0 (-1)) (fun _ _ => 0) (fun _ _ => 0) (fun _ _ => 0) (fun _ _ => 0) (fun _ _ => 0) (fun _ _ => 0) (fun _ _ => 0) (fun _ _ => 0) mo0 (fun _ _ => 0) (fun _ => 0) (by omega) rfl (by omega) ha hm x0_ok
