/-! ===== the law's script ===== -/
def jSc (E : jT) (b L : Nat) (xs : Nat → Int32) : Prop :=
  match E with
  | (p, l, e, R, s, m, args, below, meth, c, Q, A) => va_X b L xs s s.heap ∧ b < s.heap.size ∧ ¬ A b
theorem j_xld {E : jT} {g : jG} {own : String} {cc : ByteArray} {nL : Nat} {ret : Option FieldType} {rm : Room} {kc ks : Nat} {ws : List va_W} {lv : List (Nat × Value)} {pc : Nat} {st : List Value} {b L : Nat} {xs : Nat → Int32} {i : Int32} (hE : jOk E g own cc nL ret rm) (hX : jSc E b L xs) (hin : vp_in i L) (hd : decode cc pc = .ok (.iaload, 1)) (kk : J E g kc ks ws lv (pc + 1) (.int (xs i.toNatClampNeg) :: st)) : J E g kc ks ws lv pc (.int i :: .ref b :: st) := by
  obtain ⟨p, l, e, R, s, m, args, below, meth, c, Q, A⟩ := E
  obtain ⟨hx, hb, hml, hr, hown, hts, hK, hlk, hA, rfl, hN, hSt⟩ := hE
  obtain ⟨h1, h2, h3⟩ := hX
  intro H locs ls hP hD hS hL
  exact va_sld hx hb h1 h2 h3 hS hin hd (kk H locs ls hP hD hS hL)
theorem j_xlen {E : jT} {g : jG} {own : String} {cc : ByteArray} {nL : Nat} {ret : Option FieldType} {rm : Room} {kc ks : Nat} {ws : List va_W} {lv : List (Nat × Value)} {pc : Nat} {st : List Value} {b L : Nat} {xs : Nat → Int32} (hE : jOk E g own cc nL ret rm) (hX : jSc E b L xs) (hd : decode cc pc = .ok (.arraylength, 1)) (kk : J E g kc ks ws lv (pc + 1) (.int (Int32.ofNat L) :: st)) : J E g kc ks ws lv pc (.ref b :: st) := by
  obtain ⟨p, l, e, R, s, m, args, below, meth, c, Q, A⟩ := E
  obtain ⟨hx, hb, hml, hr, hown, hts, hK, hlk, hA, rfl, hN, hSt⟩ := hE
  obtain ⟨h1, h2, h3⟩ := hX
  intro H locs ls hP hD hS hL
  exact va_slen hx hb h1 h2 h3 hS hd (kk H locs ls hP hD hS hL)
