/-! ===== sums over what luck can deal ===== -/
theorem sI_add (f g : Nat → Int) : ∀ n, sI (fun k => f k + g k) n = sI f n + sI g n
  | 0 => by simp [sI]
  | n + 1 => by rw [sI, sI, sI, sI_add f g n]; omega
theorem sI_swap (f : Nat → Nat → Int) (m : Nat) : ∀ n, sI (fun k => sI (fun a => f k a) m) n = sI (fun a => sI (fun k => f k a) n) m
  | 0 => (sI_zero (f := fun a => sI (fun k => f k a) 0) m (fun _ => rfl)).symm
  | n + 1 => by
    rw [sI, sI_swap f m n]
    have := sI_add (fun a => sI (fun k => f k a) n) (fun a => f n a) m
    rw [← this]
    exact sI_cong m (fun k _ => by rw [sI])
theorem sI_app (f : Nat → Int) (m : Nat) : ∀ n, sI f (m + n) = sI f m + sI (fun i => f (m + i)) n
  | 0 => by simp [sI]
  | n + 1 => by
    have := sI_app f m n
    show sI f ((m + n) + 1) = _
    rw [sI, sI, this]; omega
theorem sI_10 (H : Nat → Nat → Int) : ∀ n, sI (fun i => H (i / 10) (i % 10)) (10 * n) = sI (fun q => sI (fun r => H q r) 10) n
  | 0 => by simp [sI]
  | n + 1 => by
    rw [show 10 * (n + 1) = 10 * n + 10 by omega, sI_app, sI_10 H n, sI]
    congr 1
    exact sI_cong 10 (fun k hk => by rw [show (10 * n + k) / 10 = n by omega, show (10 * n + k) % 10 = k by omega])
theorem sI_1000 (G : Nat → Nat → Nat → Int) : sI (fun i => G (i / 100) (i / 10 % 10) (i % 10)) 1000 = sI (fun a => sI (fun b => sI (fun c => G a b c) 10) 10) 10 := by
  have h1 := sI_10 (fun q r => G (q / 10) (q % 10) r) 100
  have h2 := sI_10 (fun a b => sI (fun c => G a b c) 10) 10
  rw [← h2, show 10 * 10 = 100 by omega, ← h1, show 10 * 100 = 1000 by omega]
  exact sI_cong 1000 (fun k _ => by rw [Nat.div_div_eq_div_mul])
theorem sI_pick (h : Nat → Int) (d : Nat) : ∀ n, sI (fun c => (if (d : Int) = (c : Int) then 1 else 0) * h c) n = if d < n then h d else 0
  | 0 => by simp [sI]
  | n + 1 => by
    rw [sI, sI_pick h d n]
    by_cases c : d = n
    · subst c; rw [if_neg (by omega), if_pos rfl, if_pos (by omega)]; omega
    · rw [if_neg (show ¬ (d : Int) = (n : Int) by omega)]
      by_cases e : d < n
      · rw [if_pos e, if_pos (by omega)]; omega
      · rw [if_neg e, if_neg (by omega)]; omega
/-- over the faces = over the numbers, as often as each stands there -/
theorem cnt_sum (f : Nat → Int32) (b : Nat) (h : Nat → Int) : ∀ n, (∀ j, j < n → 0 ≤ (f (b + j)).toInt ∧ (f (b + j)).toInt ≤ 9) → sI (fun j => h (f (b + j)).toInt.toNat) n = sI (fun c => (cnt f b c n : Int) * h c) 10
  | 0, _ => by
    rw [sI, sI_zero 10 (fun k => by simp [cnt])]
  | n + 1, hf => by
    obtain ⟨f0, f9⟩ := hf n (by omega)
    rw [sI, cnt_sum f b h n (fun j hj => hf j (by omega))]
    have e : sI (fun c => (cnt f b c (n + 1) : Int) * h c) 10 = sI (fun c => (cnt f b c n : Int) * h c + (if (((f (b + n)).toInt.toNat : Nat) : Int) = (c : Int) then 1 else 0) * h c) 10 := sI_cong 10 (fun c _ => by
      have : ((cnt f b c (n + 1) : Nat) : Int) = (cnt f b c n : Int) + (if (((f (b + n)).toInt.toNat : Nat) : Int) = (c : Int) then 1 else 0) := by
        rw [cnt, show (((f (b + n)).toInt.toNat : Nat) : Int) = (f (b + n)).toInt by omega]
        by_cases q : (f (b + n)).toInt = (c : Int)
        · rw [if_pos q, if_pos q]; omega
        · rw [if_neg q, if_neg q]; omega
      rw [this, Int.add_mul])
    rw [e, sI_add, sI_pick h (f (b + n)).toInt.toNat 10, if_pos (by omega)]
theorem law_sum (f : Nat → Int32) (K : Nat) (hf : ∀ k, k < K → ∀ j, j < 10 → 0 ≤ (f (10 * k + j)).toInt ∧ (f (10 * k + j)).toInt ≤ 9) (h : Nat → Nat → Nat → Nat → Int) :
    sI (fun k => sI (fun i => h k (f (10 * k + i / 100)).toInt.toNat (f (10 * k + i / 10 % 10)).toInt.toNat (f (10 * k + i % 10)).toInt.toNat) 1000) K
    = sI (fun i => sI (fun k => (cnt f (10 * k) (i / 100 : Nat) 10 : Int) * ((cnt f (10 * k) (i / 10 % 10 : Nat) 10 : Int) * ((cnt f (10 * k) (i % 10 : Nat) 10 : Int) * h k (i / 100) (i / 10 % 10) (i % 10)))) K) 1000 := by
  rw [← sI_swap (fun k i => (cnt f (10 * k) (i / 100 : Nat) 10 : Int) * ((cnt f (10 * k) (i / 10 % 10 : Nat) 10 : Int) * ((cnt f (10 * k) (i % 10 : Nat) 10 : Int) * h k (i / 100) (i / 10 % 10) (i % 10)))) 1000 K]
  refine sI_cong K (fun k hk => ?_)
  have hfk := hf k hk
  rw [sI_1000 (fun a b c => h k (f (10 * k + a)).toInt.toNat (f (10 * k + b)).toInt.toNat (f (10 * k + c)).toInt.toNat),
    sI_1000 (fun a b c => (cnt f (10 * k) a 10 : Int) * ((cnt f (10 * k) b 10 : Int) * ((cnt f (10 * k) c 10 : Int) * h k a b c)))]
  rw [cnt_sum f (10 * k) (fun A => sI (fun b => sI (fun c => h k A (f (10 * k + b)).toInt.toNat (f (10 * k + c)).toInt.toNat) 10) 10) 10 hfk]
  refine sI_cong 10 (fun a _ => ?_)
  rw [cnt_sum f (10 * k) (fun B => sI (fun c => h k a B (f (10 * k + c)).toInt.toNat) 10) 10 hfk, ← sI_mul]
  refine sI_cong 10 (fun b _ => ?_)
  rw [cnt_sum f (10 * k) (fun C => h k a b C) 10 hfk, ← sI_mul, ← sI_mul]
/-! the law's three numbers -/
def tau (mo : jZ) (q : Int32) (a b c : Nat) : Prop := ¬ TK mo (nI a) (nI b) (nI c) q = 0
def hT (mo : jZ) (q : Int32) (k a b c : Nat) : Int := if TK mo (nI a) (nI b) (nI c) q = 0 then 0 else (mo 6 k).toInt
def hH (mo : jZ) (q : Int32) (k a b c : Nat) : Int := if TK mo (nI a) (nI b) (nI c) q = 0 then 0 else (mo 6 k).toInt * ((a : Int) + b + c)
def hS (mo : jZ) (q : Int32) (k a b c : Nat) : Int := if TK mo (nI a) (nI b) (nI c) q = 0 then 0 else 3 * (mo 6 k).toInt * sm (mo 7) (10 * k) 10
/-- as the reference adds -/
def lwR (h : Nat → Nat → Nat → Nat → Int) (f : Nat → Int32) (k i : Nat) : Int := h k (f (10 * k + i / 100)).toInt.toNat (f (10 * k + i / 10 % 10)).toInt.toNat (f (10 * k + i % 10)).toInt.toNat
def LW (h : Nat → Nat → Nat → Nat → Int) (mo : jZ) : Int := sI (fun k => sI (lwR h (mo 7) k) 1000) (mo 3 0).toInt.toNat
theorem TK_congr {ru mo m2 : jZ} (hR : iRule ru mo) (h15 : m2 15 = mo 15) (h16 : m2 16 = mo 16) (h17 : m2 17 = mo 17) (a b c q : Int32) : TK m2 a b c q = TK mo a b c q := by
  obtain ⟨ru2, ruy2, m3, my3, g1, g2, -⟩ := takes_det (m2 := up2 (up2 (up2 m2 49 0 a) 49 1 b) 49 2 c) hR (by rw [up2_k (by decide), up2_k (by decide), up2_k (by decide)]; exact h15) (by rw [up2_k (by decide), up2_k (by decide), up2_k (by decide)]; exact h16) (by rw [up2_k (by decide), up2_k (by decide), up2_k (by decide)]; exact h17) (fun _ _ => 0) (fun _ _ => 0) a b c q (by rw [up2_j (by decide), up2_j (by decide), up2_s]) (by rw [up2_j (by decide), up2_s]) up2_s
  unfold TK at g2 ⊢
  rw [g2]
/-- what luck keeps -/
def iLuck (lu : jZ) (luy : jY) (mo : jZ) : Prop := lu 0 0 = -1 ∨ ((luy 1 0).toInt = LW (hT mo (lu 0 0)) mo ∧ (luy 2 0).toInt = LW (hH mo (lu 0 0)) mo ∧ (luy 3 0).toInt = LW (hS mo (lu 0 0)) mo)
theorem iLuck.to {ru lu mo m2 : jZ} {luy : jY} (h : iLuck lu luy mo) (hR : iRule ru mo) (r : mRelA mo m2) : iLuck lu luy m2 := by
  have T : ∀ a b c q, TK m2 a b c q = TK mo a b c q := TK_congr hR (r 15 (by omega)) (r 16 (by omega)) (r 17 (by omega))
  have e1 : ∀ q, hT m2 q = hT mo q := fun q => by funext k a b c; unfold hT; rw [T, r 6 (by omega)]
  have e2 : ∀ q, hH m2 q = hH mo q := fun q => by funext k a b c; unfold hH; rw [T, r 6 (by omega)]
  have e3 : ∀ q, hS m2 q = hS mo q := fun q => by funext k a b c; unfold hS; rw [T, r 6 (by omega), r 7 (by omega)]
  unfold iLuck LW at h ⊢
  rw [e1, e2, e3, r 7 (by omega), r 3 (by omega)]
  exact h
