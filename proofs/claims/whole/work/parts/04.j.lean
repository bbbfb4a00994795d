/-! ===== the judgement J: a walk with its world and its locals inside ===== -/
abbrev jZ : Type := Nat → Nat → Int32
abbrev jY : Type := Nat → Nat → Int64
abbrev up2 {α : Type} (z : Nat → Nat → α) (k j : Nat) (v : α) : Nat → Nat → α := fun k' => if k' = k then (fun i => if i = j then v else z k i) else z k'
abbrev upR {α : Type} (z : Nat → Nat → α) (k : Nat) (f : Nat → α) : Nat → Nat → α := fun k' => if k' = k then f else z k'
def FU : Nat := 1000000
theorem j_case {α : Type} {c : Prop} [Decidable c] {a b : Option α} {r : α} {G : Prop} (hf : (if c then a else b) = some r) (kt : c → a = some r → G) (kf : ¬ c → b = some r → G) : G := by
  by_cases h : c
  · rw [if_pos h] at hf; exact kt h hf
  · rw [if_neg h] at hf; exact kf h hf
def ix (i : Int32) (n : Nat) : Option Nat := if i < 0 ∨ n ≤ i.toNatClampNeg then none else some i.toNatClampNeg
def bz (x : Int32) : Option Unit := if x = 0 ∨ x = 1 then some () else none
def nz (x : Int32) : Option Unit := if x = 0 then none else some ()
def nzl (x : Int64) : Option Unit := if x = 0 then none else some ()
theorem ix_of {α : Type} {i : Int32} {n : Nat} {k : Nat → Option α} {r : α} (h : (ix i n).bind k = some r) : vp_in i n ∧ k i.toNatClampNeg = some r := by
  unfold ix at h
  by_cases c : i < 0 ∨ n ≤ i.toNatClampNeg
  · rw [if_pos c] at h; cases h
  · rw [if_neg c] at h; exact ⟨c, h⟩
theorem bz_of {α : Type} {x : Int32} {k : Unit → Option α} {r : α} (h : (bz x).bind k = some r) : (x = 0 ∨ x = 1) ∧ k () = some r := by
  unfold bz at h
  by_cases c : x = 0 ∨ x = 1
  · rw [if_pos c] at h; exact ⟨c, h⟩
  · rw [if_neg c] at h; cases h
theorem nz_of {α : Type} {x : Int32} {k : Unit → Option α} {r : α} (h : (nz x).bind k = some r) : ¬ x = 0 ∧ k () = some r := by
  unfold nz at h
  by_cases c : x = 0
  · rw [if_pos c] at h; cases h
  · rw [if_neg c] at h; exact ⟨c, h⟩
theorem nzl_of {α : Type} {x : Int64} {k : Unit → Option α} {r : α} (h : (nzl x).bind k = some r) : ¬ x = 0 ∧ k () = some r := by
  unfold nzl at h
  by_cases c : x = 0
  · rw [if_pos c] at h; cases h
  · rw [if_neg c] at h; exact ⟨c, h⟩
theorem bind_of {α β : Type} {x : Option α} {k : α → Option β} {r : β} (h : x.bind k = some r) : ∃ q, x = some q ∧ k q = some r := by
  cases x with
  | none => cases h
  | some q => exact ⟨q, rfl, h⟩
abbrev jT : Type := Program × Launch × Env × Room × State × MethodId × Array Value × List Frame × Method × Code × (State → Prop) × (Nat → Prop)
abbrev jG : Type := va_G × ClassId × ClassId × ClassId × ClassId × (Nat → Nat) × (Nat → Nat)
def jTy (g : jG) : List (ClassId × FieldType) := [(g.2.1, .byte), (g.2.2.1, .int), (g.2.2.2.1, .long), (g.2.2.2.2.1, .boolean)]
def jN (U : State) : Prop := ∀ q ∈ nwl, va_Nw (.methodLinkNest q.1 q.2.1 q.2.2.1 q.2.2.2) U
theorem jN.warm {s U : State} (hW : s.WarmedH U.vm) (h : jN s) : jN U := fun q hq => va_Nw.warmM hW (h q hq)
def jS (g : jG) (A : Nat → Prop) (U : State) (H : Heap) : Prop := vk_S 3 strL strB g.2.2.2.2.2.1 g.2.2.2.2.2.2 A U H ∧ vk_R "WorstPlaces" 120 str0 (g.2.2.2.2.2.1 0) U ∧ vk_R "WorstPlaces" 146 str1 (g.2.2.2.2.2.1 1) U ∧ vk_R "WorstPlacesModel" 129 str2 (g.2.2.2.2.2.1 2) U ∧ va_Z "java/lang/String" "COMPACT_STRINGS" "Z" (.int 1) A U H ∧ va_Zq "jdk/internal/util/Preconditions" "SIOOBE_FORMATTER" "Ljava/util/function/BiFunction;" A U H
theorem jS.to {g : jG} {A B : Nat → Prop} {s U : State} {H : Heap} (h : jS g A s s.heap) (hW : s.WarmedH U.vm) (hq : ∀ a : Nat, a < s.heap.size → ¬ A a → H[a]? = s.heap[a]?) (hAB : ∀ q, B q → A q) : jS g B U H :=
  ⟨((h.1.kept hq).moved hW.alike).narrow hAB, h.2.1.warm hW, h.2.2.1.warm hW, h.2.2.2.1.warm hW, ((h.2.2.2.2.1.kept hq).moved hW.alike).narrow hAB, ((h.2.2.2.2.2.kept hq).moved hW.alike).narrow hAB⟩
def J (E : jT) (g : jG) (kc ks : Nat) (ws : List va_W) (lv : List (Nat × Value)) (pc : Nat) (st : List Value) : Prop :=
  match E with
  | (p, l, e, R, s, m, args, below, meth, c, Q, A) => ∀ (H : Heap) (locs : List Loc) (ls : Array Slot), va_P g.1 vwCl ws.flatten H → va_D A ws.flatten → va_S A s.heap H locs → lv_has ls c.maxLocals lv → W p l e R s m args below meth c H locs kc ks Q (F0 m pc ls st)
def jOk (E : jT) (g : jG) (own : String) (cc : ByteArray) (nL : Nat) (ret : Option FieldType) (rm : Room) : Prop :=
  match E with
  | (p, l, e, R, s, m, args, below, meth, c, Q, A) => p.tables.exec = Jvm.exec ∧ c.code = cc ∧ c.maxLocals = nL ∧ meth.sig.returnType = ret ∧ s.vm.findClass own = some m.cls ∧ (∀ w ∈ tb, w.before args s = true) ∧ va_K g.1 vwCl (jTy g) s ∧ meth.locks = false ∧ (∀ q, s.heap.size ≤ q → A q) ∧ R = rm ∧ jN s ∧ jS g A s s.heap
def jQ (g : jG) (v0 : Option Value) (w1 : List va_W) (A : Nat → Prop) : Array Value → State → Outcome → State → Prop := fun _ st oc t => oc = .returned v0 ∧ va_P g.1 vwCl w1.flatten t.heap ∧ va_F A st t
def jEnd (E : jT) (g : jG) (v0 : Option Value) (w1 : List va_W) (mc ms : Nat) : Prop :=
  match E with
  | (p, l, e, R, s, m, args, below, meth, c, Q, A) => Q = MQ below (jQ g v0 w1 A) args s mc ms A
def jAd (w : List va_W) : List (List Nat) := w.map (fun u => u.map Prod.fst)
def jPre (g : jG) (w0 : List va_W) (sz : Nat) (U : State) : Prop := U.heap.size = sz ∧ va_P g.1 vwCl w0.flatten U.heap ∧ va_K g.1 vwCl (jTy g) U ∧ va_D (fun _ => True) w0.flatten ∧ jN U ∧ jS g (va_A w0.flatten sz) U U.heap
def MC (l : Launch) (g : jG) (y : MethodName) (cc : ByteArray) (maxL : Nat) (ret : Option FieldType) (rm : Room) (av : List Value) (w0 : List va_W) (v0 : Option Value) (w1 : List va_W) (mc ms : Nat) : Prop :=
  jAd w1 = jAd w0 ∧ ∀ sz : Nat, Met l y (.code y cc maxL ret :: tb) rm (va_Pc av (jPre g w0 sz)) (jQ g v0 w1 (va_A w0.flatten sz)) mc ms (va_A w0.flatten sz)
theorem MC_of {l : Launch} {g : jG} {own : String} {y : MethodName} {cc : ByteArray} {maxL : Nat} {ret : Option FieldType} {rm : Room} {av : List Value} {w0 : List va_W} {v0 : Option Value} {w1 : List va_W} {mc ms : Nat} {lv : List (Nat × Value)} (hy : plainName y.cls = true) (ho : y.cls = own) (hl : (lg_sl av).length ≤ maxL) (hlv : lv_args 0 av = lv) (had : jAd w1 = jAd w0)
    (body : ∀ E : jT, jOk E g own cc maxL ret rm → jEnd E g v0 w1 mc ms → J E g 0 0 w0 lv 0 []) : MC l g y cc maxL ret rm av w0 v0 w1 mc ms := by
  refine ⟨had, fun sz => ?_⟩
  refine Met.ofW (cc := cc) (maxL := maxL) (ret := ret) hy rfl ?_
  intro p e s m args below meth c s₁ B hml hv
  obtain ⟨rfl, hsz, hP, hK, hD0, hN, hSt⟩ := hv
  subst hsz
  subst ho
  have hts := atoms_spec (ws := .code y cc maxL ret :: tb) B.pre
  have hown : s.vm.findClass y.cls = some m.cls := findClass_of_methodNamed B.named
  have hD := hD0.self (sz := s.heap.size)
  have hb := body (p, l, e, rm, s, m, av.toArray, below, meth, c, MQ below (jQ g v0 w1 (va_A w0.flatten s.heap.size)) av.toArray s mc ms (va_A w0.flatten s.heap.size), va_A w0.flatten s.heap.size) ⟨B.exec, B.bytes, hml, B.returns, hown, fun w h => hts w (List.mem_cons_of_mem _ h), hK, B.notSynchronized, fun q h => Or.inr h, rfl, hN, hSt⟩ rfl
  have hlq := lv_entry av (n := maxL) hl
  rw [hlv] at hlq
  rw [lg_entry_eq]
  exact hb s.heap [] _ hP hD va_S.rf (by rw [hml]; exact hlq)
/-! segments -/
def sOff (ws : List va_W) (i : Nat) : Nat := ((ws.take i).map List.length).sum
theorem sOff_succ : ∀ (ws : List va_W) (i : Nat) (w : va_W), ws[i]? = some w → sOff ws (i + 1) = sOff ws i + w.length
  | [], i, w, h => by simp at h
  | u :: ws, 0, w, h => by
    have h : u = w := by simpa using h
    subst h
    simp [sOff]
  | u :: ws, i + 1, w, h => by
    have := sOff_succ ws i w (by simpa using h)
    simp only [sOff, List.take_succ_cons, List.map_cons, List.sum_cons] at this ⊢
    omega
theorem sOff_mono (ws : List va_W) : ∀ (j i : Nat), i ≤ j → sOff ws i ≤ sOff ws j
  | 0, i, h => by have : i = 0 := by omega
                  subst this; exact Nat.le_refl _
  | j + 1, i, h => by
    by_cases hij : i = j + 1
    · subst hij; exact Nat.le_refl _
    · have h1 := sOff_mono ws j i (by omega)
      have h2 : sOff ws j ≤ sOff ws (j + 1) := by
        cases hw : ws[j]? with
        | none =>
          have hl : ws.length ≤ j := by
            rcases Nat.lt_or_ge j ws.length with q | q
            · rw [List.getElem?_eq_getElem q] at hw; cases hw
            · exact q
          simp only [sOff]
          rw [List.take_of_length_le hl, List.take_of_length_le (by omega)]
          exact Nat.le_refl _
        | some w => rw [sOff_succ ws j w hw]; omega
      omega
theorem sAt : ∀ (ws : List va_W) (i q : Nat) (w : va_W) (x : Nat × va_E), ws[i]? = some w → w[q]? = some x → ws.flatten[sOff ws i + q]? = some x
  | [], i, q, w, x, h, _ => by simp at h
  | u :: ws, 0, q, w, x, h, hq => by
    have h : u = w := by simpa using h
    subst h
    have hl := (List.getElem?_eq_some_iff.mp hq).1
    simp only [sOff, List.take_zero, List.map_nil, List.sum_nil, Nat.zero_add, List.flatten_cons]
    rw [List.getElem?_append_left hl]
    exact hq
  | u :: ws, i + 1, q, w, x, h, hq => by
    have := sAt ws i q w x (by simpa using h) hq
    simp only [sOff, List.take_succ_cons, List.map_cons, List.sum_cons, List.flatten_cons] at this ⊢
    rw [List.getElem?_append_right (by omega)]
    rw [← this]
    congr 1
    omega
theorem sSet : ∀ (ws : List va_W) (i q : Nat) (w : va_W) (x : Nat × va_E), ws[i]? = some w → q < w.length → (ws.set i (w.set q x)).flatten = ws.flatten.set (sOff ws i + q) x
  | [], i, q, w, x, h, _ => by simp at h
  | u :: ws, 0, q, w, x, h, hq => by
    have h : u = w := by simpa using h
    subst h
    simp [sOff, List.set_append_left, hq]
  | u :: ws, i + 1, q, w, x, h, hq => by
    have := sSet ws i q w x (by simpa using h) hq
    simp only [sOff, List.take_succ_cons, List.map_cons, List.sum_cons, List.flatten_cons, List.set_cons_succ] at this ⊢
    rw [this, List.set_append_right _ _ (by omega)]
    congr 2
    omega
theorem sDis {A : Nat → Prop} {ws : List va_W} (hD : va_D A ws.flatten) {i j a b : Nat} {w u : va_W} {p q : Nat × va_E} (hi : ws[i]? = some w) (hj : ws[j]? = some u) (ha : w[a]? = some p) (hb : u[b]? = some q) (h : p.1 = q.1) : i = j ∧ a = b := by
  have h1 := sAt ws i a w p hi ha
  have h2 := sAt ws j b u q hj hb
  have h3 := hD.1 _ _ p q h1 h2 h
  have la := (List.getElem?_eq_some_iff.mp ha).1
  have lb := (List.getElem?_eq_some_iff.mp hb).1
  have e1 := sOff_succ ws i w hi
  have e2 := sOff_succ ws j u hj
  have hij : i = j := by
    rcases Nat.lt_trichotomy i j with q | q | q
    · have := sOff_mono ws j (i + 1) q; omega
    · exact q
    · have := sOff_mono ws i (j + 1) q; omega
  subst hij
  exact ⟨rfl, by omega⟩
theorem sP {D : va_G} {ws : List va_W} {H : Heap} (h : va_P D vwCl ws.flatten H) {i : Nat} {w : va_W} (hi : ws[i]? = some w) : va_P D vwCl w H := fun k q hk => h _ q (sAt ws i k w q hi hk)
theorem sPof {D : va_G} {H : Heap} : ∀ {ws : List va_W}, (∀ (i : Nat) (w : va_W), ws[i]? = some w → va_P D vwCl w H) → va_P D vwCl ws.flatten H
  | [], _ => fun k q h => by simp at h
  | u :: ws, h => by
    rw [List.flatten_cons]
    exact va_P.app (h 0 u (by simp)) (sPof (ws := ws) (fun i w hi => h (i + 1) w (by simpa using hi)))
theorem sDof {A : Nat → Prop} : ∀ {ws : List va_W}, (∀ (i j a b : Nat) (w u : va_W) (p q : Nat × va_E), ws[i]? = some w → ws[j]? = some u → w[a]? = some p → u[b]? = some q → p.1 = q.1 → i = j ∧ a = b) → (∀ (i a : Nat) (w : va_W) (p : Nat × va_E), ws[i]? = some w → w[a]? = some p → A p.1) → va_D A ws.flatten
  | [], _, _ => ⟨fun i j p q h => by simp at h, fun k q h => by simp at h⟩
  | u :: ws, h, hA => by
    rw [List.flatten_cons]
    have hh := sDof (ws := ws) (fun i j a b w v p q hi hj ha hb e => by
      have := h (i + 1) (j + 1) a b w v p q (by simpa using hi) (by simpa using hj) ha hb e
      exact ⟨by omega, this.2⟩) (fun i a w p hi ha => hA (i + 1) a w p (by simpa using hi) ha)
    refine va_D.app ⟨fun i j p q hp hq e => (h 0 0 i j u u p q (by simp) (by simp) hp hq e).2, fun k q hk => hA 0 k u q (by simp) hk⟩ hh (fun i j p q hp hq e => ?_)
    obtain ⟨v, hv, hqv⟩ := List.mem_flatten.mp (List.mem_of_getElem? hq)
    obtain ⟨b, hb⟩ := List.getElem?_of_mem hv
    obtain ⟨c, hc⟩ := List.getElem?_of_mem hqv
    have := h 0 (b + 1) i c u v p q (by simp) (by simpa using hb) hp hc e
    omega
theorem sDad {A : Nat → Prop} {W W' : va_W} (h : va_D A W) (e : W'.map Prod.fst = W.map Prod.fst) : va_D A W' := by
  have key : ∀ (k : Nat) (q : Nat × va_E), W'[k]? = some q → ∃ q0, W[k]? = some q0 ∧ q0.1 = q.1 := by
    intro k q hk
    have h1 : (W'.map Prod.fst)[k]? = some q.1 := by rw [List.getElem?_map, hk]; rfl
    rw [e, List.getElem?_map] at h1
    cases hi : W[k]? with
    | none => rw [hi] at h1; cases h1
    | some q0 => rw [hi] at h1; exact ⟨q0, rfl, Option.some.inj h1⟩
  refine ⟨fun i j p q hp hq hpq => ?_, fun k q hk => ?_⟩
  · obtain ⟨p0, h1, h2⟩ := key i p hp
    obtain ⟨q0, h3, h4⟩ := key j q hq
    exact h.1 i j p0 q0 h1 h3 (h2.trans (hpq.trans h4.symm))
  · obtain ⟨q0, h1, h2⟩ := key k q hk
    rw [← h2]; exact h.2 k q0 h1
def sRep : List va_W → List Nat → List va_W → List va_W
  | ws, i :: is, q :: w => sRep (ws.set i q) is w
  | ws, _, _ => ws
theorem sRep_get : ∀ (is : List Nat) (ws w : List va_W) (k : Nat) (q : va_W), (sRep ws is w)[k]? = some q → (∃ j : Nat, is[j]? = some k ∧ w[j]? = some q) ∨ ((∀ j : Nat, is[j]? = some k → w[j]? = none) ∧ ws[k]? = some q)
  | [], ws, w, k, q, h => Or.inr ⟨fun j hj => by simp at hj, by simpa [sRep] using h⟩
  | i :: is, ws, [], k, q, h => Or.inr ⟨fun j hj => by simp, by simpa [sRep] using h⟩
  | i :: is, ws, a :: w, k, q, h => by
    rw [sRep] at h
    rcases sRep_get is (ws.set i a) w k q h with ⟨j, h1, h2⟩ | ⟨h1, h2⟩
    · exact Or.inl ⟨j + 1, by simpa using h1, by simpa using h2⟩
    · by_cases hk : i = k
      · subst hk
        by_cases hlt : i < ws.length
        · rw [List.getElem?_set_self hlt] at h2
          exact Or.inl ⟨0, by simp, by simpa using h2⟩
        · rw [List.getElem?_eq_none (by simp; omega)] at h2
          cases h2
      · rw [List.getElem?_set_ne hk] at h2
        refine Or.inr ⟨fun j hj => ?_, h2⟩
        cases j with
        | zero => simp at hj; exact absurd hj hk
        | succ j => simpa using h1 j (by simpa using hj)
theorem sRep_ad : ∀ (is : List Nat) (ws w : List va_W), (∀ (j i : Nat) (q : va_W), is[j]? = some i → w[j]? = some q → ∃ u, ws[i]? = some u ∧ q.map Prod.fst = u.map Prod.fst) → jAd (sRep ws is w) = jAd ws
  | [], ws, w, _ => by simp [sRep]
  | i :: is, ws, [], _ => by simp [sRep]
  | i :: is, ws, a :: w, h => by
    obtain ⟨u, hu, he⟩ := h 0 i a (by simp) (by simp)
    have hset : jAd (ws.set i a) = jAd ws := by
      unfold jAd
      rw [List.map_set, he]
      have : (ws.map (fun u => u.map Prod.fst))[i]? = some (u.map Prod.fst) := by rw [List.getElem?_map, hu]; rfl
      obtain ⟨hl, hg⟩ := List.getElem?_eq_some_iff.mp this
      rw [← hg]
      exact List.set_getElem_self hl
    rw [sRep, sRep_ad is (ws.set i a) w, hset]
    intro j i' q hj hq
    obtain ⟨u', hu', he'⟩ := h (j + 1) i' q (by simpa using hj) (by simpa using hq)
    by_cases hk : i = i'
    · subst hk
      have hlt : i < ws.length := (List.getElem?_eq_some_iff.mp hu).1
      refine ⟨a, by rw [List.getElem?_set_self hlt], ?_⟩
      rw [hu] at hu'
      cases hu'
      exact he'.trans he.symm
    · exact ⟨u', by rw [List.getElem?_set_ne hk]; exact hu', he'⟩
theorem jAd_flat {w1 w0 : List va_W} (h : jAd w1 = jAd w0) : w1.flatten.map Prod.fst = w0.flatten.map Prod.fst := by
  rw [List.map_flatten, List.map_flatten]
  exact congrArg List.flatten h
theorem sMap {ws cs : List va_W} {is : List Nat} (hC : is.map (fun i => ws[i]?) = cs.map some) {k : Nat} {w : va_W} (h : cs[k]? = some w) : ∃ i, is[k]? = some i ∧ ws[i]? = some w := by
  have h1 : (is.map (fun i => ws[i]?))[k]? = some (some w) := by rw [hC, List.getElem?_map, h]; rfl
  rw [List.getElem?_map] at h1
  cases hi : is[k]? with
  | none => rw [hi] at h1; cases h1
  | some i => rw [hi] at h1; exact ⟨i, rfl, Option.some.inj h1⟩
section JR
variable {E : jT} {g : jG} {own : String} {cc : ByteArray} {nL : Nat} {ret : Option FieldType} {rm : Room} {kc ks : Nat} {ws : List va_W} {lv : List (Nat × Value)} {pc : Nat} {st : List Value}
theorem j_sub {lv' : List (Nat × Value)} (is : List Nat) (hl : lv_pick lv is = lv') (k : J E g kc ks ws lv' pc st) : J E g kc ks ws lv pc st := by
  obtain ⟨p, l, e, R, s, m, args, below, meth, c, Q, A⟩ := E
  intro H locs ls hP hD hS hL
  exact k H locs ls hP hD hS (lv_sub hL is hl)
theorem j_ws {ws' : List va_W} (h : ws' = ws) (k : J E g kc ks ws' lv pc st) : J E g kc ks ws lv pc st := h ▸ k
theorem j_st {st' : List Value} (h : st' = st) (k : J E g kc ks ws lv pc st') : J E g kc ks ws lv pc st := h ▸ k

theorem j_iconst {n : Int} {v : Int32} (hE : jOk E g own cc nL ret rm) (hd : decode cc pc = .ok (.iconst n, 1)) (hv : Int32.ofInt n = v) (kk : J E g kc ks ws lv (pc + 1) (.int v :: st)) : J E g kc ks ws lv pc st := by
  obtain ⟨p, l, e, R, s, m, args, below, meth, c, Q, A⟩ := E
  obtain ⟨hx, hb, hml, hr, hown, hts, hK, hlk, hA, rfl, hN, hSt⟩ := hE
  intro H locs ls hP hD hS hL
  exact lv_iconst hx hb hd hv (kk H locs ls hP hD hS hL)

theorem j_bipush {n : Int} {v : Int32} (hE : jOk E g own cc nL ret rm) (hd : decode cc pc = .ok (.bipush n, 2)) (hv : (Int8.ofInt n).toInt32 = v) (kk : J E g kc ks ws lv (pc + 2) (.int v :: st)) : J E g kc ks ws lv pc st := by
  obtain ⟨p, l, e, R, s, m, args, below, meth, c, Q, A⟩ := E
  obtain ⟨hx, hb, hml, hr, hown, hts, hK, hlk, hA, rfl, hN, hSt⟩ := hE
  intro H locs ls hP hD hS hL
  exact lv_bipush hx hb hd hv (kk H locs ls hP hD hS hL)

theorem j_sipush {n : Int} {v : Int32} (hE : jOk E g own cc nL ret rm) (hd : decode cc pc = .ok (.sipush n, 3)) (hv : (Int16.ofInt n).toInt32 = v) (kk : J E g kc ks ws lv (pc + 3) (.int v :: st)) : J E g kc ks ws lv pc st := by
  obtain ⟨p, l, e, R, s, m, args, below, meth, c, Q, A⟩ := E
  obtain ⟨hx, hb, hml, hr, hown, hts, hK, hlk, hA, rfl, hN, hSt⟩ := hE
  intro H locs ls hP hD hS hL
  exact lv_sipush hx hb hd hv (kk H locs ls hP hD hS hL)

theorem j_lconst {n : Fin 2} {v : Int64} (hE : jOk E g own cc nL ret rm) (hd : decode cc pc = .ok (.lconst n, 1)) (hv : Int64.ofNat (n : Nat) = v) (kk : J E g kc ks ws lv (pc + 1) (.long v :: st)) : J E g kc ks ws lv pc st := by
  obtain ⟨p, l, e, R, s, m, args, below, meth, c, Q, A⟩ := E
  obtain ⟨hx, hb, hml, hr, hown, hts, hK, hlk, hA, rfl, hN, hSt⟩ := hE
  intro H locs ls hP hD hS hL
  exact lv_lconst hx hb hd hv (kk H locs ls hP hD hS hL)

theorem j_ldc {index : Nat} {v : Int32} (hE : jOk E g own cc nL ret rm) (hc : Cond.constant own index v ∈ tb) (hd : decode cc pc = .ok (.ldc index, 2)) (kk : J E g kc ks ws lv (pc + 2) (.int v :: st)) : J E g kc ks ws lv pc st := by
  obtain ⟨p, l, e, R, s, m, args, below, meth, c, Q, A⟩ := E
  obtain ⟨hx, hb, hml, hr, hown, hts, hK, hlk, hA, rfl, hN, hSt⟩ := hE
  intro H locs ls hP hD hS hL
  exact lv_ldc hx hb hown (hts _ hc) hd (kk H locs ls hP hD hS hL)

theorem j_ldcw {index : Nat} {v : Int32} (hE : jOk E g own cc nL ret rm) (hc : Cond.constant own index v ∈ tb) (hd : decode cc pc = .ok (.ldc_w index, 3)) (kk : J E g kc ks ws lv (pc + 3) (.int v :: st)) : J E g kc ks ws lv pc st := by
  obtain ⟨p, l, e, R, s, m, args, below, meth, c, Q, A⟩ := E
  obtain ⟨hx, hb, hml, hr, hown, hts, hK, hlk, hA, rfl, hN, hSt⟩ := hE
  intro H locs ls hP hD hS hL
  exact lv_ldcw hx hb hown (hts _ hc) hd (kk H locs ls hP hD hS hL)

theorem j_ldc2 {index : Nat} {v : Int64} (hE : jOk E g own cc nL ret rm) (hc : Cond.constantLong own index v ∈ tb) (hd : decode cc pc = .ok (.ldc2_w index, 3)) (kk : J E g kc ks ws lv (pc + 3) (.long v :: st)) : J E g kc ks ws lv pc st := by
  obtain ⟨p, l, e, R, s, m, args, below, meth, c, Q, A⟩ := E
  obtain ⟨hx, hb, hml, hr, hown, hts, hK, hlk, hA, rfl, hN, hSt⟩ := hE
  intro H locs ls hP hD hS hL
  exact lv_ldc2 hx hb hown (hts _ hc) hd (kk H locs ls hP hD hS hL)

theorem j_iload_n {k : Fin 4} {i : Nat} {x : Int32} (hE : jOk E g own cc nL ret rm) (hd : decode cc pc = .ok (.iload_n k, 1)) (hi : (k : Nat) = i) (j : Nat) (hl : lv[j]? = some (i, .int x)) (kk : J E g kc ks ws lv (pc + 1) (.int x :: st)) : J E g kc ks ws lv pc st := by
  obtain ⟨p, l, e, R, s, m, args, below, meth, c, Q, A⟩ := E
  obtain ⟨hx, hb, hml, hr, hown, hts, hK, hlk, hA, rfl, hN, hSt⟩ := hE
  intro H locs ls hP hD hS hL
  exact lv_iload_n hx hb hd hi (lv_at hL j hl) (kk H locs ls hP hD hS hL)

theorem j_iload {i : Nat} {x : Int32} (hE : jOk E g own cc nL ret rm) (hd : decode cc pc = .ok (.iload i, 2)) (j : Nat) (hl : lv[j]? = some (i, .int x)) (kk : J E g kc ks ws lv (pc + 2) (.int x :: st)) : J E g kc ks ws lv pc st := by
  obtain ⟨p, l, e, R, s, m, args, below, meth, c, Q, A⟩ := E
  obtain ⟨hx, hb, hml, hr, hown, hts, hK, hlk, hA, rfl, hN, hSt⟩ := hE
  intro H locs ls hP hD hS hL
  exact lv_iload hx hb hd (lv_at hL j hl) (kk H locs ls hP hD hS hL)

theorem j_istore_n {k : Fin 4} {i : Nat} {x : Int32} {lv' : List (Nat × Value)} (hE : jOk E g own cc nL ret rm) (hd : decode cc pc = .ok (.istore_n k, 1)) (hi : (k : Nat) = i) (hn : i < nL) (hl : (i, Value.int x) :: lv.filter (fun q => !(q.1 == i) && !(q.1 + 1 == i && q.2.category == 2)) = lv') (kk : J E g kc ks ws lv' (pc + 1) st) : J E g kc ks ws lv pc (.int x :: st) := by
  obtain ⟨p, l, e, R, s, m, args, below, meth, c, Q, A⟩ := E
  obtain ⟨hx, hb, hml, hr, hown, hts, hK, hlk, hA, rfl, hN, hSt⟩ := hE
  intro H locs ls hP hD hS hL
  exact lv_istore_n hx hb hd hi hL (by rw [hml]; exact hn) hl (fun ls hL => kk H locs ls hP hD hS hL)

theorem j_istore {i : Nat} {x : Int32} {lv' : List (Nat × Value)} (hE : jOk E g own cc nL ret rm) (hd : decode cc pc = .ok (.istore i, 2)) (hn : i < nL) (hl : (i, Value.int x) :: lv.filter (fun q => !(q.1 == i) && !(q.1 + 1 == i && q.2.category == 2)) = lv') (kk : J E g kc ks ws lv' (pc + 2) st) : J E g kc ks ws lv pc (.int x :: st) := by
  obtain ⟨p, l, e, R, s, m, args, below, meth, c, Q, A⟩ := E
  obtain ⟨hx, hb, hml, hr, hown, hts, hK, hlk, hA, rfl, hN, hSt⟩ := hE
  intro H locs ls hP hD hS hL
  exact lv_istore hx hb hd hL (by rw [hml]; exact hn) hl (fun ls hL => kk H locs ls hP hD hS hL)

theorem j_lload_n {k : Fin 4} {i : Nat} {x : Int64} (hE : jOk E g own cc nL ret rm) (hd : decode cc pc = .ok (.lload_n k, 1)) (hi : (k : Nat) = i) (j : Nat) (hl : lv[j]? = some (i, .long x)) (kk : J E g kc ks ws lv (pc + 1) (.long x :: st)) : J E g kc ks ws lv pc st := by
  obtain ⟨p, l, e, R, s, m, args, below, meth, c, Q, A⟩ := E
  obtain ⟨hx, hb, hml, hr, hown, hts, hK, hlk, hA, rfl, hN, hSt⟩ := hE
  intro H locs ls hP hD hS hL
  exact lv_lload_n hx hb hd hi (lv_at hL j hl) (kk H locs ls hP hD hS hL)

theorem j_lload {i : Nat} {x : Int64} (hE : jOk E g own cc nL ret rm) (hd : decode cc pc = .ok (.lload i, 2)) (j : Nat) (hl : lv[j]? = some (i, .long x)) (kk : J E g kc ks ws lv (pc + 2) (.long x :: st)) : J E g kc ks ws lv pc st := by
  obtain ⟨p, l, e, R, s, m, args, below, meth, c, Q, A⟩ := E
  obtain ⟨hx, hb, hml, hr, hown, hts, hK, hlk, hA, rfl, hN, hSt⟩ := hE
  intro H locs ls hP hD hS hL
  exact lv_lload hx hb hd (lv_at hL j hl) (kk H locs ls hP hD hS hL)

theorem j_lstore_n {k : Fin 4} {i : Nat} {x : Int64} {lv' : List (Nat × Value)} (hE : jOk E g own cc nL ret rm) (hd : decode cc pc = .ok (.lstore_n k, 1)) (hi : (k : Nat) = i) (hn : i + 1 < nL) (hl : (i, Value.long x) :: lv.filter (fun q => !(q.1 == i) && (!(q.1 == i + 1) && !(q.1 + 1 == i && q.2.category == 2))) = lv') (kk : J E g kc ks ws lv' (pc + 1) st) : J E g kc ks ws lv pc (.long x :: st) := by
  obtain ⟨p, l, e, R, s, m, args, below, meth, c, Q, A⟩ := E
  obtain ⟨hx, hb, hml, hr, hown, hts, hK, hlk, hA, rfl, hN, hSt⟩ := hE
  intro H locs ls hP hD hS hL
  exact lv_lstore_n hx hb hd hi hL (by rw [hml]; exact hn) hl (fun ls hL => kk H locs ls hP hD hS hL)

theorem j_lstore {i : Nat} {x : Int64} {lv' : List (Nat × Value)} (hE : jOk E g own cc nL ret rm) (hd : decode cc pc = .ok (.lstore i, 2)) (hn : i + 1 < nL) (hl : (i, Value.long x) :: lv.filter (fun q => !(q.1 == i) && (!(q.1 == i + 1) && !(q.1 + 1 == i && q.2.category == 2))) = lv') (kk : J E g kc ks ws lv' (pc + 2) st) : J E g kc ks ws lv pc (.long x :: st) := by
  obtain ⟨p, l, e, R, s, m, args, below, meth, c, Q, A⟩ := E
  obtain ⟨hx, hb, hml, hr, hown, hts, hK, hlk, hA, rfl, hN, hSt⟩ := hE
  intro H locs ls hP hD hS hL
  exact lv_lstore hx hb hd hL (by rw [hml]; exact hn) hl (fun ls hL => kk H locs ls hP hD hS hL)

theorem j_aload_n {k : Fin 4} {i : Nat} {x : Nat} (hE : jOk E g own cc nL ret rm) (hd : decode cc pc = .ok (.aload_n k, 1)) (hi : (k : Nat) = i) (j : Nat) (hl : lv[j]? = some (i, .ref x)) (kk : J E g kc ks ws lv (pc + 1) (.ref x :: st)) : J E g kc ks ws lv pc st := by
  obtain ⟨p, l, e, R, s, m, args, below, meth, c, Q, A⟩ := E
  obtain ⟨hx, hb, hml, hr, hown, hts, hK, hlk, hA, rfl, hN, hSt⟩ := hE
  intro H locs ls hP hD hS hL
  exact lv_aload_n hx hb hd hi (lv_at hL j hl) (kk H locs ls hP hD hS hL)

theorem j_aload {i : Nat} {x : Nat} (hE : jOk E g own cc nL ret rm) (hd : decode cc pc = .ok (.aload i, 2)) (j : Nat) (hl : lv[j]? = some (i, .ref x)) (kk : J E g kc ks ws lv (pc + 2) (.ref x :: st)) : J E g kc ks ws lv pc st := by
  obtain ⟨p, l, e, R, s, m, args, below, meth, c, Q, A⟩ := E
  obtain ⟨hx, hb, hml, hr, hown, hts, hK, hlk, hA, rfl, hN, hSt⟩ := hE
  intro H locs ls hP hD hS hL
  exact lv_aload hx hb hd (lv_at hL j hl) (kk H locs ls hP hD hS hL)

theorem j_astore_n {k : Fin 4} {i : Nat} {x : Nat} {lv' : List (Nat × Value)} (hE : jOk E g own cc nL ret rm) (hd : decode cc pc = .ok (.astore_n k, 1)) (hi : (k : Nat) = i) (hn : i < nL) (hl : (i, Value.ref x) :: lv.filter (fun q => !(q.1 == i) && !(q.1 + 1 == i && q.2.category == 2)) = lv') (kk : J E g kc ks ws lv' (pc + 1) st) : J E g kc ks ws lv pc (.ref x :: st) := by
  obtain ⟨p, l, e, R, s, m, args, below, meth, c, Q, A⟩ := E
  obtain ⟨hx, hb, hml, hr, hown, hts, hK, hlk, hA, rfl, hN, hSt⟩ := hE
  intro H locs ls hP hD hS hL
  exact lv_astore_n hx hb hd hi hL (by rw [hml]; exact hn) hl (fun ls hL => kk H locs ls hP hD hS hL)

theorem j_astore {i : Nat} {x : Nat} {lv' : List (Nat × Value)} (hE : jOk E g own cc nL ret rm) (hd : decode cc pc = .ok (.astore i, 2)) (hn : i < nL) (hl : (i, Value.ref x) :: lv.filter (fun q => !(q.1 == i) && !(q.1 + 1 == i && q.2.category == 2)) = lv') (kk : J E g kc ks ws lv' (pc + 2) st) : J E g kc ks ws lv pc (.ref x :: st) := by
  obtain ⟨p, l, e, R, s, m, args, below, meth, c, Q, A⟩ := E
  obtain ⟨hx, hb, hml, hr, hown, hts, hK, hlk, hA, rfl, hN, hSt⟩ := hE
  intro H locs ls hP hD hS hL
  exact lv_astore hx hb hd hL (by rw [hml]; exact hn) hl (fun ls hL => kk H locs ls hP hD hS hL)

theorem j_iinc {i : Nat} {n : Int} {x v : Int32} {lv' : List (Nat × Value)} (hE : jOk E g own cc nL ret rm) (hd : decode cc pc = .ok (.iinc i n, 3)) (j : Nat) (hk : lv[j]? = some (i, .int x)) (hv : x + Int32.ofInt n = v) (hn : i < nL) (hl : (i, Value.int v) :: lv.filter (fun q => !(q.1 == i) && !(q.1 + 1 == i && q.2.category == 2)) = lv') (kk : J E g kc ks ws lv' (pc + 3) st) : J E g kc ks ws lv pc st := by
  obtain ⟨p, l, e, R, s, m, args, below, meth, c, Q, A⟩ := E
  obtain ⟨hx, hb, hml, hr, hown, hts, hK, hlk, hA, rfl, hN, hSt⟩ := hE
  intro H locs ls hP hD hS hL
  exact lv_iinc hx hb hd hL hk hv (by rw [hml]; exact hn) hl (fun ls hL => kk H locs ls hP hD hS hL)

theorem j_iadd {x y : Int32} (hE : jOk E g own cc nL ret rm) (hd : decode cc pc = .ok (.iadd, 1)) (kk : J E g kc ks ws lv (pc + 1) (.int (x + y) :: st)) : J E g kc ks ws lv pc (.int y :: .int x :: st) := by
  obtain ⟨p, l, e, R, s, m, args, below, meth, c, Q, A⟩ := E
  obtain ⟨hx, hb, hml, hr, hown, hts, hK, hlk, hA, rfl, hN, hSt⟩ := hE
  intro H locs ls hP hD hS hL
  exact lv_iadd hx hb hd (kk H locs ls hP hD hS hL)

theorem j_isub {x y : Int32} (hE : jOk E g own cc nL ret rm) (hd : decode cc pc = .ok (.isub, 1)) (kk : J E g kc ks ws lv (pc + 1) (.int (x - y) :: st)) : J E g kc ks ws lv pc (.int y :: .int x :: st) := by
  obtain ⟨p, l, e, R, s, m, args, below, meth, c, Q, A⟩ := E
  obtain ⟨hx, hb, hml, hr, hown, hts, hK, hlk, hA, rfl, hN, hSt⟩ := hE
  intro H locs ls hP hD hS hL
  exact lv_isub hx hb hd (kk H locs ls hP hD hS hL)

theorem j_imul {x y : Int32} (hE : jOk E g own cc nL ret rm) (hd : decode cc pc = .ok (.imul, 1)) (kk : J E g kc ks ws lv (pc + 1) (.int (x * y) :: st)) : J E g kc ks ws lv pc (.int y :: .int x :: st) := by
  obtain ⟨p, l, e, R, s, m, args, below, meth, c, Q, A⟩ := E
  obtain ⟨hx, hb, hml, hr, hown, hts, hK, hlk, hA, rfl, hN, hSt⟩ := hE
  intro H locs ls hP hD hS hL
  exact lv_imul hx hb hd (kk H locs ls hP hD hS hL)

theorem j_iand {x y : Int32} (hE : jOk E g own cc nL ret rm) (hd : decode cc pc = .ok (.iand, 1)) (kk : J E g kc ks ws lv (pc + 1) (.int (x &&& y) :: st)) : J E g kc ks ws lv pc (.int y :: .int x :: st) := by
  obtain ⟨p, l, e, R, s, m, args, below, meth, c, Q, A⟩ := E
  obtain ⟨hx, hb, hml, hr, hown, hts, hK, hlk, hA, rfl, hN, hSt⟩ := hE
  intro H locs ls hP hD hS hL
  exact lv_iand hx hb hd (kk H locs ls hP hD hS hL)

theorem j_ior {x y : Int32} (hE : jOk E g own cc nL ret rm) (hd : decode cc pc = .ok (.ior, 1)) (kk : J E g kc ks ws lv (pc + 1) (.int (x ||| y) :: st)) : J E g kc ks ws lv pc (.int y :: .int x :: st) := by
  obtain ⟨p, l, e, R, s, m, args, below, meth, c, Q, A⟩ := E
  obtain ⟨hx, hb, hml, hr, hown, hts, hK, hlk, hA, rfl, hN, hSt⟩ := hE
  intro H locs ls hP hD hS hL
  exact lv_ior hx hb hd (kk H locs ls hP hD hS hL)

theorem j_ixor {x y : Int32} (hE : jOk E g own cc nL ret rm) (hd : decode cc pc = .ok (.ixor, 1)) (kk : J E g kc ks ws lv (pc + 1) (.int (x ^^^ y) :: st)) : J E g kc ks ws lv pc (.int y :: .int x :: st) := by
  obtain ⟨p, l, e, R, s, m, args, below, meth, c, Q, A⟩ := E
  obtain ⟨hx, hb, hml, hr, hown, hts, hK, hlk, hA, rfl, hN, hSt⟩ := hE
  intro H locs ls hP hD hS hL
  exact lv_ixor hx hb hd (kk H locs ls hP hD hS hL)

theorem j_ladd {x y : Int64} (hE : jOk E g own cc nL ret rm) (hd : decode cc pc = .ok (.ladd, 1)) (kk : J E g kc ks ws lv (pc + 1) (.long (x + y) :: st)) : J E g kc ks ws lv pc (.long y :: .long x :: st) := by
  obtain ⟨p, l, e, R, s, m, args, below, meth, c, Q, A⟩ := E
  obtain ⟨hx, hb, hml, hr, hown, hts, hK, hlk, hA, rfl, hN, hSt⟩ := hE
  intro H locs ls hP hD hS hL
  exact lv_ladd hx hb hd (kk H locs ls hP hD hS hL)

theorem j_lsub {x y : Int64} (hE : jOk E g own cc nL ret rm) (hd : decode cc pc = .ok (.lsub, 1)) (kk : J E g kc ks ws lv (pc + 1) (.long (x - y) :: st)) : J E g kc ks ws lv pc (.long y :: .long x :: st) := by
  obtain ⟨p, l, e, R, s, m, args, below, meth, c, Q, A⟩ := E
  obtain ⟨hx, hb, hml, hr, hown, hts, hK, hlk, hA, rfl, hN, hSt⟩ := hE
  intro H locs ls hP hD hS hL
  exact lv_lsub hx hb hd (kk H locs ls hP hD hS hL)

theorem j_lmul {x y : Int64} (hE : jOk E g own cc nL ret rm) (hd : decode cc pc = .ok (.lmul, 1)) (kk : J E g kc ks ws lv (pc + 1) (.long (x * y) :: st)) : J E g kc ks ws lv pc (.long y :: .long x :: st) := by
  obtain ⟨p, l, e, R, s, m, args, below, meth, c, Q, A⟩ := E
  obtain ⟨hx, hb, hml, hr, hown, hts, hK, hlk, hA, rfl, hN, hSt⟩ := hE
  intro H locs ls hP hD hS hL
  exact lv_lmul hx hb hd (kk H locs ls hP hD hS hL)

theorem j_ishl {x y : Int32} (hE : jOk E g own cc nL ret rm) (hd : decode cc pc = .ok (.ishl, 1)) (kk : J E g kc ks ws lv (pc + 1) (.int (x <<< (y &&& 31)) :: st)) : J E g kc ks ws lv pc (.int y :: .int x :: st) := by
  obtain ⟨p, l, e, R, s, m, args, below, meth, c, Q, A⟩ := E
  obtain ⟨hx, hb, hml, hr, hown, hts, hK, hlk, hA, rfl, hN, hSt⟩ := hE
  intro H locs ls hP hD hS hL
  exact lv_ishl hx hb hd (kk H locs ls hP hD hS hL)

theorem j_ishr {x y : Int32} (hE : jOk E g own cc nL ret rm) (hd : decode cc pc = .ok (.ishr, 1)) (kk : J E g kc ks ws lv (pc + 1) (.int (x >>> (y &&& 31)) :: st)) : J E g kc ks ws lv pc (.int y :: .int x :: st) := by
  obtain ⟨p, l, e, R, s, m, args, below, meth, c, Q, A⟩ := E
  obtain ⟨hx, hb, hml, hr, hown, hts, hK, hlk, hA, rfl, hN, hSt⟩ := hE
  intro H locs ls hP hD hS hL
  exact lv_ishr hx hb hd (kk H locs ls hP hD hS hL)

theorem j_iushr {x y : Int32} (hE : jOk E g own cc nL ret rm) (hd : decode cc pc = .ok (.iushr, 1)) (kk : J E g kc ks ws lv (pc + 1) (.int (x.toUInt32 >>> (y.toUInt32 &&& Int32.toUInt32 31)).toInt32 :: st)) : J E g kc ks ws lv pc (.int y :: .int x :: st) := by
  obtain ⟨p, l, e, R, s, m, args, below, meth, c, Q, A⟩ := E
  obtain ⟨hx, hb, hml, hr, hown, hts, hK, hlk, hA, rfl, hN, hSt⟩ := hE
  intro H locs ls hP hD hS hL
  exact lv_iushr hx hb hd rfl (kk H locs ls hP hD hS hL)

theorem j_ineg {x : Int32} (hE : jOk E g own cc nL ret rm) (hd : decode cc pc = .ok (.ineg, 1)) (kk : J E g kc ks ws lv (pc + 1) (.int (-x) :: st)) : J E g kc ks ws lv pc (.int x :: st) := by
  obtain ⟨p, l, e, R, s, m, args, below, meth, c, Q, A⟩ := E
  obtain ⟨hx, hb, hml, hr, hown, hts, hK, hlk, hA, rfl, hN, hSt⟩ := hE
  intro H locs ls hP hD hS hL
  exact lv_ineg hx hb hd (kk H locs ls hP hD hS hL)

theorem j_lneg {x : Int64} (hE : jOk E g own cc nL ret rm) (hd : decode cc pc = .ok (.lneg, 1)) (kk : J E g kc ks ws lv (pc + 1) (.long (-x) :: st)) : J E g kc ks ws lv pc (.long x :: st) := by
  obtain ⟨p, l, e, R, s, m, args, below, meth, c, Q, A⟩ := E
  obtain ⟨hx, hb, hml, hr, hown, hts, hK, hlk, hA, rfl, hN, hSt⟩ := hE
  intro H locs ls hP hD hS hL
  exact lv_lneg hx hb hd (kk H locs ls hP hD hS hL)

theorem j_i2l {x : Int32} (hE : jOk E g own cc nL ret rm) (hd : decode cc pc = .ok (.i2l, 1)) (kk : J E g kc ks ws lv (pc + 1) (.long x.toInt64 :: st)) : J E g kc ks ws lv pc (.int x :: st) := by
  obtain ⟨p, l, e, R, s, m, args, below, meth, c, Q, A⟩ := E
  obtain ⟨hx, hb, hml, hr, hown, hts, hK, hlk, hA, rfl, hN, hSt⟩ := hE
  intro H locs ls hP hD hS hL
  exact lv_i2l hx hb hd rfl (kk H locs ls hP hD hS hL)

theorem j_l2i {x : Int64} (hE : jOk E g own cc nL ret rm) (hd : decode cc pc = .ok (.l2i, 1)) (kk : J E g kc ks ws lv (pc + 1) (.int x.toInt32 :: st)) : J E g kc ks ws lv pc (.long x :: st) := by
  obtain ⟨p, l, e, R, s, m, args, below, meth, c, Q, A⟩ := E
  obtain ⟨hx, hb, hml, hr, hown, hts, hK, hlk, hA, rfl, hN, hSt⟩ := hE
  intro H locs ls hP hD hS hL
  exact lv_l2i hx hb hd rfl (kk H locs ls hP hD hS hL)

theorem j_i2b {x : Int32} (hE : jOk E g own cc nL ret rm) (hd : decode cc pc = .ok (.i2b, 1)) (kk : J E g kc ks ws lv (pc + 1) (.int x.toInt8.toInt32 :: st)) : J E g kc ks ws lv pc (.int x :: st) := by
  obtain ⟨p, l, e, R, s, m, args, below, meth, c, Q, A⟩ := E
  obtain ⟨hx, hb, hml, hr, hown, hts, hK, hlk, hA, rfl, hN, hSt⟩ := hE
  intro H locs ls hP hD hS hL
  exact lv_i2b hx hb hd rfl (kk H locs ls hP hD hS hL)

theorem j_lcmp {x y : Int64} (hE : jOk E g own cc nL ret rm) (hd : decode cc pc = .ok (.lcmp, 1)) (kk : J E g kc ks ws lv (pc + 1) (.int (lg_cmp x y) :: st)) : J E g kc ks ws lv pc (.long y :: .long x :: st) := by
  obtain ⟨p, l, e, R, s, m, args, below, meth, c, Q, A⟩ := E
  obtain ⟨hx, hb, hml, hr, hown, hts, hK, hlk, hA, rfl, hN, hSt⟩ := hE
  intro H locs ls hP hD hS hL
  exact W.lcmp hx hb hd (kk H locs ls hP hD hS hL)

theorem j_idiv {x y : Int32} {α : Type} {k : Unit → Option α} {r : α} (hE : jOk E g own cc nL ret rm) (hf : (nz y).bind k = some r) (hd : decode cc pc = .ok (.idiv, 1)) (kk : k () = some r → J E g kc ks ws lv (pc + 1) (.int (x / y) :: st)) : J E g kc ks ws lv pc (.int y :: .int x :: st) := by
  obtain ⟨p, l, e, R, s, m, args, below, meth, c, Q, A⟩ := E
  obtain ⟨hx, hb, hml, hr, hown, hts, hK, hlk, hA, rfl, hN, hSt⟩ := hE
  intro H locs ls hP hD hS hL
  obtain ⟨h1, hf⟩ := nz_of hf
  exact lv_idiv hx hb hd h1 (kk hf H locs ls hP hD hS hL)

theorem j_idiv_c {x y : Int32} (hE : jOk E g own cc nL ret rm) (h1 : ¬ y = 0) (hd : decode cc pc = .ok (.idiv, 1)) (kk : J E g kc ks ws lv (pc + 1) (.int (x / y) :: st)) : J E g kc ks ws lv pc (.int y :: .int x :: st) := by
  obtain ⟨p, l, e, R, s, m, args, below, meth, c, Q, A⟩ := E
  obtain ⟨hx, hb, hml, hr, hown, hts, hK, hlk, hA, rfl, hN, hSt⟩ := hE
  intro H locs ls hP hD hS hL
  exact lv_idiv hx hb hd h1 (kk H locs ls hP hD hS hL)

theorem j_irem {x y : Int32} {α : Type} {k : Unit → Option α} {r : α} (hE : jOk E g own cc nL ret rm) (hf : (nz y).bind k = some r) (hd : decode cc pc = .ok (.irem, 1)) (kk : k () = some r → J E g kc ks ws lv (pc + 1) (.int (x - x / y * y) :: st)) : J E g kc ks ws lv pc (.int y :: .int x :: st) := by
  obtain ⟨p, l, e, R, s, m, args, below, meth, c, Q, A⟩ := E
  obtain ⟨hx, hb, hml, hr, hown, hts, hK, hlk, hA, rfl, hN, hSt⟩ := hE
  intro H locs ls hP hD hS hL
  obtain ⟨h1, hf⟩ := nz_of hf
  exact lv_irem hx hb hd h1 (kk hf H locs ls hP hD hS hL)

theorem j_irem_c {x y : Int32} (hE : jOk E g own cc nL ret rm) (h1 : ¬ y = 0) (hd : decode cc pc = .ok (.irem, 1)) (kk : J E g kc ks ws lv (pc + 1) (.int (x - x / y * y) :: st)) : J E g kc ks ws lv pc (.int y :: .int x :: st) := by
  obtain ⟨p, l, e, R, s, m, args, below, meth, c, Q, A⟩ := E
  obtain ⟨hx, hb, hml, hr, hown, hts, hK, hlk, hA, rfl, hN, hSt⟩ := hE
  intro H locs ls hP hD hS hL
  exact lv_irem hx hb hd h1 (kk H locs ls hP hD hS hL)

theorem j_ldiv {x y : Int64} {α : Type} {k : Unit → Option α} {r : α} (hE : jOk E g own cc nL ret rm) (hf : (nzl y).bind k = some r) (hd : decode cc pc = .ok (.ldiv, 1)) (kk : k () = some r → J E g kc ks ws lv (pc + 1) (.long (x / y) :: st)) : J E g kc ks ws lv pc (.long y :: .long x :: st) := by
  obtain ⟨p, l, e, R, s, m, args, below, meth, c, Q, A⟩ := E
  obtain ⟨hx, hb, hml, hr, hown, hts, hK, hlk, hA, rfl, hN, hSt⟩ := hE
  intro H locs ls hP hD hS hL
  obtain ⟨h1, hf⟩ := nzl_of hf
  exact lv_ldiv hx hb hd h1 (kk hf H locs ls hP hD hS hL)

theorem j_ldiv_c {x y : Int64} (hE : jOk E g own cc nL ret rm) (h1 : ¬ y = 0) (hd : decode cc pc = .ok (.ldiv, 1)) (kk : J E g kc ks ws lv (pc + 1) (.long (x / y) :: st)) : J E g kc ks ws lv pc (.long y :: .long x :: st) := by
  obtain ⟨p, l, e, R, s, m, args, below, meth, c, Q, A⟩ := E
  obtain ⟨hx, hb, hml, hr, hown, hts, hK, hlk, hA, rfl, hN, hSt⟩ := hE
  intro H locs ls hP hD hS hL
  exact lv_ldiv hx hb hd h1 (kk H locs ls hP hD hS hL)

theorem j_lrem {x y : Int64} {α : Type} {k : Unit → Option α} {r : α} (hE : jOk E g own cc nL ret rm) (hf : (nzl y).bind k = some r) (hd : decode cc pc = .ok (.lrem, 1)) (kk : k () = some r → J E g kc ks ws lv (pc + 1) (.long (x - x / y * y) :: st)) : J E g kc ks ws lv pc (.long y :: .long x :: st) := by
  obtain ⟨p, l, e, R, s, m, args, below, meth, c, Q, A⟩ := E
  obtain ⟨hx, hb, hml, hr, hown, hts, hK, hlk, hA, rfl, hN, hSt⟩ := hE
  intro H locs ls hP hD hS hL
  obtain ⟨h1, hf⟩ := nzl_of hf
  exact lv_lrem hx hb hd h1 (kk hf H locs ls hP hD hS hL)

theorem j_lrem_c {x y : Int64} (hE : jOk E g own cc nL ret rm) (h1 : ¬ y = 0) (hd : decode cc pc = .ok (.lrem, 1)) (kk : J E g kc ks ws lv (pc + 1) (.long (x - x / y * y) :: st)) : J E g kc ks ws lv pc (.long y :: .long x :: st) := by
  obtain ⟨p, l, e, R, s, m, args, below, meth, c, Q, A⟩ := E
  obtain ⟨hx, hb, hml, hr, hown, hts, hK, hlk, hA, rfl, hN, hSt⟩ := hE
  intro H locs ls hP hD hS hL
  exact lv_lrem hx hb hd h1 (kk H locs ls hP hD hS hL)

theorem j_dup {v : Value} (hE : jOk E g own cc nL ret rm) (hd : decode cc pc = .ok (.dup, 1)) (hv : v.category = 1) (kk : J E g kc ks ws lv (pc + 1) (v :: v :: st)) : J E g kc ks ws lv pc (v :: st) := by
  obtain ⟨p, l, e, R, s, m, args, below, meth, c, Q, A⟩ := E
  obtain ⟨hx, hb, hml, hr, hown, hts, hK, hlk, hA, rfl, hN, hSt⟩ := hE
  intro H locs ls hP hD hS hL
  exact lv_dup hx hb hd hv (kk H locs ls hP hD hS hL)

theorem j_pop {v : Value} (hE : jOk E g own cc nL ret rm) (hd : decode cc pc = .ok (.pop, 1)) (hv : v.category = 1) (kk : J E g kc ks ws lv (pc + 1) st) : J E g kc ks ws lv pc (v :: st) := by
  obtain ⟨p, l, e, R, s, m, args, below, meth, c, Q, A⟩ := E
  obtain ⟨hx, hb, hml, hr, hown, hts, hK, hlk, hA, rfl, hN, hSt⟩ := hE
  intro H locs ls hP hD hS hL
  exact lv_pop hx hb hd hv (kk H locs ls hP hD hS hL)

theorem j_dup2_11 {v u : Value} (hE : jOk E g own cc nL ret rm) (hd : decode cc pc = .ok (.dup2, 1)) (hv : v.category = 1) (hu : u.category = 1) (kk : J E g kc ks ws lv (pc + 1) (v :: u :: v :: u :: st)) : J E g kc ks ws lv pc (v :: u :: st) := by
  obtain ⟨p, l, e, R, s, m, args, below, meth, c, Q, A⟩ := E
  obtain ⟨hx, hb, hml, hr, hown, hts, hK, hlk, hA, rfl, hN, hSt⟩ := hE
  intro H locs ls hP hD hS hL
  exact lv_dup2_11 hx hb hd hv hu (kk H locs ls hP hD hS hL)

theorem j_dup2_2 {v : Value} (hE : jOk E g own cc nL ret rm) (hd : decode cc pc = .ok (.dup2, 1)) (hv : v.category = 2) (kk : J E g kc ks ws lv (pc + 1) (v :: v :: st)) : J E g kc ks ws lv pc (v :: st) := by
  obtain ⟨p, l, e, R, s, m, args, below, meth, c, Q, A⟩ := E
  obtain ⟨hx, hb, hml, hr, hown, hts, hK, hlk, hA, rfl, hN, hSt⟩ := hE
  intro H locs ls hP hD hS hL
  exact lv_dup2_2 hx hb hd hv (kk H locs ls hP hD hS hL)

theorem j_goto {off : Int} {tgt : Nat} (hE : jOk E g own cc nL ret rm) (hd : decode cc pc = .ok (.goto off, 3)) (ht : (pc : Int) + off = (tgt : Int)) (kk : J E g kc ks ws lv tgt st) : J E g kc ks ws lv pc st := by
  obtain ⟨p, l, e, R, s, m, args, below, meth, c, Q, A⟩ := E
  obtain ⟨hx, hb, hml, hr, hown, hts, hK, hlk, hA, rfl, hN, hSt⟩ := hE
  intro H locs ls hP hD hS hL
  exact lv_goto hx hb hd ht (kk H locs ls hP hD hS hL)

theorem j_if_eq {x : Int32} {off : Int} {tgt : Nat} {α : Type} {a b : Option α} {r : α} (hE : jOk E g own cc nL ret rm) (hf : (if x = 0 then a else b) = some r) (hd : decode cc pc = .ok (.ifCond .eq off, 3)) (ht : (pc : Int) + off = (tgt : Int)) (kt : x = 0 → a = some r → J E g kc ks ws lv tgt st) (kf : ¬ x = 0 → b = some r → J E g kc ks ws lv (pc + 3) st) : J E g kc ks ws lv pc (.int x :: st) := by
  obtain ⟨p, l, e, R, s, m, args, below, meth, c, Q, A⟩ := E
  obtain ⟨hx, hb, hml, hr, hown, hts, hK, hlk, hA, rfl, hN, hSt⟩ := hE
  intro H locs ls hP hD hS hL
  exact lv_if_eq hx hb hd ht (fun h => kt h (by rw [if_pos h] at hf; exact hf) H locs ls hP hD hS hL) (fun h => kf h (by rw [if_neg h] at hf; exact hf) H locs ls hP hD hS hL)

theorem j_if_eq_t {x : Int32} {off : Int} {tgt : Nat} (hE : jOk E g own cc nL ret rm) (hc : x = 0) (hd : decode cc pc = .ok (.ifCond .eq off, 3)) (ht : (pc : Int) + off = (tgt : Int)) (kt : J E g kc ks ws lv tgt st) : J E g kc ks ws lv pc (.int x :: st) := by
  obtain ⟨p, l, e, R, s, m, args, below, meth, c, Q, A⟩ := E
  obtain ⟨hx, hb, hml, hr, hown, hts, hK, hlk, hA, rfl, hN, hSt⟩ := hE
  intro H locs ls hP hD hS hL
  exact lv_if_eq hx hb hd ht (fun h => kt H locs ls hP hD hS hL) (fun h => absurd hc h)

theorem j_if_eq_f {x : Int32} {off : Int} {tgt : Nat} (hE : jOk E g own cc nL ret rm) (hc : ¬ x = 0) (hd : decode cc pc = .ok (.ifCond .eq off, 3)) (ht : (pc : Int) + off = (tgt : Int)) (kf : J E g kc ks ws lv (pc + 3) st) : J E g kc ks ws lv pc (.int x :: st) := by
  obtain ⟨p, l, e, R, s, m, args, below, meth, c, Q, A⟩ := E
  obtain ⟨hx, hb, hml, hr, hown, hts, hK, hlk, hA, rfl, hN, hSt⟩ := hE
  intro H locs ls hP hD hS hL
  exact lv_if_eq hx hb hd ht (fun h => absurd h hc) (fun h => kf H locs ls hP hD hS hL)

theorem j_icmp_eq {x y : Int32} {off : Int} {tgt : Nat} {α : Type} {a b : Option α} {r : α} (hE : jOk E g own cc nL ret rm) (hf : (if x = y then a else b) = some r) (hd : decode cc pc = .ok (.if_icmp .eq off, 3)) (ht : (pc : Int) + off = (tgt : Int)) (kt : x = y → a = some r → J E g kc ks ws lv tgt st) (kf : ¬ x = y → b = some r → J E g kc ks ws lv (pc + 3) st) : J E g kc ks ws lv pc (.int y :: .int x :: st) := by
  obtain ⟨p, l, e, R, s, m, args, below, meth, c, Q, A⟩ := E
  obtain ⟨hx, hb, hml, hr, hown, hts, hK, hlk, hA, rfl, hN, hSt⟩ := hE
  intro H locs ls hP hD hS hL
  exact lv_icmp_eq hx hb hd ht (fun h => kt h (by rw [if_pos h] at hf; exact hf) H locs ls hP hD hS hL) (fun h => kf h (by rw [if_neg h] at hf; exact hf) H locs ls hP hD hS hL)

theorem j_icmp_eq_t {x y : Int32} {off : Int} {tgt : Nat} (hE : jOk E g own cc nL ret rm) (hc : x = y) (hd : decode cc pc = .ok (.if_icmp .eq off, 3)) (ht : (pc : Int) + off = (tgt : Int)) (kt : J E g kc ks ws lv tgt st) : J E g kc ks ws lv pc (.int y :: .int x :: st) := by
  obtain ⟨p, l, e, R, s, m, args, below, meth, c, Q, A⟩ := E
  obtain ⟨hx, hb, hml, hr, hown, hts, hK, hlk, hA, rfl, hN, hSt⟩ := hE
  intro H locs ls hP hD hS hL
  exact lv_icmp_eq hx hb hd ht (fun h => kt H locs ls hP hD hS hL) (fun h => absurd hc h)

theorem j_icmp_eq_f {x y : Int32} {off : Int} {tgt : Nat} (hE : jOk E g own cc nL ret rm) (hc : ¬ x = y) (hd : decode cc pc = .ok (.if_icmp .eq off, 3)) (ht : (pc : Int) + off = (tgt : Int)) (kf : J E g kc ks ws lv (pc + 3) st) : J E g kc ks ws lv pc (.int y :: .int x :: st) := by
  obtain ⟨p, l, e, R, s, m, args, below, meth, c, Q, A⟩ := E
  obtain ⟨hx, hb, hml, hr, hown, hts, hK, hlk, hA, rfl, hN, hSt⟩ := hE
  intro H locs ls hP hD hS hL
  exact lv_icmp_eq hx hb hd ht (fun h => absurd h hc) (fun h => kf H locs ls hP hD hS hL)

theorem j_if_ne {x : Int32} {off : Int} {tgt : Nat} {α : Type} {a b : Option α} {r : α} (hE : jOk E g own cc nL ret rm) (hf : (if x = 0 then a else b) = some r) (hd : decode cc pc = .ok (.ifCond .ne off, 3)) (ht : (pc : Int) + off = (tgt : Int)) (kt : ¬ x = 0 → b = some r → J E g kc ks ws lv tgt st) (kf : x = 0 → a = some r → J E g kc ks ws lv (pc + 3) st) : J E g kc ks ws lv pc (.int x :: st) := by
  obtain ⟨p, l, e, R, s, m, args, below, meth, c, Q, A⟩ := E
  obtain ⟨hx, hb, hml, hr, hown, hts, hK, hlk, hA, rfl, hN, hSt⟩ := hE
  intro H locs ls hP hD hS hL
  exact lv_if_ne hx hb hd ht (fun h => kt h (by rw [if_neg h] at hf; exact hf) H locs ls hP hD hS hL) (fun h => kf h (by rw [if_pos h] at hf; exact hf) H locs ls hP hD hS hL)

theorem j_if_ne_t {x : Int32} {off : Int} {tgt : Nat} (hE : jOk E g own cc nL ret rm) (hc : ¬ x = 0) (hd : decode cc pc = .ok (.ifCond .ne off, 3)) (ht : (pc : Int) + off = (tgt : Int)) (kt : J E g kc ks ws lv tgt st) : J E g kc ks ws lv pc (.int x :: st) := by
  obtain ⟨p, l, e, R, s, m, args, below, meth, c, Q, A⟩ := E
  obtain ⟨hx, hb, hml, hr, hown, hts, hK, hlk, hA, rfl, hN, hSt⟩ := hE
  intro H locs ls hP hD hS hL
  exact lv_if_ne hx hb hd ht (fun h => kt H locs ls hP hD hS hL) (fun h => absurd h hc)

theorem j_if_ne_f {x : Int32} {off : Int} {tgt : Nat} (hE : jOk E g own cc nL ret rm) (hc : x = 0) (hd : decode cc pc = .ok (.ifCond .ne off, 3)) (ht : (pc : Int) + off = (tgt : Int)) (kf : J E g kc ks ws lv (pc + 3) st) : J E g kc ks ws lv pc (.int x :: st) := by
  obtain ⟨p, l, e, R, s, m, args, below, meth, c, Q, A⟩ := E
  obtain ⟨hx, hb, hml, hr, hown, hts, hK, hlk, hA, rfl, hN, hSt⟩ := hE
  intro H locs ls hP hD hS hL
  exact lv_if_ne hx hb hd ht (fun h => absurd hc h) (fun h => kf H locs ls hP hD hS hL)

theorem j_icmp_ne {x y : Int32} {off : Int} {tgt : Nat} {α : Type} {a b : Option α} {r : α} (hE : jOk E g own cc nL ret rm) (hf : (if x = y then a else b) = some r) (hd : decode cc pc = .ok (.if_icmp .ne off, 3)) (ht : (pc : Int) + off = (tgt : Int)) (kt : ¬ x = y → b = some r → J E g kc ks ws lv tgt st) (kf : x = y → a = some r → J E g kc ks ws lv (pc + 3) st) : J E g kc ks ws lv pc (.int y :: .int x :: st) := by
  obtain ⟨p, l, e, R, s, m, args, below, meth, c, Q, A⟩ := E
  obtain ⟨hx, hb, hml, hr, hown, hts, hK, hlk, hA, rfl, hN, hSt⟩ := hE
  intro H locs ls hP hD hS hL
  exact lv_icmp_ne hx hb hd ht (fun h => kt h (by rw [if_neg h] at hf; exact hf) H locs ls hP hD hS hL) (fun h => kf h (by rw [if_pos h] at hf; exact hf) H locs ls hP hD hS hL)

theorem j_icmp_ne_t {x y : Int32} {off : Int} {tgt : Nat} (hE : jOk E g own cc nL ret rm) (hc : ¬ x = y) (hd : decode cc pc = .ok (.if_icmp .ne off, 3)) (ht : (pc : Int) + off = (tgt : Int)) (kt : J E g kc ks ws lv tgt st) : J E g kc ks ws lv pc (.int y :: .int x :: st) := by
  obtain ⟨p, l, e, R, s, m, args, below, meth, c, Q, A⟩ := E
  obtain ⟨hx, hb, hml, hr, hown, hts, hK, hlk, hA, rfl, hN, hSt⟩ := hE
  intro H locs ls hP hD hS hL
  exact lv_icmp_ne hx hb hd ht (fun h => kt H locs ls hP hD hS hL) (fun h => absurd h hc)

theorem j_icmp_ne_f {x y : Int32} {off : Int} {tgt : Nat} (hE : jOk E g own cc nL ret rm) (hc : x = y) (hd : decode cc pc = .ok (.if_icmp .ne off, 3)) (ht : (pc : Int) + off = (tgt : Int)) (kf : J E g kc ks ws lv (pc + 3) st) : J E g kc ks ws lv pc (.int y :: .int x :: st) := by
  obtain ⟨p, l, e, R, s, m, args, below, meth, c, Q, A⟩ := E
  obtain ⟨hx, hb, hml, hr, hown, hts, hK, hlk, hA, rfl, hN, hSt⟩ := hE
  intro H locs ls hP hD hS hL
  exact lv_icmp_ne hx hb hd ht (fun h => absurd hc h) (fun h => kf H locs ls hP hD hS hL)

theorem j_if_lt {x : Int32} {off : Int} {tgt : Nat} {α : Type} {a b : Option α} {r : α} (hE : jOk E g own cc nL ret rm) (hf : (if x < 0 then a else b) = some r) (hd : decode cc pc = .ok (.ifCond .lt off, 3)) (ht : (pc : Int) + off = (tgt : Int)) (kt : x < 0 → a = some r → J E g kc ks ws lv tgt st) (kf : ¬ x < 0 → b = some r → J E g kc ks ws lv (pc + 3) st) : J E g kc ks ws lv pc (.int x :: st) := by
  obtain ⟨p, l, e, R, s, m, args, below, meth, c, Q, A⟩ := E
  obtain ⟨hx, hb, hml, hr, hown, hts, hK, hlk, hA, rfl, hN, hSt⟩ := hE
  intro H locs ls hP hD hS hL
  exact lv_if_lt hx hb hd ht (fun h => kt h (by rw [if_pos h] at hf; exact hf) H locs ls hP hD hS hL) (fun h => kf h (by rw [if_neg h] at hf; exact hf) H locs ls hP hD hS hL)

theorem j_if_lt_t {x : Int32} {off : Int} {tgt : Nat} (hE : jOk E g own cc nL ret rm) (hc : x < 0) (hd : decode cc pc = .ok (.ifCond .lt off, 3)) (ht : (pc : Int) + off = (tgt : Int)) (kt : J E g kc ks ws lv tgt st) : J E g kc ks ws lv pc (.int x :: st) := by
  obtain ⟨p, l, e, R, s, m, args, below, meth, c, Q, A⟩ := E
  obtain ⟨hx, hb, hml, hr, hown, hts, hK, hlk, hA, rfl, hN, hSt⟩ := hE
  intro H locs ls hP hD hS hL
  exact lv_if_lt hx hb hd ht (fun h => kt H locs ls hP hD hS hL) (fun h => absurd hc h)

theorem j_if_lt_f {x : Int32} {off : Int} {tgt : Nat} (hE : jOk E g own cc nL ret rm) (hc : ¬ x < 0) (hd : decode cc pc = .ok (.ifCond .lt off, 3)) (ht : (pc : Int) + off = (tgt : Int)) (kf : J E g kc ks ws lv (pc + 3) st) : J E g kc ks ws lv pc (.int x :: st) := by
  obtain ⟨p, l, e, R, s, m, args, below, meth, c, Q, A⟩ := E
  obtain ⟨hx, hb, hml, hr, hown, hts, hK, hlk, hA, rfl, hN, hSt⟩ := hE
  intro H locs ls hP hD hS hL
  exact lv_if_lt hx hb hd ht (fun h => absurd h hc) (fun h => kf H locs ls hP hD hS hL)

theorem j_icmp_lt {x y : Int32} {off : Int} {tgt : Nat} {α : Type} {a b : Option α} {r : α} (hE : jOk E g own cc nL ret rm) (hf : (if x < y then a else b) = some r) (hd : decode cc pc = .ok (.if_icmp .lt off, 3)) (ht : (pc : Int) + off = (tgt : Int)) (kt : x < y → a = some r → J E g kc ks ws lv tgt st) (kf : ¬ x < y → b = some r → J E g kc ks ws lv (pc + 3) st) : J E g kc ks ws lv pc (.int y :: .int x :: st) := by
  obtain ⟨p, l, e, R, s, m, args, below, meth, c, Q, A⟩ := E
  obtain ⟨hx, hb, hml, hr, hown, hts, hK, hlk, hA, rfl, hN, hSt⟩ := hE
  intro H locs ls hP hD hS hL
  exact lv_icmp_lt hx hb hd ht (fun h => kt h (by rw [if_pos h] at hf; exact hf) H locs ls hP hD hS hL) (fun h => kf h (by rw [if_neg h] at hf; exact hf) H locs ls hP hD hS hL)

theorem j_icmp_lt_t {x y : Int32} {off : Int} {tgt : Nat} (hE : jOk E g own cc nL ret rm) (hc : x < y) (hd : decode cc pc = .ok (.if_icmp .lt off, 3)) (ht : (pc : Int) + off = (tgt : Int)) (kt : J E g kc ks ws lv tgt st) : J E g kc ks ws lv pc (.int y :: .int x :: st) := by
  obtain ⟨p, l, e, R, s, m, args, below, meth, c, Q, A⟩ := E
  obtain ⟨hx, hb, hml, hr, hown, hts, hK, hlk, hA, rfl, hN, hSt⟩ := hE
  intro H locs ls hP hD hS hL
  exact lv_icmp_lt hx hb hd ht (fun h => kt H locs ls hP hD hS hL) (fun h => absurd hc h)

theorem j_icmp_lt_f {x y : Int32} {off : Int} {tgt : Nat} (hE : jOk E g own cc nL ret rm) (hc : ¬ x < y) (hd : decode cc pc = .ok (.if_icmp .lt off, 3)) (ht : (pc : Int) + off = (tgt : Int)) (kf : J E g kc ks ws lv (pc + 3) st) : J E g kc ks ws lv pc (.int y :: .int x :: st) := by
  obtain ⟨p, l, e, R, s, m, args, below, meth, c, Q, A⟩ := E
  obtain ⟨hx, hb, hml, hr, hown, hts, hK, hlk, hA, rfl, hN, hSt⟩ := hE
  intro H locs ls hP hD hS hL
  exact lv_icmp_lt hx hb hd ht (fun h => absurd h hc) (fun h => kf H locs ls hP hD hS hL)

theorem j_if_ge {x : Int32} {off : Int} {tgt : Nat} {α : Type} {a b : Option α} {r : α} (hE : jOk E g own cc nL ret rm) (hf : (if 0 ≤ x then a else b) = some r) (hd : decode cc pc = .ok (.ifCond .ge off, 3)) (ht : (pc : Int) + off = (tgt : Int)) (kt : 0 ≤ x → a = some r → J E g kc ks ws lv tgt st) (kf : ¬ 0 ≤ x → b = some r → J E g kc ks ws lv (pc + 3) st) : J E g kc ks ws lv pc (.int x :: st) := by
  obtain ⟨p, l, e, R, s, m, args, below, meth, c, Q, A⟩ := E
  obtain ⟨hx, hb, hml, hr, hown, hts, hK, hlk, hA, rfl, hN, hSt⟩ := hE
  intro H locs ls hP hD hS hL
  exact lv_if_ge hx hb hd ht (fun h => kt h (by rw [if_pos h] at hf; exact hf) H locs ls hP hD hS hL) (fun h => kf h (by rw [if_neg h] at hf; exact hf) H locs ls hP hD hS hL)

theorem j_if_ge_t {x : Int32} {off : Int} {tgt : Nat} (hE : jOk E g own cc nL ret rm) (hc : 0 ≤ x) (hd : decode cc pc = .ok (.ifCond .ge off, 3)) (ht : (pc : Int) + off = (tgt : Int)) (kt : J E g kc ks ws lv tgt st) : J E g kc ks ws lv pc (.int x :: st) := by
  obtain ⟨p, l, e, R, s, m, args, below, meth, c, Q, A⟩ := E
  obtain ⟨hx, hb, hml, hr, hown, hts, hK, hlk, hA, rfl, hN, hSt⟩ := hE
  intro H locs ls hP hD hS hL
  exact lv_if_ge hx hb hd ht (fun h => kt H locs ls hP hD hS hL) (fun h => absurd hc h)

theorem j_if_ge_f {x : Int32} {off : Int} {tgt : Nat} (hE : jOk E g own cc nL ret rm) (hc : ¬ 0 ≤ x) (hd : decode cc pc = .ok (.ifCond .ge off, 3)) (ht : (pc : Int) + off = (tgt : Int)) (kf : J E g kc ks ws lv (pc + 3) st) : J E g kc ks ws lv pc (.int x :: st) := by
  obtain ⟨p, l, e, R, s, m, args, below, meth, c, Q, A⟩ := E
  obtain ⟨hx, hb, hml, hr, hown, hts, hK, hlk, hA, rfl, hN, hSt⟩ := hE
  intro H locs ls hP hD hS hL
  exact lv_if_ge hx hb hd ht (fun h => absurd h hc) (fun h => kf H locs ls hP hD hS hL)

theorem j_icmp_ge {x y : Int32} {off : Int} {tgt : Nat} {α : Type} {a b : Option α} {r : α} (hE : jOk E g own cc nL ret rm) (hf : (if y ≤ x then a else b) = some r) (hd : decode cc pc = .ok (.if_icmp .ge off, 3)) (ht : (pc : Int) + off = (tgt : Int)) (kt : y ≤ x → a = some r → J E g kc ks ws lv tgt st) (kf : ¬ y ≤ x → b = some r → J E g kc ks ws lv (pc + 3) st) : J E g kc ks ws lv pc (.int y :: .int x :: st) := by
  obtain ⟨p, l, e, R, s, m, args, below, meth, c, Q, A⟩ := E
  obtain ⟨hx, hb, hml, hr, hown, hts, hK, hlk, hA, rfl, hN, hSt⟩ := hE
  intro H locs ls hP hD hS hL
  exact lv_icmp_ge hx hb hd ht (fun h => kt h (by rw [if_pos h] at hf; exact hf) H locs ls hP hD hS hL) (fun h => kf h (by rw [if_neg h] at hf; exact hf) H locs ls hP hD hS hL)

theorem j_icmp_ge_t {x y : Int32} {off : Int} {tgt : Nat} (hE : jOk E g own cc nL ret rm) (hc : y ≤ x) (hd : decode cc pc = .ok (.if_icmp .ge off, 3)) (ht : (pc : Int) + off = (tgt : Int)) (kt : J E g kc ks ws lv tgt st) : J E g kc ks ws lv pc (.int y :: .int x :: st) := by
  obtain ⟨p, l, e, R, s, m, args, below, meth, c, Q, A⟩ := E
  obtain ⟨hx, hb, hml, hr, hown, hts, hK, hlk, hA, rfl, hN, hSt⟩ := hE
  intro H locs ls hP hD hS hL
  exact lv_icmp_ge hx hb hd ht (fun h => kt H locs ls hP hD hS hL) (fun h => absurd hc h)

theorem j_icmp_ge_f {x y : Int32} {off : Int} {tgt : Nat} (hE : jOk E g own cc nL ret rm) (hc : ¬ y ≤ x) (hd : decode cc pc = .ok (.if_icmp .ge off, 3)) (ht : (pc : Int) + off = (tgt : Int)) (kf : J E g kc ks ws lv (pc + 3) st) : J E g kc ks ws lv pc (.int y :: .int x :: st) := by
  obtain ⟨p, l, e, R, s, m, args, below, meth, c, Q, A⟩ := E
  obtain ⟨hx, hb, hml, hr, hown, hts, hK, hlk, hA, rfl, hN, hSt⟩ := hE
  intro H locs ls hP hD hS hL
  exact lv_icmp_ge hx hb hd ht (fun h => absurd h hc) (fun h => kf H locs ls hP hD hS hL)

theorem j_if_gt {x : Int32} {off : Int} {tgt : Nat} {α : Type} {a b : Option α} {r : α} (hE : jOk E g own cc nL ret rm) (hf : (if 0 < x then a else b) = some r) (hd : decode cc pc = .ok (.ifCond .gt off, 3)) (ht : (pc : Int) + off = (tgt : Int)) (kt : 0 < x → a = some r → J E g kc ks ws lv tgt st) (kf : ¬ 0 < x → b = some r → J E g kc ks ws lv (pc + 3) st) : J E g kc ks ws lv pc (.int x :: st) := by
  obtain ⟨p, l, e, R, s, m, args, below, meth, c, Q, A⟩ := E
  obtain ⟨hx, hb, hml, hr, hown, hts, hK, hlk, hA, rfl, hN, hSt⟩ := hE
  intro H locs ls hP hD hS hL
  exact lv_if_gt hx hb hd ht (fun h => kt h (by rw [if_pos h] at hf; exact hf) H locs ls hP hD hS hL) (fun h => kf h (by rw [if_neg h] at hf; exact hf) H locs ls hP hD hS hL)

theorem j_if_gt_t {x : Int32} {off : Int} {tgt : Nat} (hE : jOk E g own cc nL ret rm) (hc : 0 < x) (hd : decode cc pc = .ok (.ifCond .gt off, 3)) (ht : (pc : Int) + off = (tgt : Int)) (kt : J E g kc ks ws lv tgt st) : J E g kc ks ws lv pc (.int x :: st) := by
  obtain ⟨p, l, e, R, s, m, args, below, meth, c, Q, A⟩ := E
  obtain ⟨hx, hb, hml, hr, hown, hts, hK, hlk, hA, rfl, hN, hSt⟩ := hE
  intro H locs ls hP hD hS hL
  exact lv_if_gt hx hb hd ht (fun h => kt H locs ls hP hD hS hL) (fun h => absurd hc h)

theorem j_if_gt_f {x : Int32} {off : Int} {tgt : Nat} (hE : jOk E g own cc nL ret rm) (hc : ¬ 0 < x) (hd : decode cc pc = .ok (.ifCond .gt off, 3)) (ht : (pc : Int) + off = (tgt : Int)) (kf : J E g kc ks ws lv (pc + 3) st) : J E g kc ks ws lv pc (.int x :: st) := by
  obtain ⟨p, l, e, R, s, m, args, below, meth, c, Q, A⟩ := E
  obtain ⟨hx, hb, hml, hr, hown, hts, hK, hlk, hA, rfl, hN, hSt⟩ := hE
  intro H locs ls hP hD hS hL
  exact lv_if_gt hx hb hd ht (fun h => absurd h hc) (fun h => kf H locs ls hP hD hS hL)

theorem j_icmp_gt {x y : Int32} {off : Int} {tgt : Nat} {α : Type} {a b : Option α} {r : α} (hE : jOk E g own cc nL ret rm) (hf : (if y < x then a else b) = some r) (hd : decode cc pc = .ok (.if_icmp .gt off, 3)) (ht : (pc : Int) + off = (tgt : Int)) (kt : y < x → a = some r → J E g kc ks ws lv tgt st) (kf : ¬ y < x → b = some r → J E g kc ks ws lv (pc + 3) st) : J E g kc ks ws lv pc (.int y :: .int x :: st) := by
  obtain ⟨p, l, e, R, s, m, args, below, meth, c, Q, A⟩ := E
  obtain ⟨hx, hb, hml, hr, hown, hts, hK, hlk, hA, rfl, hN, hSt⟩ := hE
  intro H locs ls hP hD hS hL
  exact lv_icmp_gt hx hb hd ht (fun h => kt h (by rw [if_pos h] at hf; exact hf) H locs ls hP hD hS hL) (fun h => kf h (by rw [if_neg h] at hf; exact hf) H locs ls hP hD hS hL)

theorem j_icmp_gt_t {x y : Int32} {off : Int} {tgt : Nat} (hE : jOk E g own cc nL ret rm) (hc : y < x) (hd : decode cc pc = .ok (.if_icmp .gt off, 3)) (ht : (pc : Int) + off = (tgt : Int)) (kt : J E g kc ks ws lv tgt st) : J E g kc ks ws lv pc (.int y :: .int x :: st) := by
  obtain ⟨p, l, e, R, s, m, args, below, meth, c, Q, A⟩ := E
  obtain ⟨hx, hb, hml, hr, hown, hts, hK, hlk, hA, rfl, hN, hSt⟩ := hE
  intro H locs ls hP hD hS hL
  exact lv_icmp_gt hx hb hd ht (fun h => kt H locs ls hP hD hS hL) (fun h => absurd hc h)

theorem j_icmp_gt_f {x y : Int32} {off : Int} {tgt : Nat} (hE : jOk E g own cc nL ret rm) (hc : ¬ y < x) (hd : decode cc pc = .ok (.if_icmp .gt off, 3)) (ht : (pc : Int) + off = (tgt : Int)) (kf : J E g kc ks ws lv (pc + 3) st) : J E g kc ks ws lv pc (.int y :: .int x :: st) := by
  obtain ⟨p, l, e, R, s, m, args, below, meth, c, Q, A⟩ := E
  obtain ⟨hx, hb, hml, hr, hown, hts, hK, hlk, hA, rfl, hN, hSt⟩ := hE
  intro H locs ls hP hD hS hL
  exact lv_icmp_gt hx hb hd ht (fun h => absurd h hc) (fun h => kf H locs ls hP hD hS hL)

theorem j_if_le {x : Int32} {off : Int} {tgt : Nat} {α : Type} {a b : Option α} {r : α} (hE : jOk E g own cc nL ret rm) (hf : (if x ≤ 0 then a else b) = some r) (hd : decode cc pc = .ok (.ifCond .le off, 3)) (ht : (pc : Int) + off = (tgt : Int)) (kt : x ≤ 0 → a = some r → J E g kc ks ws lv tgt st) (kf : ¬ x ≤ 0 → b = some r → J E g kc ks ws lv (pc + 3) st) : J E g kc ks ws lv pc (.int x :: st) := by
  obtain ⟨p, l, e, R, s, m, args, below, meth, c, Q, A⟩ := E
  obtain ⟨hx, hb, hml, hr, hown, hts, hK, hlk, hA, rfl, hN, hSt⟩ := hE
  intro H locs ls hP hD hS hL
  exact lv_if_le hx hb hd ht (fun h => kt h (by rw [if_pos h] at hf; exact hf) H locs ls hP hD hS hL) (fun h => kf h (by rw [if_neg h] at hf; exact hf) H locs ls hP hD hS hL)

theorem j_if_le_t {x : Int32} {off : Int} {tgt : Nat} (hE : jOk E g own cc nL ret rm) (hc : x ≤ 0) (hd : decode cc pc = .ok (.ifCond .le off, 3)) (ht : (pc : Int) + off = (tgt : Int)) (kt : J E g kc ks ws lv tgt st) : J E g kc ks ws lv pc (.int x :: st) := by
  obtain ⟨p, l, e, R, s, m, args, below, meth, c, Q, A⟩ := E
  obtain ⟨hx, hb, hml, hr, hown, hts, hK, hlk, hA, rfl, hN, hSt⟩ := hE
  intro H locs ls hP hD hS hL
  exact lv_if_le hx hb hd ht (fun h => kt H locs ls hP hD hS hL) (fun h => absurd hc h)

theorem j_if_le_f {x : Int32} {off : Int} {tgt : Nat} (hE : jOk E g own cc nL ret rm) (hc : ¬ x ≤ 0) (hd : decode cc pc = .ok (.ifCond .le off, 3)) (ht : (pc : Int) + off = (tgt : Int)) (kf : J E g kc ks ws lv (pc + 3) st) : J E g kc ks ws lv pc (.int x :: st) := by
  obtain ⟨p, l, e, R, s, m, args, below, meth, c, Q, A⟩ := E
  obtain ⟨hx, hb, hml, hr, hown, hts, hK, hlk, hA, rfl, hN, hSt⟩ := hE
  intro H locs ls hP hD hS hL
  exact lv_if_le hx hb hd ht (fun h => absurd h hc) (fun h => kf H locs ls hP hD hS hL)

theorem j_icmp_le {x y : Int32} {off : Int} {tgt : Nat} {α : Type} {a b : Option α} {r : α} (hE : jOk E g own cc nL ret rm) (hf : (if x ≤ y then a else b) = some r) (hd : decode cc pc = .ok (.if_icmp .le off, 3)) (ht : (pc : Int) + off = (tgt : Int)) (kt : x ≤ y → a = some r → J E g kc ks ws lv tgt st) (kf : ¬ x ≤ y → b = some r → J E g kc ks ws lv (pc + 3) st) : J E g kc ks ws lv pc (.int y :: .int x :: st) := by
  obtain ⟨p, l, e, R, s, m, args, below, meth, c, Q, A⟩ := E
  obtain ⟨hx, hb, hml, hr, hown, hts, hK, hlk, hA, rfl, hN, hSt⟩ := hE
  intro H locs ls hP hD hS hL
  exact lv_icmp_le hx hb hd ht (fun h => kt h (by rw [if_pos h] at hf; exact hf) H locs ls hP hD hS hL) (fun h => kf h (by rw [if_neg h] at hf; exact hf) H locs ls hP hD hS hL)

theorem j_icmp_le_t {x y : Int32} {off : Int} {tgt : Nat} (hE : jOk E g own cc nL ret rm) (hc : x ≤ y) (hd : decode cc pc = .ok (.if_icmp .le off, 3)) (ht : (pc : Int) + off = (tgt : Int)) (kt : J E g kc ks ws lv tgt st) : J E g kc ks ws lv pc (.int y :: .int x :: st) := by
  obtain ⟨p, l, e, R, s, m, args, below, meth, c, Q, A⟩ := E
  obtain ⟨hx, hb, hml, hr, hown, hts, hK, hlk, hA, rfl, hN, hSt⟩ := hE
  intro H locs ls hP hD hS hL
  exact lv_icmp_le hx hb hd ht (fun h => kt H locs ls hP hD hS hL) (fun h => absurd hc h)

theorem j_icmp_le_f {x y : Int32} {off : Int} {tgt : Nat} (hE : jOk E g own cc nL ret rm) (hc : ¬ x ≤ y) (hd : decode cc pc = .ok (.if_icmp .le off, 3)) (ht : (pc : Int) + off = (tgt : Int)) (kf : J E g kc ks ws lv (pc + 3) st) : J E g kc ks ws lv pc (.int y :: .int x :: st) := by
  obtain ⟨p, l, e, R, s, m, args, below, meth, c, Q, A⟩ := E
  obtain ⟨hx, hb, hml, hr, hown, hts, hK, hlk, hA, rfl, hN, hSt⟩ := hE
  intro H locs ls hP hD hS hL
  exact lv_icmp_le hx hb hd ht (fun h => absurd h hc) (fun h => kf H locs ls hP hD hS hL)

theorem j_tableIn {dflt lo hi : Int} {offs : Array Int} {len : Nat} {x : Int32} {off : Int} {tgt : Nat} (hE : jOk E g own cc nL ret rm) (hd : decode cc pc = .ok (.tableswitch dflt lo hi offs, len)) (h1 : ¬ x.toInt < lo) (h2 : ¬ hi < x.toInt) (ho : offs[(x.toInt - lo).toNat]? = some off) (ht : (pc : Int) + off = (tgt : Int)) (kk : J E g kc ks ws lv tgt st) : J E g kc ks ws lv pc (.int x :: st) := by
  obtain ⟨p, l, e, R, s, m, args, below, meth, c, Q, A⟩ := E
  obtain ⟨hx, hb, hml, hr, hown, hts, hK, hlk, hA, rfl, hN, hSt⟩ := hE
  intro H locs ls hP hD hS hL
  exact lv_tableIn hx hb hd h1 h2 ho ht (kk H locs ls hP hD hS hL)

theorem j_tableOut {dflt lo hi : Int} {offs : Array Int} {len : Nat} {x : Int32} {tgt : Nat} (hE : jOk E g own cc nL ret rm) (hd : decode cc pc = .ok (.tableswitch dflt lo hi offs, len)) (h : x.toInt < lo ∨ hi < x.toInt) (ht : (pc : Int) + dflt = (tgt : Int)) (kk : J E g kc ks ws lv tgt st) : J E g kc ks ws lv pc (.int x :: st) := by
  obtain ⟨p, l, e, R, s, m, args, below, meth, c, Q, A⟩ := E
  obtain ⟨hx, hb, hml, hr, hown, hts, hK, hlk, hA, rfl, hN, hSt⟩ := hE
  intro H locs ls hP hD hS hL
  exact lv_tableOut hx hb hd h ht (kk H locs ls hP hD hS hL)

theorem j_lookup {dflt : Int} {ps : Array (Int × Int)} {len : Nat} {x : Int32} {off : Int} {tgt : Nat} (hE : jOk E g own cc nL ret rm) (hd : decode cc pc = .ok (.lookupswitch dflt ps, len)) (hp : (ps.toList.zip (ps.toList.drop 1)).all (fun (a, next) => a.1 < next.1) = true) (ho : Op.lookupswitch.offset ps.toList dflt x.toInt = off) (ht : (pc : Int) + off = (tgt : Int)) (kk : J E g kc ks ws lv tgt st) : J E g kc ks ws lv pc (.int x :: st) := by
  obtain ⟨p, l, e, R, s, m, args, below, meth, c, Q, A⟩ := E
  obtain ⟨hx, hb, hml, hr, hown, hts, hK, hlk, hA, rfl, hN, hSt⟩ := hE
  intro H locs ls hP hD hS hL
  exact lv_lookup hx hb hd hp ho ht (kk H locs ls hP hD hS hL)

def jFl (own : String) (index ci k : Nat) : Prop := ∃ (C : String) (T : u_T) (N : Nat), vwCl[ci]? = some (C, T, N) ∧ k < N ∧ (∀ w ∈ u_ws C T N, w ∈ tb) ∧ Cond.fieldLink own index (T k).1 (T k).2.1 (T k).2.2.1 ∈ tb
def jFp (own : String) (index ci k : Nat) (ty : FieldType) : Prop := ∃ (C : String) (T : u_T) (N : Nat) (ty0 : Nat → FieldType), vwCl[ci]? = some (C, T, N) ∧ k < N ∧ (∀ w ∈ u_ws C T N, w ∈ tb) ∧ Cond.fieldLink own index (T k).1 (T k).2.1 (T k).2.2.1 ∈ tb ∧ (∀ k, k < N → parseFieldDescriptor (T k).2.2.1 = some (ty0 k)) ∧ (∀ a, a < N → ∀ b, b < N → a ≠ b → (T a).2.1 ≠ (T b).2.1) ∧ (T k).2.2.2 = false ∧ ty0 k = ty
theorem j_get {index ci k : Nat} {a : Nat} {fs : List Value} {v : Value} {w : va_W} (hE : jOk E g own cc nL ret rm) (hl : jFl own index ci k) (i : Nat) (hi : ws[i]? = some w) (q0 : Nat) (he : w[q0]? = some (a, .inr (ci, fs))) (hv : fs[k]? = some v) (hd : decode cc pc = .ok (.getfield index, 3)) (kk : J E g kc ks ws lv (pc + 3) (v :: st)) : J E g kc ks ws lv pc (.ref a :: st) := by
  obtain ⟨p, l, e, R, s, m, args, below, meth, c, Q, A⟩ := E
  obtain ⟨hx, hb, hml, hr, hown, hts, hK, hlk, hA, rfl, hN, hSt⟩ := hE
  intro H locs ls hP hD hS hL
  obtain ⟨C, T, N, h1, h2, h3, h4⟩ := hl
  exact va_get (D := g.1) (cl := vwCl) (tys := jTy g) (C := C) (T := T) (N := N) (ref := (T k).1) hx hb hts h3 hown hK hP _ (sAt ws i q0 w _ hi he) h1 k h2 (hts _ h4) (fun _ h => h) hv hd (kk H locs ls hP hD hS hL)

theorem j_put {index ci k : Nat} {a : Nat} {fs : List Value} {v : Value} {ty : FieldType} {w w' : va_W} {ws' : List va_W} (hE : jOk E g own cc nL ret rm) (hl : jFp own index ci k ty) (i : Nat) (hi : ws[i]? = some w) (q0 : Nat) (he : w[q0]? = some (a, .inr (ci, fs))) (hn : narrow ty v = v) (hfit : fits ty v = true) (hk : k < fs.length) (hw : w.set q0 (a, .inr (ci, fs.set k v)) = w') (hw2 : ws.set i w' = ws') (hd : decode cc pc = .ok (.putfield index, 3)) (kk : J E g kc ks ws' lv (pc + 3) st) : J E g kc ks ws lv pc (v :: .ref a :: st) := by
  obtain ⟨p, l, e, R, s, m, args, below, meth, c, Q, A⟩ := E
  obtain ⟨hx, hb, hml, hr, hown, hts, hK, hlk, hA, rfl, hN, hSt⟩ := hE
  intro H locs ls hP hD hS hL
  obtain ⟨C, T, N, ty0, h1, h2, h3, h4, h5, h6, h7, h8⟩ := hl
  subst hw
  subst hw2
  have hq := (List.getElem?_eq_some_iff.mp he).1
  refine va_put (D := g.1) (cl := vwCl) (tys := jTy g) (C := C) (T := T) (N := N) (ref := (T k).1) (ty := ty) hx hb hts h3 ty0 h5 h6 hown hK hP hD hS _ (sAt ws i q0 w _ hi he) h1 k h2 (hts _ h4) (fun _ h => h) h7 (by rw [h5 k h2, h8]) hn hfit hk hd (fun H locs hP hD hS => ?_)
  rw [← sSet ws i q0 w _ hi hq] at hP hD
  exact kk H locs ls hP hD hS hL

theorem j_iald {a n : Nat} {f : Nat → Int32} {i : Int32} {w : va_W} {α : Type} {k : Nat → Option α} {r : α} (hE : jOk E g own cc nL ret rm) (hf : (ix i n).bind k = some r) (s0 : Nat) (hi : ws[s0]? = some w) (q0 : Nat) (ha : w[q0]? = some (a, .inl (g.2.2.1, n, .inl f))) (hd : decode cc pc = .ok (.iaload, 1)) (kk : k i.toNatClampNeg = some r → J E g kc ks ws lv (pc + 1) (.int (f i.toNatClampNeg) :: st)) : J E g kc ks ws lv pc (.int i :: .ref a :: st) := by
  obtain ⟨p, l, e, R, s, m, args, below, meth, c, Q, A⟩ := E
  obtain ⟨hx, hb, hml, hr, hown, hts, hK, hlk, hA, rfl, hN, hSt⟩ := hE
  intro H locs ls hP hD hS hL
  obtain ⟨h1, hf⟩ := ix_of hf
  exact va_iald hx hb hK hP _ 1 (sAt ws s0 q0 w _ hi ha) rfl h1 hd (kk hf H locs ls hP hD hS hL)

theorem j_bald {a n : Nat} {f : Nat → Int32} {i : Int32} {w : va_W} {α : Type} {k : Nat → Option α} {r : α} (hE : jOk E g own cc nL ret rm) (hf : (ix i n).bind k = some r) (s0 : Nat) (hi : ws[s0]? = some w) (q0 : Nat) (ha : w[q0]? = some (a, .inl (g.2.1, n, .inl f))) (hd : decode cc pc = .ok (.baload, 1)) (kk : k i.toNatClampNeg = some r → J E g kc ks ws lv (pc + 1) (.int (f i.toNatClampNeg) :: st)) : J E g kc ks ws lv pc (.int i :: .ref a :: st) := by
  obtain ⟨p, l, e, R, s, m, args, below, meth, c, Q, A⟩ := E
  obtain ⟨hx, hb, hml, hr, hown, hts, hK, hlk, hA, rfl, hN, hSt⟩ := hE
  intro H locs ls hP hD hS hL
  obtain ⟨h1, hf⟩ := ix_of hf
  exact va_bald hx hb hK hP _ 0 (sAt ws s0 q0 w _ hi ha) rfl h1 hd (kk hf H locs ls hP hD hS hL)

theorem j_zald {a n : Nat} {f : Nat → Int32} {i : Int32} {w : va_W} {α : Type} {k : Nat → Option α} {r : α} (hE : jOk E g own cc nL ret rm) (hf : (ix i n).bind k = some r) (s0 : Nat) (hi : ws[s0]? = some w) (q0 : Nat) (ha : w[q0]? = some (a, .inl (g.2.2.2.2.1, n, .inl f))) (hd : decode cc pc = .ok (.baload, 1)) (kk : k i.toNatClampNeg = some r → J E g kc ks ws lv (pc + 1) (.int (f i.toNatClampNeg) :: st)) : J E g kc ks ws lv pc (.int i :: .ref a :: st) := by
  obtain ⟨p, l, e, R, s, m, args, below, meth, c, Q, A⟩ := E
  obtain ⟨hx, hb, hml, hr, hown, hts, hK, hlk, hA, rfl, hN, hSt⟩ := hE
  intro H locs ls hP hD hS hL
  obtain ⟨h1, hf⟩ := ix_of hf
  exact va_zald hx hb hK hP _ 3 (sAt ws s0 q0 w _ hi ha) rfl h1 hd (kk hf H locs ls hP hD hS hL)

theorem j_lald {a n : Nat} {f : Nat → Int64} {i : Int32} {w : va_W} {α : Type} {k : Nat → Option α} {r : α} (hE : jOk E g own cc nL ret rm) (hf : (ix i n).bind k = some r) (s0 : Nat) (hi : ws[s0]? = some w) (q0 : Nat) (ha : w[q0]? = some (a, .inl (g.2.2.2.1, n, .inr (.inl f)))) (hd : decode cc pc = .ok (.laload, 1)) (kk : k i.toNatClampNeg = some r → J E g kc ks ws lv (pc + 1) (.long (f i.toNatClampNeg) :: st)) : J E g kc ks ws lv pc (.int i :: .ref a :: st) := by
  obtain ⟨p, l, e, R, s, m, args, below, meth, c, Q, A⟩ := E
  obtain ⟨hx, hb, hml, hr, hown, hts, hK, hlk, hA, rfl, hN, hSt⟩ := hE
  intro H locs ls hP hD hS hL
  obtain ⟨h1, hf⟩ := ix_of hf
  exact va_lald hx hb hK hP _ 2 (sAt ws s0 q0 w _ hi ha) rfl h1 hd (kk hf H locs ls hP hD hS hL)

theorem j_iast {a n : Nat} {f : Nat → Int32} {i : Int32} {x : Int32} {w w' : va_W} {ws' : List va_W} {α : Type} {k : Nat → Option α} {r : α} (hE : jOk E g own cc nL ret rm) (hf : (ix i n).bind k = some r) (s0 : Nat) (hi : ws[s0]? = some w) (q0 : Nat) (ha : w[q0]? = some (a, .inl (g.2.2.1, n, .inl f))) (hw : w.set q0 (a, .inl (g.2.2.1, n, .inl (upd f i.toNatClampNeg x))) = w') (hw2 : ws.set s0 w' = ws') (hd : decode cc pc = .ok (.iastore, 1)) (kk : k i.toNatClampNeg = some r → J E g kc ks ws' lv (pc + 1) st) : J E g kc ks ws lv pc (.int x :: .int i :: .ref a :: st) := by
  obtain ⟨p, l, e, R, s, m, args, below, meth, c, Q, A⟩ := E
  obtain ⟨hx, hb, hml, hr, hown, hts, hK, hlk, hA, rfl, hN, hSt⟩ := hE
  intro H locs ls hP hD hS hL
  obtain ⟨h1, hf⟩ := ix_of hf
  subst hw
  subst hw2
  have hq := (List.getElem?_eq_some_iff.mp ha).1
  refine va_iast hx hb hK hP hD hS _ 1 (sAt ws s0 q0 w _ hi ha) rfl h1 hd (fun H locs hP hD hS => ?_)
  rw [← sSet ws s0 q0 w _ hi hq] at hP hD
  exact kk hf H locs ls hP hD hS hL

theorem j_bast {a n : Nat} {f : Nat → Int32} {i : Int32} {x : Int32} {w w' : va_W} {ws' : List va_W} {α : Type} {k : Nat → Option α} {r : α} (hE : jOk E g own cc nL ret rm) (hf : (ix i n).bind k = some r) (s0 : Nat) (hi : ws[s0]? = some w) (q0 : Nat) (ha : w[q0]? = some (a, .inl (g.2.1, n, .inl f))) (hw : w.set q0 (a, .inl (g.2.1, n, .inl (upd f i.toNatClampNeg (vp_nar .byte x)))) = w') (hw2 : ws.set s0 w' = ws') (hd : decode cc pc = .ok (.bastore, 1)) (kk : k i.toNatClampNeg = some r → J E g kc ks ws' lv (pc + 1) st) : J E g kc ks ws lv pc (.int x :: .int i :: .ref a :: st) := by
  obtain ⟨p, l, e, R, s, m, args, below, meth, c, Q, A⟩ := E
  obtain ⟨hx, hb, hml, hr, hown, hts, hK, hlk, hA, rfl, hN, hSt⟩ := hE
  intro H locs ls hP hD hS hL
  obtain ⟨h1, hf⟩ := ix_of hf
  subst hw
  subst hw2
  have hq := (List.getElem?_eq_some_iff.mp ha).1
  refine va_bast hx hb hK hP hD hS _ 0 (sAt ws s0 q0 w _ hi ha) rfl h1 hd (fun H locs hP hD hS => ?_)
  rw [← sSet ws s0 q0 w _ hi hq] at hP hD
  exact kk hf H locs ls hP hD hS hL

theorem j_zast {a n : Nat} {f : Nat → Int32} {i : Int32} {x : Int32} {w w' : va_W} {ws' : List va_W} {α : Type} {k : Nat → Option α} {r : α} (hE : jOk E g own cc nL ret rm) (hf : (ix i n).bind k = some r) (s0 : Nat) (hi : ws[s0]? = some w) (q0 : Nat) (ha : w[q0]? = some (a, .inl (g.2.2.2.2.1, n, .inl f))) (hw : w.set q0 (a, .inl (g.2.2.2.2.1, n, .inl (upd f i.toNatClampNeg (vp_nar .boolean x)))) = w') (hw2 : ws.set s0 w' = ws') (hd : decode cc pc = .ok (.bastore, 1)) (kk : k i.toNatClampNeg = some r → J E g kc ks ws' lv (pc + 1) st) : J E g kc ks ws lv pc (.int x :: .int i :: .ref a :: st) := by
  obtain ⟨p, l, e, R, s, m, args, below, meth, c, Q, A⟩ := E
  obtain ⟨hx, hb, hml, hr, hown, hts, hK, hlk, hA, rfl, hN, hSt⟩ := hE
  intro H locs ls hP hD hS hL
  obtain ⟨h1, hf⟩ := ix_of hf
  subst hw
  subst hw2
  have hq := (List.getElem?_eq_some_iff.mp ha).1
  refine va_zast hx hb hK hP hD hS _ 3 (sAt ws s0 q0 w _ hi ha) rfl h1 hd (fun H locs hP hD hS => ?_)
  rw [← sSet ws s0 q0 w _ hi hq] at hP hD
  exact kk hf H locs ls hP hD hS hL

theorem j_last {a n : Nat} {f : Nat → Int64} {i : Int32} {x : Int64} {w w' : va_W} {ws' : List va_W} {α : Type} {k : Nat → Option α} {r : α} (hE : jOk E g own cc nL ret rm) (hf : (ix i n).bind k = some r) (s0 : Nat) (hi : ws[s0]? = some w) (q0 : Nat) (ha : w[q0]? = some (a, .inl (g.2.2.2.1, n, .inr (.inl f)))) (hw : w.set q0 (a, .inl (g.2.2.2.1, n, .inr (.inl (vp_updL f i.toNatClampNeg x)))) = w') (hw2 : ws.set s0 w' = ws') (hd : decode cc pc = .ok (.lastore, 1)) (kk : k i.toNatClampNeg = some r → J E g kc ks ws' lv (pc + 1) st) : J E g kc ks ws lv pc (.long x :: .int i :: .ref a :: st) := by
  obtain ⟨p, l, e, R, s, m, args, below, meth, c, Q, A⟩ := E
  obtain ⟨hx, hb, hml, hr, hown, hts, hK, hlk, hA, rfl, hN, hSt⟩ := hE
  intro H locs ls hP hD hS hL
  obtain ⟨h1, hf⟩ := ix_of hf
  subst hw
  subst hw2
  have hq := (List.getElem?_eq_some_iff.mp ha).1
  refine va_last hx hb hK hP hD hS _ 2 (sAt ws s0 q0 w _ hi ha) rfl h1 hd (fun H locs hP hD hS => ?_)
  rw [← sSet ws s0 q0 w _ hi hq] at hP hD
  exact kk hf H locs ls hP hD hS hL

theorem j_alen {a t0 : Nat} {cA : ClassId} {x : vp_A} {w : va_W} {ty : FieldType} {v : Int32} (hE : jOk E g own cc nL ret rm) (s0 : Nat) (hi : ws[s0]? = some w) (q0 : Nat) (ha : w[q0]? = some (a, .inl (cA, x))) (ht : (jTy g)[t0]? = some (cA, ty)) (hv : Int32.ofNat x.1 = v) (hd : decode cc pc = .ok (.arraylength, 1)) (kk : J E g kc ks ws lv (pc + 1) (.int v :: st)) : J E g kc ks ws lv pc (.ref a :: st) := by
  obtain ⟨p, l, e, R, s, m, args, below, meth, c, Q, A⟩ := E
  obtain ⟨hx, hb, hml, hr, hown, hts, hK, hlk, hA, rfl, hN, hSt⟩ := hE
  intro H locs ls hP hD hS hL
  exact va_alen hx hb hK hP _ t0 (sAt ws s0 q0 w _ hi ha) ht hv hd (kk H locs ls hP hD hS hL)

theorem j_iret {v : Int32} {v0 : Option Value} {w1 : List va_W} (hE : jOk E g own cc nL (some .int) rm) (hq : jEnd E g v0 w1 kc ks) (hv : v0 = some (.int v)) (hw : w1 = ws) (hd : decode cc pc = .ok (.ireturn, 1)) : J E g kc ks ws lv pc [.int v] := by
  subst hv; subst hw
  obtain ⟨p, l, e, R, s, m, args, below, meth, c, Q, A⟩ := E
  obtain ⟨hx, hb, hml, hr, hown, hts, hK, hlk, hA, rfl, hN, hSt⟩ := hE
  intro H locs ls hP hD hS hL
  have hq : Q = MQ below (jQ g _ _ A) args s kc ks A := hq
  subst hq
  exact W.iret hx hb hr (fun t ht hW => ⟨rfl, by rw [ht]; exact hP, hS.F ht⟩) hS.2.2 hd hlk
theorem j_lret {v : Int64} {v0 : Option Value} {w1 : List va_W} (hE : jOk E g own cc nL (some .long) rm) (hq : jEnd E g v0 w1 kc ks) (hv : v0 = some (.long v)) (hw : w1 = ws) (hd : decode cc pc = .ok (.lreturn, 1)) : J E g kc ks ws lv pc [.long v] := by
  subst hv; subst hw
  obtain ⟨p, l, e, R, s, m, args, below, meth, c, Q, A⟩ := E
  obtain ⟨hx, hb, hml, hr, hown, hts, hK, hlk, hA, rfl, hN, hSt⟩ := hE
  intro H locs ls hP hD hS hL
  have hq : Q = MQ below (jQ g _ _ A) args s kc ks A := hq
  subst hq
  exact W.lret hx hb hr (fun t ht hW => ⟨rfl, by rw [ht]; exact hP, hS.F ht⟩) hS.2.2 hd hlk
theorem j_vret {v0 : Option Value} {w1 : List va_W} (hE : jOk E g own cc nL none rm) (hq : jEnd E g v0 w1 kc ks) (hv : v0 = none) (hw : w1 = ws) (hd : decode cc pc = .ok (.return_, 1)) : J E g kc ks ws lv pc [] := by
  subst hv; subst hw
  obtain ⟨p, l, e, R, s, m, args, below, meth, c, Q, A⟩ := E
  obtain ⟨hx, hb, hml, hr, hown, hts, hK, hlk, hA, rfl, hN, hSt⟩ := hE
  intro H locs ls hP hD hS hL
  have hq : Q = MQ below (jQ g _ _ A) args s kc ks A := hq
  subst hq
  exact W.vret hx hb hr (fun t ht hW => ⟨rfl, by rw [ht]; exact hP, hS.F ht⟩) hS.2.2 hd hlk
theorem bz_nar {x : Int32} (h : x = 0 ∨ x = 1) : narrow .boolean (.int x) = .int x ∧ fits .boolean (.int x) = true := by
  rcases h with rfl | rfl <;> exact ⟨by decide +kernel, by decide +kernel⟩
theorem j_zret_c {v : Int32} {v0 : Option Value} {w1 : List va_W} (hE : jOk E g own cc nL (some .boolean) rm) (h1 : v = 0 ∨ v = 1) (hq : jEnd E g v0 w1 kc ks) (hv : v0 = some (.int v)) (hw : w1 = ws) (hd : decode cc pc = .ok (.ireturn, 1)) : J E g kc ks ws lv pc [.int v] := by
  subst hv; subst hw
  obtain ⟨p, l, e, R, s, m, args, below, meth, c, Q, A⟩ := E
  obtain ⟨hx, hb, hml, hr, hown, hts, hK, hlk, hA, rfl, hN, hSt⟩ := hE
  intro H locs ls hP hD hS hL
  have hq : Q = MQ below (jQ g _ _ A) args s kc ks A := hq
  subst hq
  exact W.zret hx hb hr (bz_nar h1).1 (fun t ht hW => ⟨rfl, by rw [ht]; exact hP, hS.F ht⟩) hS.2.2 hd hlk

theorem jGood {own : String} {y : MethodName} {bytes : ByteArray} {maxL : Nat} {ret : Option FieldType} (h : Cond.code y bytes maxL ret ∈ tb) : GoodIn tb (Cond.code y bytes maxL ret :: tb) := by
  intro w hw
  rcases List.mem_cons.mp hw with rfl | hw
  · exact ⟨h, tb_good _ h⟩
  · exact ⟨hw, tb_good _ hw⟩
def jRm (rm0 rm : Room) (maxL kc ks : Nat) : Prop := (rm.frames + 1 ≤ rm0.frames ∧ 8 + (maxL + 11) + rm.locals ≤ rm0.locals) ∧ (kc ≤ rm0.cells ∧ ks ≤ rm0.slots) ∧ rm.cells = 0 ∧ rm.slots = 0
def jCd (y : MethodName) (bytes : ByteArray) (maxL : Nat) (ret : Option FieldType) (n : Nat) : Prop := Cond.code y bytes maxL ret ∈ tb ∧ Cond.initialized y.cls ∈ tb ∧ (y.cls ≠ "java/lang/invoke/MethodHandle" ∧ y.cls ≠ "java/lang/invoke/VarHandle" ∧ (parseMethodDescriptor y.desc).map (fun d => d.parameters.length) = some n)
def jCv (y : MethodName) (ci : Nat) : Prop := Cond.instanceMethod y ∈ tb ∧ ∃ (T : u_T) (N : Nat), vwCl[ci]? = some (y.cls, T, N) ∧ Cond.selects y.cls y y ∈ tb
theorem jBl {g : jG} {av : List Value} {sz : Nat} {w0 : List va_W} : FrameBlind (va_Pc av (jPre g w0 sz)) := by
  intro a U f mk q
  obtain ⟨q0, q1, qP, qK, qD, qN, qS⟩ := q
  exact ⟨q0, q1, qP, va_K.moved (u := U) (U := U.calling f mk a) (Vm.Alike.refl U.vm) qK, qD, fun q hq => va_Nw.same rfl rfl (qN q hq), vk_S.moved (u := U) (U := U.calling f mk a) (Vm.Alike.refl U.vm) qS.1, vk_R.same rfl qS.2.1, vk_R.same rfl qS.2.2.1, vk_R.same rfl qS.2.2.2.1, va_Z.moved (u := U) (U := U.calling f mk a) (Vm.Alike.refl U.vm) qS.2.2.2.2.1, va_Zq.moved (u := U) (U := U.calling f mk a) (Vm.Alike.refl U.vm) qS.2.2.2.2.2⟩
theorem jSub {A : Nat → Prop} {g : jG} {s : State} {ws cs : List va_W} {H : Heap} {locs : List Loc} {is : List Nat} (hP : va_P g.1 vwCl ws.flatten H) (hD : va_D A ws.flatten) (hS : va_S A s.heap H locs) (hA : ∀ q, s.heap.size ≤ q → A q) (hC : is.map (fun i => ws[i]?) = cs.map some) (hn : va_nd is = true) :
    va_P g.1 vwCl cs.flatten H ∧ va_D (fun _ => True) cs.flatten ∧ ∀ q, va_A cs.flatten H.size q → A q := by
  refine ⟨sPof fun k w hk => ?_, sDof (fun i j a b w u p q hi hj ha hb e => ?_) (fun _ _ _ _ _ _ => trivial), fun q h => ?_⟩
  · obtain ⟨i, -, hi⟩ := sMap hC hk
    exact sP hP hi
  · obtain ⟨i', h1, h2⟩ := sMap hC hi
    obtain ⟨j', h3, h4⟩ := sMap hC hj
    obtain ⟨e1, e2⟩ := sDis hD h2 h4 ha hb e
    subst e1
    exact ⟨va_nd_inj is hn i j i' h1 h3, e2⟩
  · rcases h with ⟨k, e, h⟩ | h
    · obtain ⟨v, hv, hqv⟩ := List.mem_flatten.mp (List.mem_of_getElem? h)
      obtain ⟨b, hb⟩ := List.getElem?_of_mem hv
      obtain ⟨c, hc⟩ := List.getElem?_of_mem hqv
      obtain ⟨i, -, hi⟩ := sMap hC hb
      exact hD.2 _ (q, e) (sAt ws i c v _ hi hc)
    · exact hA q (Nat.le_trans hS.1 h)
theorem jRepl {A : Nat → Prop} {D : va_G} {ws cs c1 : List va_W} {H H1 : Heap} {is : List Nat} (hP : va_P D vwCl ws.flatten H) (hD : va_D A ws.flatten) (hC : is.map (fun i => ws[i]?) = cs.map some) (had : jAd c1 = jAd cs)
    (hk : ∀ q : Nat, q < H.size → ¬ va_A cs.flatten H.size q → H1[q]? = H[q]?) (hP1 : va_P D vwCl c1.flatten H1) : va_P D vwCl (sRep ws is c1).flatten H1 ∧ va_D A (sRep ws is c1).flatten := by
  have hlen : c1.length = cs.length := by simpa [jAd] using congrArg List.length had
  have hlen2 : cs.length = is.length := by simpa using (congrArg List.length hC).symm
  refine ⟨sPof fun k w hkw => ?_, sDad hD (jAd_flat (sRep_ad is ws c1 fun j i q hj hq => ?_))⟩
  · rcases sRep_get is ws c1 k w hkw with ⟨j, h1, h2⟩ | ⟨h1, h2⟩
    · exact sP hP1 h2
    · intro a p hp
      have hpa := sP hP h2 a p hp
      refine hpa.kept (hk p.1 hpa.lt fun h => ?_)
      rcases h with ⟨k2, e, h⟩ | h
      · obtain ⟨v, hv, hqv⟩ := List.mem_flatten.mp (List.mem_of_getElem? h)
        obtain ⟨b, hb⟩ := List.getElem?_of_mem hv
        obtain ⟨c, hc⟩ := List.getElem?_of_mem hqv
        obtain ⟨i, h3, hi⟩ := sMap hC hb
        obtain ⟨e1, -⟩ := sDis hD h2 hi hp hc rfl
        subst e1
        have h5 := h1 b h3
        have h6 : b < c1.length := by rw [hlen]; exact (List.getElem?_eq_some_iff.mp hb).1
        rw [List.getElem?_eq_getElem h6] at h5
        cases h5
      · have := hpa.lt; omega
  · have h1 : (jAd c1)[j]? = some (q.map Prod.fst) := by unfold jAd; rw [List.getElem?_map, hq]; rfl
    rw [had] at h1
    unfold jAd at h1
    rw [List.getElem?_map] at h1
    cases hc : cs[j]? with
    | none => rw [hc] at h1; cases h1
    | some u =>
      rw [hc] at h1
      obtain ⟨i', h2, h3⟩ := sMap hC hc
      rw [hj] at h2
      cases h2
      exact ⟨u, h3, (Option.some.inj h1).symm⟩
theorem j_goes {p : Program} {l : Launch} {e : Env} {R : Room} {s : State} {m : MethodId} {args : Array Value} {below : List Frame} {meth : Method} {c : Code} {Q : State → Prop} {A : Nat → Prop} {H : Heap} {locs : List Loc} {ls : Array Slot} {rest st2 : List Value} {v0 : Option Value} {cs c1 ws' : List va_W} {a : Array Value} {is : List Nat}
    (hr : va_Run p l e R s m args below meth c H locs kc ks 0 0 (F0 m pc ls st) rest (jQ g v0 c1 (va_A cs.flatten H.size) a) (va_A cs.flatten H.size)) (hP : va_P g.1 vwCl ws.flatten H) (hD : va_D A ws.flatten) (hS : va_S A s.heap H locs) (hF : ∀ q, va_A cs.flatten H.size q → A q) (hL : lv_has ls c.maxLocals lv)
    (hC : is.map (fun i => ws[i]?) = cs.map some) (had : jAd c1 = jAd cs) (hw : sRep ws is c1 = ws') (hs2 : v0.toList ++ rest = st2)
    (kk : J (p, l, e, R, s, m, args, below, meth, c, Q, A) g kc ks ws' lv (pc + 3) st2) : W p l e R s m args below meth c H locs kc ks Q (F0 m pc ls st) := by
  intro T hT X
  obtain ⟨v, st₀, t, T', L, h0, X', hLo, e1, e2, ⟨hv, hP1, hz, hk⟩, go⟩ := hr T hT X
  have hv : v = v0 := by injection hv
  subst hv
  subst hw
  subst hs2
  rw [h0] at hz hk
  rw [← e1] at hP1 hz hk
  obtain ⟨hP2, hD2⟩ := jRepl hP hD hC had hk hP1
  have hS2 : va_S A s.heap T'.heap (locs ++ L) := ⟨Nat.le_trans hS.1 hz, fun q h1 h2 => by rw [hk q (Nat.lt_of_lt_of_le h1 hS.1) (fun z => h2 (hF q z))]; exact hS.2.1 q h1 h2, fun q hq => by
    rcases List.mem_append.mp hq with h | h
    · exact hS.2.2 q h
    · exact hF _ (hLo q h)⟩
  obtain ⟨t2, a1, b1⟩ := kk T'.heap (locs ++ L) ls hP2 hD2 hS2 hL T' rfl X'
  exact ⟨t2, go t2 a1, b1⟩

theorem j_callV {y : MethodName} {bytes : ByteArray} {maxL : Nat} {ret2 : Option FieldType} {rm2 : Room} {n index : Nat} {As rest st2 : List Value} {v0 : Option Value} {wc w1 ws' : List va_W} {ci b : Nat} (hE : jOk E g own cc nL ret rm) (hM : ∀ l, MC l g y bytes maxL ret2 rm2 (.ref b :: As) wc v0 w1 0 0) (hc : jCd y bytes maxL ret2 n) (hv : jCv y ci) (hl : Cond.methodLink own index y ∈ tb) (hs : st = As.reverse ++ .ref b :: rest) (hlen : As.length = n) {w0 : va_W} {fs : List Value} (hq0 : wc[0]? = some w0) (hq : w0[0]? = some (b, .inr (ci, fs))) (hr0 : jRm rm rm2 maxL kc ks) (is : List Nat) (hC : is.map (fun i => ws[i]?) = wc.map some) (hn : va_nd is = true) (hw : sRep ws is w1 = ws') (hcat : (rest.map fun v => v.category).sum ≤ 8) (hs2 : v0.toList ++ rest = st2) (hd : decode cc pc = .ok (.invokevirtual index, 3)) (kk : J E g kc ks ws' lv (pc + 3) st2) : J E g kc ks ws lv pc st := by
  obtain ⟨p, l, e, R, s, m, args, below, meth, c, Q, A⟩ := E
  obtain ⟨hx, hb, hml, hr, hown, hts, hK, hlk, hA, rfl, hN, hSt⟩ := hE
  intro H locs ls hP hD hS hL
  obtain ⟨hPc, hDc, hF⟩ := jSub (s := s) hP hD hS hA hC hn
  obtain ⟨hcode, hini, hnm⟩ := hc
  obtain ⟨hinst, T0, N0, hcl, hsel⟩ := hv
  refine j_goes (va_runV (C := y.cls) (As := As) (rest := rest) (nL := nL) (Ts := tb) ⟨hx, hb, hml, hown, hts⟩ ((hM l).2 H.size) ⟨callB_of n hts (jGood (own := own) hcode) rfl hr0.2.2.1 hr0.2.2.2 (hts _ hini) (hts _ hl) hnm hr0.1, hts _ hinst, hts _ hsel⟩ ⟨jBl, va_recv hK (sP hPc hq0) (ci := ci) (q0 := 0) hcl hq, fun U hU hW => ⟨rfl, by rw [hU], by rw [hU]; exact hPc, va_K.moved hW.alike hK, hDc, hN.warm hW, by rw [hU]; exact hSt.to hW hS.2.1 hF⟩⟩ rfl hlen (by rw [← hml]; exact hL.1) hs (lv_room hcat) hd hr0.2.1) hP hD hS hF hL hC (hM l).1 hw hs2 kk

theorem j_callVN {host : String} {y : MethodName} {bytes : ByteArray} {maxL : Nat} {ret2 : Option FieldType} {rm2 : Room} {n index : Nat} {As rest st2 : List Value} {v0 : Option Value} {wc w1 ws' : List va_W} {ci b : Nat} (hE : jOk E g own cc nL ret rm) (hM : ∀ l, MC l g y bytes maxL ret2 rm2 (.ref b :: As) wc v0 w1 0 0) (hc : jCd y bytes maxL ret2 n) (hv : jCv y ci) (hl : (own, index, y, host) ∈ nwl) (hs : st = As.reverse ++ .ref b :: rest) (hlen : As.length = n) {w0 : va_W} {fs : List Value} (hq0 : wc[0]? = some w0) (hq : w0[0]? = some (b, .inr (ci, fs))) (hr0 : jRm rm rm2 maxL kc ks) (is : List Nat) (hC : is.map (fun i => ws[i]?) = wc.map some) (hn : va_nd is = true) (hw : sRep ws is w1 = ws') (hcat : (rest.map fun v => v.category).sum ≤ 8) (hs2 : v0.toList ++ rest = st2) (hd : decode cc pc = .ok (.invokevirtual index, 3)) (kk : J E g kc ks ws' lv (pc + 3) st2) : J E g kc ks ws lv pc st := by
  obtain ⟨p, l, e, R, s, m, args, below, meth, c, Q, A⟩ := E
  obtain ⟨hx, hb, hml, hr, hown, hts, hK, hlk, hA, rfl, hN, hSt⟩ := hE
  intro H locs ls hP hD hS hL
  obtain ⟨hPc, hDc, hF⟩ := jSub (s := s) hP hD hS hA hC hn
  obtain ⟨hcode, hini, hnm⟩ := hc
  obtain ⟨hinst, T0, N0, hcl, hsel⟩ := hv
  refine j_goes (va_runVN (C := y.cls) (host := host) (As := As) (rest := rest) (nL := nL) (Ts := tb) ⟨hx, hb, hml, hown, hts⟩ ((hM l).2 H.size) ⟨⟨⟨hr0.2.2.1, hr0.2.2.2, hr0.1.1, hr0.1.2, pay_in hts (jGood (own := own) hcode), List.mem_cons_self⟩, hts _ hcode, hts _ hini, ⟨hnm.1, hnm.2.1⟩, fun sig h => by have h2 := hnm.2.2; rw [h] at h2; exact (Option.some.inj h2).symm, va_Nw.use rfl (hN _ hl)⟩, hts _ hinst, hts _ hsel⟩ ⟨jBl, va_recv hK (sP hPc hq0) (ci := ci) (q0 := 0) hcl hq, fun U hU hW => ⟨rfl, by rw [hU], by rw [hU]; exact hPc, va_K.moved hW.alike hK, hDc, hN.warm hW, by rw [hU]; exact hSt.to hW hS.2.1 hF⟩⟩ rfl hlen (by rw [← hml]; exact hL.1) hs (lv_room hcat) hd hr0.2.1) hP hD hS hF hL hC (hM l).1 hw hs2 kk

theorem j_callS {y : MethodName} {bytes : ByteArray} {maxL : Nat} {ret2 : Option FieldType} {rm2 : Room} {n index : Nat} {As rest st2 : List Value} {v0 : Option Value} {wc w1 ws' : List va_W} (hE : jOk E g own cc nL ret rm) (hM : ∀ l, MC l g y bytes maxL ret2 rm2 As wc v0 w1 0 0) (hc : jCd y bytes maxL ret2 n) (hst : Cond.static y ∈ tb) (hl : Cond.methodLink own index y ∈ tb) (hs : st = As.reverse ++ rest) (hlen : As.length = n) (hr0 : jRm rm rm2 maxL kc ks) (is : List Nat) (hC : is.map (fun i => ws[i]?) = wc.map some) (hn : va_nd is = true) (hw : sRep ws is w1 = ws') (hcat : (rest.map fun v => v.category).sum ≤ 8) (hs2 : v0.toList ++ rest = st2) (hd : decode cc pc = .ok (.invokestatic index, 3)) (kk : J E g kc ks ws' lv (pc + 3) st2) : J E g kc ks ws lv pc st := by
  obtain ⟨p, l, e, R, s, m, args, below, meth, c, Q, A⟩ := E
  obtain ⟨hx, hb, hml, hr, hown, hts, hK, hlk, hA, rfl, hN, hSt⟩ := hE
  intro H locs ls hP hD hS hL
  obtain ⟨hPc, hDc, hF⟩ := jSub (s := s) hP hD hS hA hC hn
  obtain ⟨hcode, hini, hnm⟩ := hc
  refine j_goes (va_runS (As := As) (rest := rest) (nL := nL) (Ts := tb) ⟨hx, hb, hml, hown, hts⟩ ((hM l).2 H.size) ⟨callB_of n hts (jGood (own := own) hcode) rfl hr0.2.2.1 hr0.2.2.2 (hts _ hini) (hts _ hl) hnm hr0.1, hts _ hst⟩ ⟨jBl, fun U hU hW => ⟨rfl, by rw [hU], by rw [hU]; exact hPc, va_K.moved hW.alike hK, hDc, hN.warm hW, by rw [hU]; exact hSt.to hW hS.2.1 hF⟩⟩ rfl hlen (by rw [← hml]; exact hL.1) hs (lv_room hcat) hd hr0.2.1) hP hD hS hF hL hC (hM l).1 hw hs2 kk

theorem j_callSN {host : String} {y : MethodName} {bytes : ByteArray} {maxL : Nat} {ret2 : Option FieldType} {rm2 : Room} {n index : Nat} {As rest st2 : List Value} {v0 : Option Value} {wc w1 ws' : List va_W} (hE : jOk E g own cc nL ret rm) (hM : ∀ l, MC l g y bytes maxL ret2 rm2 As wc v0 w1 0 0) (hc : jCd y bytes maxL ret2 n) (hst : Cond.static y ∈ tb) (hl : (own, index, y, host) ∈ nwl) (hs : st = As.reverse ++ rest) (hlen : As.length = n) (hr0 : jRm rm rm2 maxL kc ks) (is : List Nat) (hC : is.map (fun i => ws[i]?) = wc.map some) (hn : va_nd is = true) (hw : sRep ws is w1 = ws') (hcat : (rest.map fun v => v.category).sum ≤ 8) (hs2 : v0.toList ++ rest = st2) (hd : decode cc pc = .ok (.invokestatic index, 3)) (kk : J E g kc ks ws' lv (pc + 3) st2) : J E g kc ks ws lv pc st := by
  obtain ⟨p, l, e, R, s, m, args, below, meth, c, Q, A⟩ := E
  obtain ⟨hx, hb, hml, hr, hown, hts, hK, hlk, hA, rfl, hN, hSt⟩ := hE
  intro H locs ls hP hD hS hL
  obtain ⟨hPc, hDc, hF⟩ := jSub (s := s) hP hD hS hA hC hn
  obtain ⟨hcode, hini, hnm⟩ := hc
  refine j_goes (va_runSN (host := host) (As := As) (rest := rest) (nL := nL) (Ts := tb) ⟨hx, hb, hml, hown, hts⟩ ((hM l).2 H.size) ⟨⟨⟨hr0.2.2.1, hr0.2.2.2, hr0.1.1, hr0.1.2, pay_in hts (jGood (own := own) hcode), List.mem_cons_self⟩, hts _ hcode, hts _ hini, ⟨hnm.1, hnm.2.1⟩, fun sig h => by have h2 := hnm.2.2; rw [h] at h2; exact (Option.some.inj h2).symm, va_Nw.use rfl (hN _ hl)⟩, hts _ hst, trivial⟩ ⟨jBl, fun U hU hW => ⟨rfl, by rw [hU], by rw [hU]; exact hPc, va_K.moved hW.alike hK, hDc, hN.warm hW, by rw [hU]; exact hSt.to hW hS.2.1 hF⟩⟩ rfl hlen (by rw [← hml]; exact hL.1) hs (lv_room hcat) hd hr0.2.1) hP hD hS hF hL hC (hM l).1 hw hs2 kk

def jM_mmax : Prop := Cond.static Lib.Math.max.name ∈ tb ∧ Cond.initialized "java/lang/Math" ∈ tb ∧ Cond.code Lib.Math.max.name Lib.Math.max.code 2 (some .int) ∈ tb
theorem j_mmax {index : Nat} {x y : Int32} (hE : jOk E g own cc nL ret rm) (hm : jM_mmax) (hl : Cond.methodLink own index Lib.Math.max.name ∈ tb) (hr0 : (1 ≤ rm.frames ∧ (st.map fun v => v.category).sum + 13 ≤ rm.locals) ∧ kc ≤ rm.cells ∧ ks ≤ rm.slots) (hd : decode cc pc = .ok (.invokestatic index, 3)) (kk : J E g kc ks ws lv (pc + 3) (.int (if x < y then y else x) :: st)) : J E g kc ks ws lv pc (.int y :: .int x :: st) := by
  obtain ⟨p, l, e, R, s, m, args, below, meth, c, Q, A⟩ := E
  obtain ⟨hx, hb, hml, hr, hown, hts, hK, hlk, hA, rfl, hN, hSt⟩ := hE
  intro H locs ls hP hD hS hL
  exact va_mmax hx hb hL.1.symm hown (hts _ hl) (hts _ hm.1) (hts _ hm.2.1) (hts _ hm.2.2) hr0.1.1 hr0.1.2 hr0.2.1 hr0.2.2 hd (kk H locs ls hP hD hS hL)

def jM_mmin : Prop := Cond.static Lib.Math.min.name ∈ tb ∧ Cond.initialized "java/lang/Math" ∈ tb ∧ Cond.code Lib.Math.min.name Lib.Math.min.code 2 (some .int) ∈ tb
theorem j_mmin {index : Nat} {x y : Int32} (hE : jOk E g own cc nL ret rm) (hm : jM_mmin) (hl : Cond.methodLink own index Lib.Math.min.name ∈ tb) (hr0 : (1 ≤ rm.frames ∧ (st.map fun v => v.category).sum + 13 ≤ rm.locals) ∧ kc ≤ rm.cells ∧ ks ≤ rm.slots) (hd : decode cc pc = .ok (.invokestatic index, 3)) (kk : J E g kc ks ws lv (pc + 3) (.int (if y < x then y else x) :: st)) : J E g kc ks ws lv pc (.int y :: .int x :: st) := by
  obtain ⟨p, l, e, R, s, m, args, below, meth, c, Q, A⟩ := E
  obtain ⟨hx, hb, hml, hr, hown, hts, hK, hlk, hA, rfl, hN, hSt⟩ := hE
  intro H locs ls hP hD hS hL
  exact va_mmin hx hb hL.1.symm hown (hts _ hl) (hts _ hm.1) (hts _ hm.2.1) (hts _ hm.2.2) hr0.1.1 hr0.1.2 hr0.2.1 hr0.2.2 hd (kk H locs ls hP hD hS hL)

def jM_labs : Prop := Cond.static Lib.MathLoose.abs_long.x ∈ tb ∧ Cond.initialized "java/lang/Math" ∈ tb ∧ Cond.code Lib.MathLoose.abs_long.x Lib.MathLoose.abs_long.code 2 (some .long) ∈ tb
theorem j_labs {index : Nat} {x : Int64} (hE : jOk E g own cc nL ret rm) (hm : jM_labs) (hl : Cond.methodLink own index Lib.MathLoose.abs_long.x ∈ tb) (hr0 : (1 ≤ rm.frames ∧ (st.map fun v => v.category).sum + 13 ≤ rm.locals) ∧ kc ≤ rm.cells ∧ ks ≤ rm.slots) (hd : decode cc pc = .ok (.invokestatic index, 3)) (kk : J E g kc ks ws lv (pc + 3) (.long (if 0 < x then x else -x) :: st)) : J E g kc ks ws lv pc (.long x :: st) := by
  obtain ⟨p, l, e, R, s, m, args, below, meth, c, Q, A⟩ := E
  obtain ⟨hx, hb, hml, hr, hown, hts, hK, hlk, hA, rfl, hN, hSt⟩ := hE
  intro H locs ls hP hD hS hL
  exact va_mabs_long hx hb hL.1.symm hown (hts _ hl) (hts _ hm.1) (hts _ hm.2.1) (hts _ hm.2.2) hr0.1.1 hr0.1.2 hr0.2.1 hr0.2.2 hd (kk H locs ls hP hD hS hL)

end JR
