abbrev IOB : String := "java/lang/IndexOutOfBoundsException"
abbrev NSE : String := "java/util/NoSuchElementException"
abbrev exN : List String := ["java/lang/RuntimeException", "java/lang/Exception"]
/-- what throwing needs beside the tables' good words -/
def jX (A : Nat → Prop) (U : State) (H : Heap) : Prop := vx_Zq Bundle.tN "UNASSIGNED_STACK" Bundle.steD A U H ∧ vx_Zq Bundle.tN "SUPPRESSED_SENTINEL" Bundle.listD A U H ∧ (va_Nw (.castable IOB IOB) U ∧ va_Nw (.castable NSE NSE) U) ∧ (va_Nw (.declares (Bundle.initS "java/lang/RuntimeException")) U ∧ va_Nw (.declares (Bundle.initS "java/lang/Exception")) U ∧ va_Nw (.declares (Bundle.initS Bundle.tN)) U) ∧ va_Nc NSE IOB U
theorem jX.to {A B : Nat → Prop} {s U : State} {H : Heap} (h : jX A s s.heap) (hW : s.WarmedH U.vm) (hq : ∀ a : Nat, a < s.heap.size → ¬ A a → H[a]? = s.heap[a]?) (hAB : ∀ q, B q → A q) : jX B U H :=
  ⟨((h.1.kept hq).moved hW.alike).narrow hAB, ((h.2.1.kept hq).moved hW.alike).narrow hAB, ⟨va_Nw.warmC hW h.2.2.1.1, va_Nw.warmC hW h.2.2.1.2⟩, ⟨va_Nw.warmD hW h.2.2.2.1.1, va_Nw.warmD hW h.2.2.2.1.2.1, va_Nw.warmD hW h.2.2.2.1.2.2⟩, va_Nc.moved hW.alike h.2.2.2.2⟩
theorem lx_0 : ∀ w ∈ (vx_atS RX11 122 IOB exN).filter goodWord, w ∈ lw_tbl := by decide +kernel
theorem lx_t {L : List Cond} (h : ∀ w ∈ L.filter goodWord, w ∈ lw_tbl) : ∀ w ∈ L.filter goodWord, w ∈ tb := fun w hw => tb_in (h w hw) (List.mem_filter.mp hw).2
theorem lx_b0 : ∀ w ∈ (vx_atS RX11 122 IOB exN).filter (fun w => !goodWord w), w ∈ [Cond.castable IOB IOB, .declares (Bundle.initS "java/lang/RuntimeException"), .declares (Bundle.initS "java/lang/Exception"), .declares (Bundle.initS Bundle.tN)] := by decide +kernel
theorem lx_o0 : ∀ w ∈ Cond.classLink RX11 118 IOB :: Cond.initialized IOB :: vx_atS RX11 122 IOB exN, vx_ot w = true := by decide +kernel
theorem lx_k0 : Cond.classLink RX11 118 IOB ∈ lw_tbl := by decide +kernel
theorem lx_k1 : Cond.classLink RX11 144 NSE ∈ lw_tbl := by decide +kernel
theorem lx_i0 : Cond.initialized IOB ∈ lw_tbl := by decide +kernel
theorem lx_i1 : Cond.initialized NSE ∈ lw_tbl := by decide +kernel
