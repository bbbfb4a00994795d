def tmS (i : Nat) : Term := [Term.string "WorstPlaces" 120, Term.string "WorstPlaces" 146, Term.string "WorstPlacesModel" 129].getD i (Term.string "WorstPlaces" 120)
abbrev gvn : List Cond := flatC (Jvm.Cond.and given_1 narrow_1)
theorem st_s1 : ∀ i, i < 3 → Cond.exactly (tmS i) "java/lang/String" ∈ gvn := by decide +kernel
theorem st_s2 : ∀ i, i < 3 → Cond.eq (.field (tmS i) "java/lang/String" "coder" "B") (.int 0) ∈ gvn := by decide +kernel
theorem st_s3 : ∀ i, i < 3 → Cond.arrayOf (.field (tmS i) "java/lang/String" "value" "[B") .byte ∈ gvn := by decide +kernel
theorem st_s4 : ∀ i, i < 3 → Cond.eq (.length (.field (tmS i) "java/lang/String" "value" "[B")) (.int (Int32.ofNat (strL.getD i 0))) ∈ gvn := by decide +kernel
theorem st_s5 : ∀ i, i < 3 → ∀ j, j < strL.getD i 0 → Cond.eq (.elem (.field (tmS i) "java/lang/String" "value" "[B") (.int (Int32.ofNat j))) (.int ((strB.getD i []).getD j 0)) ∈ gvn := by decide +kernel
theorem st_s6 : ∀ i, i < 3 → ∀ j, j < 3 → i ≠ j → Cond.not (Cond.eq (tmS i) (tmS j)) ∈ gvn ∨ Cond.not (Cond.eq (tmS j) (tmS i)) ∈ gvn := by decide +kernel
