theorem kfX4_9 : Cond.fieldLink RX4 9 "FigurePress$Natural" "limbs" "[J" ∈ WT := wtT 140 (by decide +kernel) rfl
theorem kfX4_15 : Cond.fieldLink RX4 15 "FigurePress$Natural" "size" "I" ∈ WT := wtT 141 (by decide +kernel) rfl
theorem kcX4_13 : Cond.constantLong RX4 13 (4294967295) ∈ WT := wtT 464 (by decide +kernel) rfl
theorem kmX4_19 : Cond.methodLink RX4 19 yX4_trim ∈ WT := wtT 465 (by decide +kernel) rfl
theorem mwX4_trim : MWords yX4_trim cX4_trim 1 none 0 := ⟨wtT 5 (by decide +kernel) rfl, wtT 468 (by decide +kernel) rfl, by decide +kernel⟩
theorem miX4_trim : Cond.instanceMethod yX4_trim ∈ WT ∧ Cond.selects yX4_trim.cls yX4_trim yX4_trim ∈ WT := ⟨wtT 467 (by decide +kernel) rfl, wtP 3 (by decide +kernel) rfl⟩
theorem uwX4 : ∀ w ∈ u_ws RX4 TX4 2, w ∈ WT := wt_all [142, 144] (by decide +kernel) (by decide +kernel)
