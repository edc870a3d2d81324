theorem st_ex : ∀ i, i < zt_sl.length → Cond.exactly (zt_tm i) "java/lang/String" ∈ st_N1 := by decide +kernel
theorem st_co : ∀ i, i < zt_sl.length → Cond.eq (.field (zt_tm i) "java/lang/String" "coder" "B") (.int 0) ∈ st_N1 := by decide +kernel
theorem st_ar : ∀ i, i < zt_sl.length → Cond.arrayOf (.field (zt_tm i) "java/lang/String" "value" "[B") .byte ∈ st_N1 := by decide +kernel
theorem st_le : ∀ i, i < zt_sl.length → Cond.eq (.length (.field (zt_tm i) "java/lang/String" "value" "[B")) (.int (Int32.ofNat (zt_sl.getD i 0))) ∈ st_N1 := by decide +kernel
theorem st_nc : ∀ i, i < 4 → ∀ j, j < 4 → i ≠ j → Cond.not (Cond.castable (x_xs.getD i "") (x_xs.getD j "")) ∈ st_N1 := by decide +kernel
theorem st_r1 : x_r1 ∈ st_N1 ∧ x_r2 ∈ st_N1 ∧ Cond.isRef (.static "jdk/internal/util/Preconditions" "SIOOBE_FORMATTER" "Ljava/util/function/BiFunction;") ∈ st_N1 ∧ Cond.eq (.static "java/lang/String" "COMPACT_STRINGS" "Z") (.int 1) ∈ st_N1 := by decide +kernel
theorem st_el : ∀ i, i < zt_sl.length → ∀ j, j < zt_sl.getD i 0 → Cond.eq (.elem (.field (zt_tm i) "java/lang/String" "value" "[B") (.int (Int32.ofNat j))) (.int ((zt_sb.getD i []).getD j 0)) ∈ st_N1 := by decide +kernel
