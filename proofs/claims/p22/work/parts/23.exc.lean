theorem tx1 : (vx_atS RX3 98 "java/lang/IndexOutOfBoundsException" ["java/lang/RuntimeException", "java/lang/Exception"]).all (fun w => decide (w ∈ lw_tbl) && (goodWord w || isNW w)) = true := by decide +kernel
theorem tx2 : (vx_atS RX3 98 "java/lang/IndexOutOfBoundsException" ["java/lang/RuntimeException", "java/lang/Exception"]).all (fun w => decide (w ∈ lw_tbl)) = true := by decide +kernel
theorem tx3 : (vx_atS RX3 98 "java/lang/IndexOutOfBoundsException" ["java/lang/RuntimeException", "java/lang/Exception"]).all (fun w => vx_ot w) = true := by decide +kernel
theorem tx4 : (vx_atS RX3 98 "java/lang/IndexOutOfBoundsException" ["java/lang/RuntimeException", "java/lang/Exception"]).filter (fun w => !(goodWord w || isNW w)) = [] := by decide +kernel
