theorem zz_len : lw_tbl.length = 1 := by decide +kernel
theorem zz_bad : (lw_tbl.filter (fun w => !goodWord w)).length = 1 := by decide +kernel
theorem i_vc : Claimed_1_1 ∧ Claimed_1_2 := sorry
