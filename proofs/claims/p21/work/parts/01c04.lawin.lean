theorem li_X50 : ∀ w ∈ wsX50, w ∈ lw_tbl := by decide +kernel
theorem li_X20 : ∀ w ∈ wsX20, w ∈ lw_tbl := by decide +kernel
theorem li_X00 : ∀ w ∈ wsX00, w ∈ lw_tbl := by decide +kernel
theorem li_X10 : ∀ w ∈ wsX10, w ∈ lw_tbl := by decide +kernel
