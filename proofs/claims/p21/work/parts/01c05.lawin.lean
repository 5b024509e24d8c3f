theorem li_X40 : ∀ w ∈ wsX40, w ∈ lw_tbl := by decide +kernel
theorem li_X30 : ∀ w ∈ wsX30, w ∈ lw_tbl := by decide +kernel
