/-! The words of the law are the tables' -/
theorem zinX11 : ∀ w ∈ wsX110, w ∈ lw_tbl := by decide +kernel
theorem zinX12 : ∀ w ∈ wsX120, w ∈ lw_tbl := by decide +kernel
theorem zinX10 : ∀ w ∈ wsX100, w ∈ lw_tbl := by decide +kernel
theorem zinX1 : ∀ w ∈ wsX10, w ∈ lw_tbl := by decide +kernel
theorem zinX3 : ∀ w ∈ wsX30, w ∈ lw_tbl := by decide +kernel
theorem zinX6 : ∀ w ∈ wsX60, w ∈ lw_tbl := by decide +kernel
theorem zinX8 : ∀ w ∈ wsX80, w ∈ lw_tbl := by decide +kernel
theorem zinX9 : ∀ w ∈ wsX90, w ∈ lw_tbl := by decide +kernel
theorem zinX4 : ∀ w ∈ wsX40, w ∈ lw_tbl := by decide +kernel
theorem zinX0 : ∀ w ∈ wsX00, w ∈ lw_tbl := by decide +kernel
theorem zinX5 : ∀ w ∈ wsX50, w ∈ lw_tbl := by decide +kernel
theorem zinX7 : ∀ w ∈ wsX70, w ∈ lw_tbl := by decide +kernel
theorem zinX2 : ∀ w ∈ wsX20, w ∈ lw_tbl := by decide +kernel
