theorem lwm_56 : ∀ w ∈ wsX00, w ∈ lw_tbl := by decide +kernel
theorem lwm_57 : ∀ w ∈ wsX40, w ∈ lw_tbl := by decide +kernel
theorem lwm_58 : ∀ w ∈ wsX60, w ∈ lw_tbl := by decide +kernel
theorem lwm_59 : ∀ w ∈ wsX50, w ∈ lw_tbl := by decide +kernel
theorem lwm_60 : ∀ w ∈ ([] : List Cond), w ∈ lw_tbl := by decide +kernel
