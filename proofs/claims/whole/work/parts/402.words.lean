/-! the words of the law are the tables' -/
set_option maxRecDepth 100000 in
theorem in_W0_0 : ∀ w ∈ W0_0, w ∈ lw_tbl := by decide +kernel
set_option maxRecDepth 100000 in
theorem in_W0_1 : ∀ w ∈ W0_1, w ∈ lw_tbl := by decide +kernel
set_option maxRecDepth 100000 in
theorem in_W0_2 : ∀ w ∈ W0_2, w ∈ lw_tbl := by decide +kernel
set_option maxRecDepth 100000 in
theorem in_W0_3 : ∀ w ∈ W0_3, w ∈ lw_tbl := by decide +kernel
set_option maxRecDepth 100000 in
theorem in_W0_4 : ∀ w ∈ W0_4, w ∈ lw_tbl := by decide +kernel
set_option maxRecDepth 100000 in
theorem in_W0_5 : ∀ w ∈ W0_5, w ∈ lw_tbl := by decide +kernel
set_option maxRecDepth 100000 in
theorem in_W0_6 : ∀ w ∈ W0_6, w ∈ lw_tbl := by decide +kernel
set_option maxRecDepth 100000 in
theorem in_W0_7 : ∀ w ∈ W0_7, w ∈ lw_tbl := by decide +kernel
set_option maxRecDepth 100000 in
theorem in_W0_8 : ∀ w ∈ W0_8, w ∈ lw_tbl := by decide +kernel
set_option maxRecDepth 100000 in
theorem in_W0_9 : ∀ w ∈ W0_9, w ∈ lw_tbl := by decide +kernel
set_option maxRecDepth 100000 in
theorem in_W0_10 : ∀ w ∈ W0_10, w ∈ lw_tbl := by decide +kernel
set_option maxRecDepth 100000 in
theorem in_W0_11 : ∀ w ∈ W0_11, w ∈ lw_tbl := by decide +kernel
set_option maxRecDepth 100000 in
theorem in_W0_12 : ∀ w ∈ W0_12, w ∈ lw_tbl := by decide +kernel
set_option maxRecDepth 100000 in
theorem in_W0_13 : ∀ w ∈ W0_13, w ∈ lw_tbl := by decide +kernel
set_option maxRecDepth 100000 in
theorem in_W0_14 : ∀ w ∈ W0_14, w ∈ lw_tbl := by decide +kernel
set_option maxRecDepth 100000 in
theorem in_W0_15 : ∀ w ∈ W0_15, w ∈ lw_tbl := by decide +kernel
set_option maxRecDepth 100000 in
theorem in_W0_16 : ∀ w ∈ W0_16, w ∈ lw_tbl := by decide +kernel
set_option maxRecDepth 100000 in
theorem in_W0_17 : ∀ w ∈ W0_17, w ∈ lw_tbl := by decide +kernel
set_option maxRecDepth 100000 in
theorem in_W0_18 : ∀ w ∈ W0_18, w ∈ lw_tbl := by decide +kernel
set_option maxRecDepth 100000 in
theorem in_W0_19 : ∀ w ∈ W0_19, w ∈ lw_tbl := by decide +kernel
set_option maxRecDepth 100000 in
theorem in_W0_20 : ∀ w ∈ W0_20, w ∈ lw_tbl := by decide +kernel
set_option maxRecDepth 100000 in
theorem in_W0_21 : ∀ w ∈ W0_21, w ∈ lw_tbl := by decide +kernel
set_option maxRecDepth 100000 in
theorem in_W0_22 : ∀ w ∈ W0_22, w ∈ lw_tbl := by decide +kernel
set_option maxRecDepth 100000 in
theorem in_W0_23 : ∀ w ∈ W0_23, w ∈ lw_tbl := by decide +kernel
set_option maxRecDepth 100000 in
theorem in_W0_24 : ∀ w ∈ W0_24, w ∈ lw_tbl := by decide +kernel
set_option maxRecDepth 100000 in
theorem in_W0_25 : ∀ w ∈ W0_25, w ∈ lw_tbl := by decide +kernel
set_option maxRecDepth 100000 in
theorem in_W0_26 : ∀ w ∈ W0_26, w ∈ lw_tbl := by decide +kernel
set_option maxRecDepth 100000 in
theorem in_W0_27 : ∀ w ∈ W0_27, w ∈ lw_tbl := by decide +kernel
set_option maxRecDepth 100000 in
theorem in_W0_28 : ∀ w ∈ W0_28, w ∈ lw_tbl := by decide +kernel
set_option maxRecDepth 100000 in
theorem in_W0_29 : ∀ w ∈ W0_29, w ∈ lw_tbl := by decide +kernel
set_option maxRecDepth 100000 in
theorem in_W0_30 : ∀ w ∈ W0_30, w ∈ lw_tbl := by decide +kernel
set_option maxRecDepth 100000 in
theorem in_W0_31 : ∀ w ∈ W0_31, w ∈ lw_tbl := by decide +kernel
set_option maxRecDepth 100000 in
theorem in_W0_32 : ∀ w ∈ W0_32, w ∈ lw_tbl := by decide +kernel
set_option maxRecDepth 100000 in
theorem in_W0_33 : ∀ w ∈ W0_33, w ∈ lw_tbl := by decide +kernel
set_option maxRecDepth 100000 in
theorem in_W0_34 : ∀ w ∈ W0_34, w ∈ lw_tbl := by decide +kernel
set_option maxRecDepth 100000 in
theorem in_W0_35 : ∀ w ∈ W0_35, w ∈ lw_tbl := by decide +kernel
set_option maxRecDepth 100000 in
theorem in_W0_36 : ∀ w ∈ W0_36, w ∈ lw_tbl := by decide +kernel
set_option maxRecDepth 100000 in
theorem in_W0_37 : ∀ w ∈ W0_37, w ∈ lw_tbl := by decide +kernel
set_option maxRecDepth 100000 in
theorem in_W0_38 : ∀ w ∈ W0_38, w ∈ lw_tbl := by decide +kernel
set_option maxRecDepth 100000 in
theorem in_W0_39 : ∀ w ∈ W0_39, w ∈ lw_tbl := by decide +kernel
set_option maxRecDepth 100000 in
theorem in_W0_40 : ∀ w ∈ W0_40, w ∈ lw_tbl := by decide +kernel
set_option maxRecDepth 100000 in
theorem in_W0_41 : ∀ w ∈ W0_41, w ∈ lw_tbl := by decide +kernel
set_option maxRecDepth 100000 in
theorem in_W0_42 : ∀ w ∈ W0_42, w ∈ lw_tbl := by decide +kernel
set_option maxRecDepth 100000 in
theorem in_wsX00 : ∀ w ∈ wsX00, w ∈ lw_tbl := by decide +kernel
set_option maxRecDepth 100000 in
theorem in_wsX10 : ∀ w ∈ wsX10, w ∈ lw_tbl := by decide +kernel
set_option maxRecDepth 100000 in
theorem in_wsX20 : ∀ w ∈ wsX20, w ∈ lw_tbl := by decide +kernel
set_option maxRecDepth 100000 in
theorem in_wsX40 : ∀ w ∈ wsX40, w ∈ lw_tbl := by decide +kernel
set_option maxRecDepth 100000 in
theorem in_wsX50 : ∀ w ∈ wsX50, w ∈ lw_tbl := by decide +kernel
set_option maxRecDepth 100000 in
theorem in_wsX60 : ∀ w ∈ wsX60, w ∈ lw_tbl := by decide +kernel
set_option maxRecDepth 100000 in
theorem in_wsX70 : ∀ w ∈ wsX70, w ∈ lw_tbl := by decide +kernel
set_option maxRecDepth 100000 in
theorem in_wsX80 : ∀ w ∈ wsX80, w ∈ lw_tbl := by decide +kernel
set_option maxRecDepth 100000 in
theorem in_wsX90 : ∀ w ∈ wsX90, w ∈ lw_tbl := by decide +kernel
set_option maxRecDepth 100000 in
theorem in_wsX100 : ∀ w ∈ wsX100, w ∈ lw_tbl := by decide +kernel
set_option maxRecDepth 100000 in
theorem in_wsX110 : ∀ w ∈ wsX110, w ∈ lw_tbl := by decide +kernel
set_option maxRecDepth 100000 in
theorem in_W0x_0 : ∀ w ∈ W0x_0, w ∈ lw_tbl := by decide +kernel
set_option maxRecDepth 100000 in
theorem in_W0x_1 : ∀ w ∈ W0x_1, w ∈ lw_tbl := by decide +kernel
set_option maxRecDepth 100000 in
theorem in_W0x_2 : ∀ w ∈ W0x_2, w ∈ lw_tbl := by decide +kernel
set_option maxRecDepth 100000 in
theorem in_W0x_3 : ∀ w ∈ W0x_3, w ∈ lw_tbl := by decide +kernel
set_option maxRecDepth 100000 in
theorem in_W0x_4 : ∀ w ∈ W0x_4, w ∈ lw_tbl := by decide +kernel
set_option maxRecDepth 100000 in
theorem in_W0x_5 : ∀ w ∈ W0x_5, w ∈ lw_tbl := by decide +kernel
theorem W0s_in : ∀ c ∈ W0s, ∀ w ∈ c, w ∈ lw_tbl := by
  intro c hc
  simp only [W0s, List.mem_cons, List.not_mem_nil, or_false] at hc
  rcases hc with rfl | rfl | rfl | rfl | rfl | rfl | rfl | rfl | rfl | rfl | rfl | rfl | rfl | rfl | rfl | rfl | rfl | rfl | rfl | rfl | rfl | rfl | rfl | rfl | rfl | rfl | rfl | rfl | rfl | rfl | rfl | rfl | rfl | rfl | rfl | rfl | rfl | rfl | rfl | rfl | rfl | rfl | rfl | rfl | rfl | rfl | rfl | rfl | rfl | rfl | rfl | rfl | rfl | rfl | rfl | rfl | rfl | rfl | rfl | rfl
  · exact in_W0_0
  · exact in_W0_1
  · exact in_W0_2
  · exact in_W0_3
  · exact in_W0_4
  · exact in_W0_5
  · exact in_W0_6
  · exact in_W0_7
  · exact in_W0_8
  · exact in_W0_9
  · exact in_W0_10
  · exact in_W0_11
  · exact in_W0_12
  · exact in_W0_13
  · exact in_W0_14
  · exact in_W0_15
  · exact in_W0_16
  · exact in_W0_17
  · exact in_W0_18
  · exact in_W0_19
  · exact in_W0_20
  · exact in_W0_21
  · exact in_W0_22
  · exact in_W0_23
  · exact in_W0_24
  · exact in_W0_25
  · exact in_W0_26
  · exact in_W0_27
  · exact in_W0_28
  · exact in_W0_29
  · exact in_W0_30
  · exact in_W0_31
  · exact in_W0_32
  · exact in_W0_33
  · exact in_W0_34
  · exact in_W0_35
  · exact in_W0_36
  · exact in_W0_37
  · exact in_W0_38
  · exact in_W0_39
  · exact in_W0_40
  · exact in_W0_41
  · exact in_W0_42
  · exact in_wsX00
  · exact in_wsX10
  · exact in_wsX20
  · exact in_wsX40
  · exact in_wsX50
  · exact in_wsX60
  · exact in_wsX70
  · exact in_wsX80
  · exact in_wsX90
  · exact in_wsX100
  · exact in_wsX110
  · exact in_W0x_0
  · exact in_W0x_1
  · exact in_W0x_2
  · exact in_W0x_3
  · exact in_W0x_4
  · exact in_W0x_5
