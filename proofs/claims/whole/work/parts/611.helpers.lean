/-! PURE FACTS, 26: the law's helpers -/
theorem L_addSheet_0 {x1 : Int32} {x2 : Int32} {x3 : Int32} {v : Int32} {σ τ : St} (h : f_X10_addSheet x1 x2 x3 σ = some (.inr (v, τ))) : f_L_addSheet x1 x2 x3 σ = some (nI 0, up τ 122 0 v) := by
  unfold f_L_addSheet f_L_addSheet_0
  rw [h]
  rfl
theorem L_addSheet_1 {x1 : Int32} {x2 : Int32} {x3 : Int32} {σ τ : St} (h : f_X10_addSheet x1 x2 x3 σ = some (.inl ("java/lang/IllegalArgumentException", τ))) : f_L_addSheet x1 x2 x3 σ = some (nI 1, τ) := by
  unfold f_L_addSheet f_L_addSheet_0
  rw [h]
  simp only [bind_s, sum_l]
  rw [if_pos trivial]
  rfl
theorem L_addSheet_2 {x1 : Int32} {x2 : Int32} {x3 : Int32} {σ τ : St} (h : f_X10_addSheet x1 x2 x3 σ = some (.inl ("java/lang/IllegalStateException", τ))) : f_L_addSheet x1 x2 x3 σ = some (nI 2, τ) := by
  unfold f_L_addSheet f_L_addSheet_0
  rw [h]
  simp only [bind_s, sum_l]
  rw [if_neg (by decide)]
  rw [if_pos trivial]
  rfl
theorem L_addShape_0 {x1 : Int32} {x2 : Int32} {x3 : Int32} {x4 : Int32} {x5 : Int32} {v : Int32} {σ τ : St} (h : f_X10_addShape x1 x2 x3 x4 x5 σ = some (.inr (v, τ))) : f_L_addShape x1 x2 x3 x4 x5 σ = some (nI 0, up τ 122 0 v) := by
  unfold f_L_addShape f_L_addShape_0
  rw [h]
  rfl
theorem L_addShape_1 {x1 : Int32} {x2 : Int32} {x3 : Int32} {x4 : Int32} {x5 : Int32} {σ τ : St} (h : f_X10_addShape x1 x2 x3 x4 x5 σ = some (.inl ("java/lang/IllegalArgumentException", τ))) : f_L_addShape x1 x2 x3 x4 x5 σ = some (nI 1, τ) := by
  unfold f_L_addShape f_L_addShape_0
  rw [h]
  simp only [bind_s, sum_l]
  rw [if_pos trivial]
  rfl
theorem L_addShape_2 {x1 : Int32} {x2 : Int32} {x3 : Int32} {x4 : Int32} {x5 : Int32} {σ τ : St} (h : f_X10_addShape x1 x2 x3 x4 x5 σ = some (.inl ("java/lang/IllegalStateException", τ))) : f_L_addShape x1 x2 x3 x4 x5 σ = some (nI 2, τ) := by
  unfold f_L_addShape f_L_addShape_0
  rw [h]
  simp only [bind_s, sum_l]
  rw [if_neg (by decide)]
  rw [if_pos trivial]
  rfl
theorem L_spoil_0 {x1 : Int32} {x2 : Int32} {v : Int32} {σ τ : St} (h : f_X10_spoil x1 x2 σ = some (.inr (v, τ))) : f_L_spoil x1 x2 σ = some (nI 0, up τ 122 0 v) := by
  unfold f_L_spoil f_L_spoil_0
  rw [h]
  rfl
theorem L_spoil_1 {x1 : Int32} {x2 : Int32} {σ τ : St} (h : f_X10_spoil x1 x2 σ = some (.inl ("java/lang/IndexOutOfBoundsException", τ))) : f_L_spoil x1 x2 σ = some (nI 1, τ) := by
  unfold f_L_spoil f_L_spoil_0
  rw [h]
  simp only [bind_s, sum_l]
  rw [if_pos trivial]
  rfl
theorem L_spoil_2 {x1 : Int32} {x2 : Int32} {σ τ : St} (h : f_X10_spoil x1 x2 σ = some (.inl ("java/lang/UnsupportedOperationException", τ))) : f_L_spoil x1 x2 σ = some (nI 2, τ) := by
  unfold f_L_spoil f_L_spoil_0
  rw [h]
  simp only [bind_s, sum_l]
  rw [if_neg (by decide)]
  rw [if_pos trivial]
  rfl
theorem L_sheet_0 {x1 : Int32} {x2 : Int32} {v : Int32} {σ τ : St} (h : f_X10_sheet x1 x2 σ = some (.inr (v, τ))) : f_L_sheet x1 x2 σ = some (nI 0, up τ 122 0 v) := by
  unfold f_L_sheet f_L_sheet_0
  rw [h]
  rfl
theorem L_sheet_1 {x1 : Int32} {x2 : Int32} {σ τ : St} (h : f_X10_sheet x1 x2 σ = some (.inl ("java/lang/IndexOutOfBoundsException", τ))) : f_L_sheet x1 x2 σ = some (nI 1, τ) := by
  unfold f_L_sheet f_L_sheet_0
  rw [h]
  simp only [bind_s, sum_l]
  rw [if_pos trivial]
  rfl
theorem L_sheet_2 {x1 : Int32} {x2 : Int32} {σ τ : St} (h : f_X10_sheet x1 x2 σ = some (.inl ("java/lang/IllegalArgumentException", τ))) : f_L_sheet x1 x2 σ = some (nI 2, τ) := by
  unfold f_L_sheet f_L_sheet_0
  rw [h]
  simp only [bind_s, sum_l]
  rw [if_neg (by decide)]
  rw [if_pos trivial]
  rfl
theorem L_cell_0 {x1 : Int32} {x2 : Int32} {v : Int32} {σ τ : St} (h : f_X10_cell x1 x2 σ = some (.inr (v, τ))) : f_L_cell x1 x2 σ = some (nI 0, up τ 122 0 v) := by
  unfold f_L_cell f_L_cell_0
  rw [h]
  rfl
theorem L_cell_1 {x1 : Int32} {x2 : Int32} {σ τ : St} (h : f_X10_cell x1 x2 σ = some (.inl ("java/lang/IndexOutOfBoundsException", τ))) : f_L_cell x1 x2 σ = some (nI 1, τ) := by
  unfold f_L_cell f_L_cell_0
  rw [h]
  simp only [bind_s, sum_l]
  rw [if_pos trivial]
  rfl
theorem L_shape_0 {x1 : Int32} {x2 : Int32} {v : Int32} {σ τ : St} (h : f_X10_shape x1 x2 σ = some (.inr (v, τ))) : f_L_shape x1 x2 σ = some (nI 0, up τ 122 0 v) := by
  unfold f_L_shape f_L_shape_0
  rw [h]
  rfl
theorem L_shape_1 {x1 : Int32} {x2 : Int32} {σ τ : St} (h : f_X10_shape x1 x2 σ = some (.inl ("java/lang/IndexOutOfBoundsException", τ))) : f_L_shape x1 x2 σ = some (nI 1, τ) := by
  unfold f_L_shape f_L_shape_0
  rw [h]
  simp only [bind_s, sum_l]
  rw [if_pos trivial]
  rfl
theorem L_shape_2 {x1 : Int32} {x2 : Int32} {σ τ : St} (h : f_X10_shape x1 x2 σ = some (.inl ("java/lang/IllegalArgumentException", τ))) : f_L_shape x1 x2 σ = some (nI 2, τ) := by
  unfold f_L_shape f_L_shape_0
  rw [h]
  simp only [bind_s, sum_l]
  rw [if_neg (by decide)]
  rw [if_pos trivial]
  rfl
theorem L_turned_0 {x1 : Int32} {x2 : Int32} {v : Int32} {σ τ : St} (h : f_X10_turned x1 x2 σ = some (.inr (v, τ))) : f_L_turned x1 x2 σ = some (nI 0, up τ 122 0 v) := by
  unfold f_L_turned f_L_turned_0
  rw [h]
  rfl
theorem L_turned_1 {x1 : Int32} {x2 : Int32} {σ τ : St} (h : f_X10_turned x1 x2 σ = some (.inl ("java/lang/IndexOutOfBoundsException", τ))) : f_L_turned x1 x2 σ = some (nI 1, τ) := by
  unfold f_L_turned f_L_turned_0
  rw [h]
  simp only [bind_s, sum_l]
  rw [if_pos trivial]
  rfl
theorem L_turned_2 {x1 : Int32} {x2 : Int32} {σ τ : St} (h : f_X10_turned x1 x2 σ = some (.inl ("java/lang/IllegalArgumentException", τ))) : f_L_turned x1 x2 σ = some (nI 2, τ) := by
  unfold f_L_turned f_L_turned_0
  rw [h]
  simp only [bind_s, sum_l]
  rw [if_neg (by decide)]
  rw [if_pos trivial]
  rfl
theorem L_place_0 {x1 : Int32} {x2 : Int32} {x3 : Int32} {x4 : Int32} {x5 : Int32} {v : Int32} {σ τ : St} (h : f_X10_place x1 x2 x3 x4 x5 σ = some (.inr (v, τ))) : f_L_place x1 x2 x3 x4 x5 σ = some (nI 0, up τ 122 0 v) := by
  unfold f_L_place f_L_place_0
  rw [h]
  rfl
theorem L_place_1 {x1 : Int32} {x2 : Int32} {x3 : Int32} {x4 : Int32} {x5 : Int32} {σ τ : St} (h : f_X10_place x1 x2 x3 x4 x5 σ = some (.inl ("java/lang/IndexOutOfBoundsException", τ))) : f_L_place x1 x2 x3 x4 x5 σ = some (nI 1, τ) := by
  unfold f_L_place f_L_place_0
  rw [h]
  simp only [bind_s, sum_l]
  rw [if_pos trivial]
  rfl
theorem L_place_2 {x1 : Int32} {x2 : Int32} {x3 : Int32} {x4 : Int32} {x5 : Int32} {σ τ : St} (h : f_X10_place x1 x2 x3 x4 x5 σ = some (.inl ("java/lang/IllegalArgumentException", τ))) : f_L_place x1 x2 x3 x4 x5 σ = some (nI 2, τ) := by
  unfold f_L_place f_L_place_0
  rw [h]
  simp only [bind_s, sum_l]
  rw [if_neg (by decide)]
  rw [if_pos trivial]
  rfl
theorem L_place_3 {x1 : Int32} {x2 : Int32} {x3 : Int32} {x4 : Int32} {x5 : Int32} {σ τ : St} (h : f_X10_place x1 x2 x3 x4 x5 σ = some (.inl ("java/lang/UnsupportedOperationException", τ))) : f_L_place x1 x2 x3 x4 x5 σ = some (nI 3, τ) := by
  unfold f_L_place f_L_place_0
  rw [h]
  simp only [bind_s, sum_l]
  rw [if_neg (by decide)]
  rw [if_neg (by decide)]
  rw [if_pos trivial]
  rfl
theorem L_take_0 {x1 : Int32} {v : Int32} {σ τ : St} (h : f_X10_take x1 σ = some (.inr (v, τ))) : f_L_take x1 σ = some (nI 0, up τ 122 0 v) := by
  unfold f_L_take f_L_take_0
  rw [h]
  rfl
theorem L_take_1 {x1 : Int32} {σ τ : St} (h : f_X10_take x1 σ = some (.inl ("java/lang/IndexOutOfBoundsException", τ))) : f_L_take x1 σ = some (nI 1, τ) := by
  unfold f_L_take f_L_take_0
  rw [h]
  simp only [bind_s, sum_l]
  rw [if_pos trivial]
  rfl
theorem L_part_0 {x1 : Int32} {x2 : Int32} {v : Int32} {σ τ : St} (h : f_X10_part x1 x2 σ = some (.inr (v, τ))) : f_L_part x1 x2 σ = some (nI 0, up τ 122 0 v) := by
  unfold f_L_part f_L_part_0
  rw [h]
  rfl
theorem L_part_1 {x1 : Int32} {x2 : Int32} {σ τ : St} (h : f_X10_part x1 x2 σ = some (.inl ("java/lang/IndexOutOfBoundsException", τ))) : f_L_part x1 x2 σ = some (nI 1, τ) := by
  unfold f_L_part f_L_part_0
  rw [h]
  simp only [bind_s, sum_l]
  rw [if_pos trivial]
  rfl
theorem L_part_2 {x1 : Int32} {x2 : Int32} {σ τ : St} (h : f_X10_part x1 x2 σ = some (.inl ("java/lang/IllegalArgumentException", τ))) : f_L_part x1 x2 σ = some (nI 2, τ) := by
  unfold f_L_part f_L_part_0
  rw [h]
  simp only [bind_s, sum_l]
  rw [if_neg (by decide)]
  rw [if_pos trivial]
  rfl
theorem L_reason_0 {x1 : Int32} {x2 : Int32} {v : Int32} {σ τ : St} (h : f_X10_reason x1 x2 σ = some (.inr (v, τ))) : f_L_reason x1 x2 σ = some (nI 0, up τ 122 0 v) := by
  unfold f_L_reason f_L_reason_0
  rw [h]
  rfl
theorem L_reason_1 {x1 : Int32} {x2 : Int32} {σ τ : St} (h : f_X10_reason x1 x2 σ = some (.inl ("java/util/NoSuchElementException", τ))) : f_L_reason x1 x2 σ = some (nI 1, τ) := by
  unfold f_L_reason f_L_reason_0
  rw [h]
  simp only [bind_s, sum_l]
  rw [if_pos trivial]
  rfl
theorem L_nest_0 {x1 : Int32} {v : Int32} {σ τ : St} (h : f_X10_nest x1 σ = some (.inr (v, τ))) : f_L_nest x1 σ = some (nI 0, up τ 122 0 v) := by
  unfold f_L_nest f_L_nest_0
  rw [h]
  rfl
theorem L_nest_1 {x1 : Int32} {σ τ : St} (h : f_X10_nest x1 σ = some (.inl ("java/lang/IndexOutOfBoundsException", τ))) : f_L_nest x1 σ = some (nI 1, τ) := by
  unfold f_L_nest f_L_nest_0
  rw [h]
  simp only [bind_s, sum_l]
  rw [if_pos trivial]
  rfl
theorem L_nest_2 {x1 : Int32} {σ τ : St} (h : f_X10_nest x1 σ = some (.inl ("java/util/NoSuchElementException", τ))) : f_L_nest x1 σ = some (nI 2, τ) := by
  unfold f_L_nest f_L_nest_0
  rw [h]
  simp only [bind_s, sum_l]
  rw [if_neg (by decide)]
  rw [if_pos trivial]
  rfl
theorem L_remnant_0 {x1 : Int32} {x2 : Int32} {x3 : Int32} {v : Int32} {σ τ : St} (h : f_X10_remnant x1 x2 x3 σ = some (.inr (v, τ))) : f_L_remnant x1 x2 x3 σ = some (nI 0, up τ 122 0 v) := by
  unfold f_L_remnant f_L_remnant_0
  rw [h]
  rfl
theorem L_remnant_1 {x1 : Int32} {x2 : Int32} {x3 : Int32} {σ τ : St} (h : f_X10_remnant x1 x2 x3 σ = some (.inl ("java/lang/IndexOutOfBoundsException", τ))) : f_L_remnant x1 x2 x3 σ = some (nI 1, τ) := by
  unfold f_L_remnant f_L_remnant_0
  rw [h]
  simp only [bind_s, sum_l]
  rw [if_pos trivial]
  rfl
theorem L_remnant_2 {x1 : Int32} {x2 : Int32} {x3 : Int32} {σ τ : St} (h : f_X10_remnant x1 x2 x3 σ = some (.inl ("java/lang/IllegalArgumentException", τ))) : f_L_remnant x1 x2 x3 σ = some (nI 2, τ) := by
  unfold f_L_remnant f_L_remnant_0
  rw [h]
  simp only [bind_s, sum_l]
  rw [if_neg (by decide)]
  rw [if_pos trivial]
  rfl
theorem L_keep_0 {x1 : Int32} {x2 : Int32} {v : Int32} {σ τ : St} (h : f_X10_keep x1 x2 σ = some (.inr (v, τ))) : f_L_keep x1 x2 σ = some (nI 0, up τ 122 0 v) := by
  unfold f_L_keep f_L_keep_0
  rw [h]
  rfl
theorem L_keep_1 {x1 : Int32} {x2 : Int32} {σ τ : St} (h : f_X10_keep x1 x2 σ = some (.inl ("java/lang/IndexOutOfBoundsException", τ))) : f_L_keep x1 x2 σ = some (nI 1, τ) := by
  unfold f_L_keep f_L_keep_0
  rw [h]
  simp only [bind_s, sum_l]
  rw [if_pos trivial]
  rfl
theorem L_keep_2 {x1 : Int32} {x2 : Int32} {σ τ : St} (h : f_X10_keep x1 x2 σ = some (.inl ("java/lang/IllegalStateException", τ))) : f_L_keep x1 x2 σ = some (nI 2, τ) := by
  unfold f_L_keep f_L_keep_0
  rw [h]
  simp only [bind_s, sum_l]
  rw [if_neg (by decide)]
  rw [if_pos trivial]
  rfl
theorem L_way_0 {x1 : Int32} {x2 : Int32} {x3 : Int32} {v : Int32} {σ τ : St} (h : f_X10_way x1 x2 x3 σ = some (.inr (v, τ))) : f_L_way x1 x2 x3 σ = some (nI 0, up τ 122 0 v) := by
  unfold f_L_way f_L_way_0
  rw [h]
  rfl
theorem L_way_1 {x1 : Int32} {x2 : Int32} {x3 : Int32} {σ τ : St} (h : f_X10_way x1 x2 x3 σ = some (.inl ("java/lang/IndexOutOfBoundsException", τ))) : f_L_way x1 x2 x3 σ = some (nI 1, τ) := by
  unfold f_L_way f_L_way_0
  rw [h]
  simp only [bind_s, sum_l]
  rw [if_pos trivial]
  rfl
theorem L_way_2 {x1 : Int32} {x2 : Int32} {x3 : Int32} {σ τ : St} (h : f_X10_way x1 x2 x3 σ = some (.inl ("java/lang/IllegalArgumentException", τ))) : f_L_way x1 x2 x3 σ = some (nI 2, τ) := by
  unfold f_L_way f_L_way_0
  rw [h]
  simp only [bind_s, sum_l]
  rw [if_neg (by decide)]
  rw [if_pos trivial]
  rfl
theorem L_way_3 {x1 : Int32} {x2 : Int32} {x3 : Int32} {σ τ : St} (h : f_X10_way x1 x2 x3 σ = some (.inl ("java/lang/UnsupportedOperationException", τ))) : f_L_way x1 x2 x3 σ = some (nI 3, τ) := by
  unfold f_L_way f_L_way_0
  rw [h]
  simp only [bind_s, sum_l]
  rw [if_neg (by decide)]
  rw [if_neg (by decide)]
  rw [if_pos trivial]
  rfl
theorem L_way_4 {x1 : Int32} {x2 : Int32} {x3 : Int32} {σ τ : St} (h : f_X10_way x1 x2 x3 σ = some (.inl ("java/util/NoSuchElementException", τ))) : f_L_way x1 x2 x3 σ = some (nI 4, τ) := by
  unfold f_L_way f_L_way_0
  rw [h]
  simp only [bind_s, sum_l]
  rw [if_neg (by decide)]
  rw [if_neg (by decide)]
  rw [if_neg (by decide)]
  rw [if_pos trivial]
  rfl
theorem L_count_0 {x1 : Int32} {v : Int32} {σ τ : St} (h : f_X10_count x1 σ = some (.inr (v, τ))) : f_L_count x1 σ = some (nI 0, up τ 122 0 v) := by
  unfold f_L_count f_L_count_0
  rw [h]
  rfl
theorem L_count_1 {x1 : Int32} {σ τ : St} (h : f_X10_count x1 σ = some (.inl ("java/lang/IllegalArgumentException", τ))) : f_L_count x1 σ = some (nI 1, τ) := by
  unfold f_L_count f_L_count_0
  rw [h]
  simp only [bind_s, sum_l]
  rw [if_pos trivial]
  rfl
theorem L_feed_0 {x1 : Int32} {v : Int32} {σ τ : St} (h : f_X10_feed x1 σ = some (.inr (v, τ))) : f_L_feed x1 σ = some (nI 0, up τ 122 0 v) := by
  unfold f_L_feed f_L_feed_0
  rw [h]
  rfl
theorem L_feed_1 {x1 : Int32} {σ τ : St} (h : f_X10_feed x1 σ = some (.inl ("java/lang/IllegalStateException", τ))) : f_L_feed x1 σ = some (nI 1, τ) := by
  unfold f_L_feed f_L_feed_0
  rw [h]
  simp only [bind_s, sum_l]
  rw [if_pos trivial]
  rfl
theorem L_fault_0 {x1 : Int32} {x2 : Int32} {v : Int32} {σ τ : St} (h : f_X10_fault x1 x2 σ = some (.inr (v, τ))) : f_L_fault x1 x2 σ = some (nI 0, up τ 122 0 v) := by
  unfold f_L_fault f_L_fault_0
  rw [h]
  rfl
theorem L_fault_1 {x1 : Int32} {x2 : Int32} {σ τ : St} (h : f_X10_fault x1 x2 σ = some (.inl ("java/util/NoSuchElementException", τ))) : f_L_fault x1 x2 σ = some (nI 1, τ) := by
  unfold f_L_fault f_L_fault_0
  rw [h]
  simp only [bind_s, sum_l]
  rw [if_pos trivial]
  rfl
theorem L_undo_0 {v : Int32} {σ τ : St} (h : f_X10_undo σ = some (.inr (v, τ))) : f_L_undo σ = some (nI 0, up τ 122 0 v) := by
  unfold f_L_undo f_L_undo_0
  rw [h]
  rfl
theorem L_undo_1  {σ τ : St} (h : f_X10_undo σ = some (.inl ("java/lang/IllegalStateException", τ))) : f_L_undo σ = some (nI 1, τ) := by
  unfold f_L_undo f_L_undo_0
  rw [h]
  simp only [bind_s, sum_l]
  rw [if_pos trivial]
  rfl
theorem L_restoreSnapshot_0 {v : Int32} {σ τ : St} (h : f_X10_restoreSnapshot σ = some (.inr (v, τ))) : f_L_restoreSnapshot σ = some (nI 0, up τ 122 0 v) := by
  unfold f_L_restoreSnapshot f_L_restoreSnapshot_0
  rw [h]
  rfl
theorem L_restoreSnapshot_1  {σ τ : St} (h : f_X10_restoreSnapshot σ = some (.inl ("java/lang/IllegalStateException", τ))) : f_L_restoreSnapshot σ = some (nI 1, τ) := by
  unfold f_L_restoreSnapshot f_L_restoreSnapshot_0
  rw [h]
  simp only [bind_s, sum_l]
  rw [if_pos trivial]
  rfl
