/-! the acts called by hand -/
theorem o_come : zOp 9 := by
  intro i T S a hi h
  obtain ⟨M, B, c, r, g, b0, b1⟩ := h
  exact zDo_op c r g b0 b1 (by omega) (by omega) (d_come (wh := a 1) (n := a 2) c g (by have := zB_le hi b1; omega))
theorem o_go : zOp 10 := by
  intro i T S a hi h
  obtain ⟨M, B, c, r, g, b0, b1⟩ := h
  exact zDo_op c r g b0 b1 (by omega) (by omega) (d_go (wh := a 1) (n := 0) c g (by have := zB_le hi b1; omega))
theorem o_duty : zOp 11 := by
  intro i T S a hi h
  obtain ⟨M, B, c, r, g, b0, b1⟩ := h
  exact zDo_op c r g b0 b1 (by omega) (by omega) (d_duty (wh := a 1) (n := a 2) c g (by have := zB_le hi b1; omega))
theorem o_ratio : zOp 12 := by
  intro i T S a hi h
  obtain ⟨M, B, c, r, g, b0, b1⟩ := h
  exact zDo_op c r g b0 b1 (by omega) (by omega) (d_ratio (wh := a 1) (n := a 2) c g (by have := zB_le hi b1; omega))
theorem o_pay : zOp 13 := by
  intro i T S a hi h
  obtain ⟨M, B, c, r, g, b0, b1⟩ := h
  exact zDo_op c r g b0 b1 (by omega) (by omega) (d_pay (wh := a 1) (n := a 2) c g (by have := zB_le hi b1; omega))
theorem o_draw : zOp 14 := by
  intro i T S a hi h
  obtain ⟨M, B, c, r, g, b0, b1⟩ := h
  exact zDo_op c r g b0 b1 (by omega) (by omega) (d_draw (wh := a 1) (n := a 2) c g (by have := zB_le hi b1; omega))
theorem o_sell : zOp 16 := by
  intro i T S a hi h
  obtain ⟨M, B, c, r, g, b0, b1⟩ := h
  exact zDo_op c r g b0 b1 (by omega) (by omega) (d_sell (wh := a 1) (n := 0) c g (by have := zB_le hi b1; omega))
theorem o_market : zOp 17 := by
  intro i T S a hi h
  obtain ⟨M, B, c, r, g, b0, b1⟩ := h
  exact zDo_op c r g b0 b1 (by omega) (by omega) (d_market (wh := a 1) (n := a 2) c g (by have := zB_le hi b1; omega))
theorem o_lose : zOp 18 := by
  intro i T S a hi h
  obtain ⟨M, B, c, r, g, b0, b1⟩ := h
  exact zDo_op c r g b0 b1 (by omega) (by omega) (d_lose (wh := a 1) (n := a 2) c g (by have := zB_le hi b1; omega))
theorem o_borrow : zOp 19 := by
  intro i T S a hi h
  obtain ⟨M, B, c, r, g, b0, b1⟩ := h
  exact zDo_op c r g b0 b1 (by omega) (by omega) (d_borrow (wh := a 1) (n := a 2) c g (by have := zB_le hi b1; omega))
theorem o_repay : zOp 20 := by
  intro i T S a hi h
  obtain ⟨M, B, c, r, g, b0, b1⟩ := h
  exact zDo_op c r g b0 b1 (by omega) (by omega) (d_repay (wh := a 1) (n := a 2) c g (by have := zB_le hi b1; omega))
theorem o_earn : zOp 21 := by
  intro i T S a hi h
  obtain ⟨M, B, c, r, g, b0, b1⟩ := h
  exact zDo_op c r g b0 b1 (by omega) (by omega) (d_earn (wh := 0) (n := a 1) c g (by have := zB_le hi b1; omega))
theorem o_close : zOp 22 := by
  intro i T S a hi h
  obtain ⟨M, B, c, r, g, b0, b1⟩ := h
  exact zDo_op c r g b0 b1 (by omega) (by omega) (d_close (wh := 0) (n := 0) c g (by have := zB_le hi b1; omega))
