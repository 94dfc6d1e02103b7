abbrev xr_X10_ratio : Room := { frames := 4, cells := 0, slots := 0, locals := 79 }
def f_X10_ratio (T : xT) (S : xS) (p0 : Nat) (p1 : Int32) (p2 : Int32) : Option (Int32 × xS) := xc (f_X10_isThere T S p0 p1) (fun r2 S1 => if r2 = (0 : Int32) then some ((-1 : Int32), S1) else xc (f_X10_isIn T S1 p2 ((0 : Int32)) ((99 : Int32))) (fun r4 S3 => if r4 = (0 : Int32) then some ((-1 : Int32), S3) else xc (f_X10_become T S3 p0 (((21 : Int32) + p1)) p2) (fun r6 S5 => some (r6, S5))))
set_option maxRecDepth 100000 in
set_option maxHeartbeats 4000000 in
theorem c_X10_ratio {l : Launch} {z : Nat} {D : va_G} {dA : Nat → ClassId} {T : xT} {S : xS} {p0 : Nat} {p1 : Int32} {p2 : Int32} (k_p0 : xlk T p0 10 = true) {q : Int32 × xS} (hf : f_X10_ratio T S p0 p1 p2 = some q) : Met l yX10_ratio (xws yX10_ratio cX10_ratio 3 (some .int)) xr_X10_ratio (xPc z D dA T S [.ref (z + p0), .int p1, .int p2]) (xQi z D dA T q) 0 0 (xA z) := by
  refine x_met RX10 (by decide) rfl (Nat.le_of_ble_eq_true rfl) ?_
  intro p e s m below meth c ls _ X hr hlk hml _ hR hS hl
  have B : xB p s m _ meth c cX10_ratio RX10 3 (some .int) D dA := ⟨X, hr, hlk, hml⟩
  have hl : xL ls 3 [_, _, _] := hl
  unfold f_X10_ratio at hf
  refine lv_aload_n B.1.1 B.1.2.1 dX10_ratio_0 rfl (hl.at 0 rfl) ?_
  refine lv_iload_n B.1.1 B.1.2.1 dX10_ratio_1 rfl (hl.at 1 rfl) ?_
  refine y_ci hf (fun q hq => x_runV (ci := 10) (C := RX10) B.1 B.2.2.2 hl hR hS cm_X10_203 ⟨rfl, rfl, Nat.le_of_ble_eq_true rfl, Nat.le_of_ble_eq_true rfl⟩ (by decide) rfl k_p0 (c_X10_isThere k_p0 hq) rfl rfl (Nat.le_of_ble_eq_true rfl) dX10_ratio_2 ⟨Nat.le_of_ble_eq_true rfl, Nat.le_of_ble_eq_true rfl⟩) hS (fun r2 S1 H locs hf hR hS => ?_)
  refine y_if_eq (tgt := 30) B hf dX10_ratio_5 (by decide) (fun hf => ?_) (fun hf => ?_)
  · refine lv_iconst (v := -1) B.1.1 B.1.2.1 dX10_ratio_30 (by decide) ?_
    exact y_iret B hR hS hf dX10_ratio_31
  · refine lv_iload_n B.1.1 B.1.2.1 dX10_ratio_8 rfl (hl.at 2 rfl) ?_
    refine lv_iconst (v := 0) B.1.1 B.1.2.1 dX10_ratio_9 (by decide) ?_
    refine lv_bipush (v := 99) B.1.1 B.1.2.1 dX10_ratio_10 (by decide) ?_
    refine y_ci hf (fun q hq => y_runS B.1 B.2.2.2 hl hR hS cm_X10_81 ⟨rfl, rfl, Nat.le_of_ble_eq_true rfl, Nat.le_of_ble_eq_true rfl⟩ (c_X10_isIn hq) rfl rfl (Nat.le_of_ble_eq_true rfl) dX10_ratio_12 ⟨Nat.le_of_ble_eq_true rfl, Nat.le_of_ble_eq_true rfl⟩) hS (fun r4 S3 H locs hf hR hS => ?_)
    refine y_if_eq (tgt := 30) B hf dX10_ratio_15 (by decide) (fun hf => ?_) (fun hf => ?_)
    · refine lv_iconst (v := -1) B.1.1 B.1.2.1 dX10_ratio_30 (by decide) ?_
      exact y_iret B hR hS hf dX10_ratio_31
    · refine lv_aload_n B.1.1 B.1.2.1 dX10_ratio_18 rfl (hl.at 0 rfl) ?_
      refine lv_bipush (v := 21) B.1.1 B.1.2.1 dX10_ratio_19 (by decide) ?_
      refine lv_iload_n B.1.1 B.1.2.1 dX10_ratio_21 rfl (hl.at 1 rfl) ?_
      refine lv_iadd B.1.1 B.1.2.1 dX10_ratio_22 ?_
      refine lv_iload_n B.1.1 B.1.2.1 dX10_ratio_23 rfl (hl.at 2 rfl) ?_
      refine y_ci hf (fun q hq => x_runV (ci := 10) (C := RX10) B.1 B.2.2.2 hl hR hS cm_X10_361 ⟨rfl, rfl, Nat.le_of_ble_eq_true rfl, Nat.le_of_ble_eq_true rfl⟩ (by decide) rfl k_p0 (c_X10_become k_p0 hq) rfl rfl (Nat.le_of_ble_eq_true rfl) dX10_ratio_24 ⟨Nat.le_of_ble_eq_true rfl, Nat.le_of_ble_eq_true rfl⟩) hS (fun r6 S5 H locs hf hR hS => ?_)
      refine lv_goto (tgt := 31) B.1.1 B.1.2.1 dX10_ratio_27 (by decide) ?_
      exact y_iret B hR hS hf dX10_ratio_31
abbrev xr_X10_brings : Room := { frames := 3, cells := 0, slots := 0, locals := 56 }
def f_X10_brings (T : xT) (S : xS) (p0 : Nat) (p1 : Int32) (p2 : Int32) : Option (Int32 × xS) := xcv (f_X10_deed T S p0) (fun S1 => xcv (f_X10_more T S1 p0 ((3 : Int32)) p2) (fun S2 => xcv (f_X10_more T S2 p0 (((5 : Int32) + p1)) p2) (fun S3 => xc (f_X10_get T S3 p0 (((5 : Int32) + p1))) (fun r5 S4 => xc (f_X10_tells T S4 p0 r5) (fun r7 S6 => some (r7, S6))))))
set_option maxRecDepth 100000 in
set_option maxHeartbeats 4000000 in
theorem c_X10_brings {l : Launch} {z : Nat} {D : va_G} {dA : Nat → ClassId} {T : xT} {S : xS} {p0 : Nat} {p1 : Int32} {p2 : Int32} (k_p0 : xlk T p0 10 = true) {q : Int32 × xS} (hf : f_X10_brings T S p0 p1 p2 = some q) : Met l yX10_brings (xws yX10_brings cX10_brings 3 (some .int)) xr_X10_brings (xPc z D dA T S [.ref (z + p0), .int p1, .int p2]) (xQi z D dA T q) 0 0 (xA z) := by
  refine x_met RX10 (by decide) rfl (Nat.le_of_ble_eq_true rfl) ?_
  intro p e s m below meth c ls _ X hr hlk hml _ hR hS hl
  have B : xB p s m _ meth c cX10_brings RX10 3 (some .int) D dA := ⟨X, hr, hlk, hml⟩
  have hl : xL ls 3 [_, _, _] := hl
  unfold f_X10_brings at hf
  refine lv_aload_n B.1.1 B.1.2.1 dX10_brings_0 rfl (hl.at 0 rfl) ?_
  refine y_cv hf (fun q hq => x_runV (ci := 10) (C := RX10) B.1 B.2.2.2 hl hR hS cm_X10_85 ⟨rfl, rfl, Nat.le_of_ble_eq_true rfl, Nat.le_of_ble_eq_true rfl⟩ (by decide) rfl k_p0 (c_X10_deed k_p0 hq) rfl rfl (Nat.le_of_ble_eq_true rfl) dX10_brings_1 ⟨Nat.le_of_ble_eq_true rfl, Nat.le_of_ble_eq_true rfl⟩) hS (fun S1 H locs hf hR hS => ?_)
  refine lv_aload_n B.1.1 B.1.2.1 dX10_brings_4 rfl (hl.at 0 rfl) ?_
  refine lv_iconst (v := 3) B.1.1 B.1.2.1 dX10_brings_5 (by decide) ?_
  refine lv_iload_n B.1.1 B.1.2.1 dX10_brings_6 rfl (hl.at 2 rfl) ?_
  refine y_cv hf (fun q hq => x_runV (ci := 10) (C := RX10) B.1 B.2.2.2 hl hR hS cm_X10_246 ⟨rfl, rfl, Nat.le_of_ble_eq_true rfl, Nat.le_of_ble_eq_true rfl⟩ (by decide) rfl k_p0 (c_X10_more k_p0 hq) rfl rfl (Nat.le_of_ble_eq_true rfl) dX10_brings_7 ⟨Nat.le_of_ble_eq_true rfl, Nat.le_of_ble_eq_true rfl⟩) hS (fun S2 H locs hf hR hS => ?_)
  refine lv_aload_n B.1.1 B.1.2.1 dX10_brings_10 rfl (hl.at 0 rfl) ?_
  refine lv_iconst (v := 5) B.1.1 B.1.2.1 dX10_brings_11 (by decide) ?_
  refine lv_iload_n B.1.1 B.1.2.1 dX10_brings_12 rfl (hl.at 1 rfl) ?_
  refine lv_iadd B.1.1 B.1.2.1 dX10_brings_13 ?_
  refine lv_iload_n B.1.1 B.1.2.1 dX10_brings_14 rfl (hl.at 2 rfl) ?_
  refine y_cv hf (fun q hq => x_runV (ci := 10) (C := RX10) B.1 B.2.2.2 hl hR hS cm_X10_246 ⟨rfl, rfl, Nat.le_of_ble_eq_true rfl, Nat.le_of_ble_eq_true rfl⟩ (by decide) rfl k_p0 (c_X10_more k_p0 hq) rfl rfl (Nat.le_of_ble_eq_true rfl) dX10_brings_15 ⟨Nat.le_of_ble_eq_true rfl, Nat.le_of_ble_eq_true rfl⟩) hS (fun S3 H locs hf hR hS => ?_)
  refine lv_aload_n B.1.1 B.1.2.1 dX10_brings_18 rfl (hl.at 0 rfl) ?_
  refine lv_aload_n B.1.1 B.1.2.1 dX10_brings_19 rfl (hl.at 0 rfl) ?_
  refine lv_iconst (v := 5) B.1.1 B.1.2.1 dX10_brings_20 (by decide) ?_
  refine lv_iload_n B.1.1 B.1.2.1 dX10_brings_21 rfl (hl.at 1 rfl) ?_
  refine lv_iadd B.1.1 B.1.2.1 dX10_brings_22 ?_
  refine y_ci hf (fun q hq => x_runV (ci := 10) (C := RX10) B.1 B.2.2.2 hl hR hS cm_X10_193 ⟨rfl, rfl, Nat.le_of_ble_eq_true rfl, Nat.le_of_ble_eq_true rfl⟩ (by decide) rfl k_p0 (c_X10_get k_p0 hq) rfl rfl (Nat.le_of_ble_eq_true rfl) dX10_brings_23 ⟨Nat.le_of_ble_eq_true rfl, Nat.le_of_ble_eq_true rfl⟩) hS (fun r5 S4 H locs hf hR hS => ?_)
  refine y_ci hf (fun q hq => x_runV (ci := 10) (C := RX10) B.1 B.2.2.2 hl hR hS cm_X10_304 ⟨rfl, rfl, Nat.le_of_ble_eq_true rfl, Nat.le_of_ble_eq_true rfl⟩ (by decide) rfl k_p0 (c_X10_tells k_p0 hq) rfl rfl (Nat.le_of_ble_eq_true rfl) dX10_brings_26 ⟨Nat.le_of_ble_eq_true rfl, Nat.le_of_ble_eq_true rfl⟩) hS (fun r7 S6 H locs hf hR hS => ?_)
  exact y_iret B hR hS hf dX10_brings_29
abbrev xr_X10_pay : Room := { frames := 4, cells := 0, slots := 0, locals := 78 }
def f_X10_pay (T : xT) (S : xS) (p0 : Nat) (p1 : Int32) (p2 : Int32) : Option (Int32 × xS) := xc (f_X10_isThere T S p0 p1) (fun r2 S1 => if r2 = (0 : Int32) then xc (f_X10_refuse T S1 p0 ((-1000000000 : Int32))) (fun r4 S3 => some (r4, S3)) else xc (f_X10_isIn T S1 p2 ((1 : Int32)) ((1000000 : Int32))) (fun r6 S5 => if r6 = (0 : Int32) then xc (f_X10_refuse T S5 p0 ((-1000000000 : Int32))) (fun r8 S7 => some (r8, S7)) else xc (f_X10_brings T S5 p0 p1 p2) (fun r10 S9 => some (r10, S9))))
set_option maxRecDepth 100000 in
set_option maxHeartbeats 4000000 in
theorem c_X10_pay {l : Launch} {z : Nat} {D : va_G} {dA : Nat → ClassId} {T : xT} {S : xS} {p0 : Nat} {p1 : Int32} {p2 : Int32} (k_p0 : xlk T p0 10 = true) {q : Int32 × xS} (hf : f_X10_pay T S p0 p1 p2 = some q) : Met l yX10_pay (xws yX10_pay cX10_pay 3 (some .int)) xr_X10_pay (xPc z D dA T S [.ref (z + p0), .int p1, .int p2]) (xQi z D dA T q) 0 0 (xA z) := by
  refine x_met RX10 (by decide) rfl (Nat.le_of_ble_eq_true rfl) ?_
  intro p e s m below meth c ls _ X hr hlk hml _ hR hS hl
  have B : xB p s m _ meth c cX10_pay RX10 3 (some .int) D dA := ⟨X, hr, hlk, hml⟩
  have hl : xL ls 3 [_, _, _] := hl
  unfold f_X10_pay at hf
  refine lv_aload_n B.1.1 B.1.2.1 dX10_pay_0 rfl (hl.at 0 rfl) ?_
  refine lv_iload_n B.1.1 B.1.2.1 dX10_pay_1 rfl (hl.at 1 rfl) ?_
  refine y_ci hf (fun q hq => x_runV (ci := 10) (C := RX10) B.1 B.2.2.2 hl hR hS cm_X10_203 ⟨rfl, rfl, Nat.le_of_ble_eq_true rfl, Nat.le_of_ble_eq_true rfl⟩ (by decide) rfl k_p0 (c_X10_isThere k_p0 hq) rfl rfl (Nat.le_of_ble_eq_true rfl) dX10_pay_2 ⟨Nat.le_of_ble_eq_true rfl, Nat.le_of_ble_eq_true rfl⟩) hS (fun r2 S1 H locs hf hR hS => ?_)
  refine y_if_eq (tgt := 27) B hf dX10_pay_5 (by decide) (fun hf => ?_) (fun hf => ?_)
  · refine lv_aload_n B.1.1 B.1.2.1 dX10_pay_27 rfl (hl.at 0 rfl) ?_
    refine lv_ldc (v := -1000000000) B.1.1 B.1.2.1 B.1.2.2.1 (B.1.2.2.2.1 _ tw_1301) dX10_pay_28 ?_
    refine y_ci hf (fun q hq => x_runV (ci := 10) (C := RX10) B.1 B.2.2.2 hl hR hS cm_X10_298 ⟨rfl, rfl, Nat.le_of_ble_eq_true rfl, Nat.le_of_ble_eq_true rfl⟩ (by decide) rfl k_p0 (c_X10_refuse k_p0 hq) rfl rfl (Nat.le_of_ble_eq_true rfl) dX10_pay_30 ⟨Nat.le_of_ble_eq_true rfl, Nat.le_of_ble_eq_true rfl⟩) hS (fun r4 S3 H locs hf hR hS => ?_)
    exact y_iret B hR hS hf dX10_pay_33
  · refine lv_iload_n B.1.1 B.1.2.1 dX10_pay_8 rfl (hl.at 2 rfl) ?_
    refine lv_iconst (v := 1) B.1.1 B.1.2.1 dX10_pay_9 (by decide) ?_
    refine lv_ldc (v := 1000000) B.1.1 B.1.2.1 B.1.2.2.1 (B.1.2.2.2.1 _ tw_1240) dX10_pay_10 ?_
    refine y_ci hf (fun q hq => y_runS B.1 B.2.2.2 hl hR hS cm_X10_81 ⟨rfl, rfl, Nat.le_of_ble_eq_true rfl, Nat.le_of_ble_eq_true rfl⟩ (c_X10_isIn hq) rfl rfl (Nat.le_of_ble_eq_true rfl) dX10_pay_12 ⟨Nat.le_of_ble_eq_true rfl, Nat.le_of_ble_eq_true rfl⟩) hS (fun r6 S5 H locs hf hR hS => ?_)
    refine y_if_eq (tgt := 27) B hf dX10_pay_15 (by decide) (fun hf => ?_) (fun hf => ?_)
    · refine lv_aload_n B.1.1 B.1.2.1 dX10_pay_27 rfl (hl.at 0 rfl) ?_
      refine lv_ldc (v := -1000000000) B.1.1 B.1.2.1 B.1.2.2.1 (B.1.2.2.2.1 _ tw_1301) dX10_pay_28 ?_
      refine y_ci hf (fun q hq => x_runV (ci := 10) (C := RX10) B.1 B.2.2.2 hl hR hS cm_X10_298 ⟨rfl, rfl, Nat.le_of_ble_eq_true rfl, Nat.le_of_ble_eq_true rfl⟩ (by decide) rfl k_p0 (c_X10_refuse k_p0 hq) rfl rfl (Nat.le_of_ble_eq_true rfl) dX10_pay_30 ⟨Nat.le_of_ble_eq_true rfl, Nat.le_of_ble_eq_true rfl⟩) hS (fun r8 S7 H locs hf hR hS => ?_)
      exact y_iret B hR hS hf dX10_pay_33
    · refine lv_aload_n B.1.1 B.1.2.1 dX10_pay_18 rfl (hl.at 0 rfl) ?_
      refine lv_iload_n B.1.1 B.1.2.1 dX10_pay_19 rfl (hl.at 1 rfl) ?_
      refine lv_iload_n B.1.1 B.1.2.1 dX10_pay_20 rfl (hl.at 2 rfl) ?_
      refine y_ci hf (fun q hq => x_runV (ci := 10) (C := RX10) B.1 B.2.2.2 hl hR hS cm_X10_364 ⟨rfl, rfl, Nat.le_of_ble_eq_true rfl, Nat.le_of_ble_eq_true rfl⟩ (by decide) rfl k_p0 (c_X10_brings k_p0 hq) rfl rfl (Nat.le_of_ble_eq_true rfl) dX10_pay_21 ⟨Nat.le_of_ble_eq_true rfl, Nat.le_of_ble_eq_true rfl⟩) hS (fun r10 S9 H locs hf hR hS => ?_)
      refine lv_goto (tgt := 33) B.1.1 B.1.2.1 dX10_pay_24 (by decide) ?_
      exact y_iret B hR hS hf dX10_pay_33
abbrev xr_X10_draw : Room := { frames := 4, cells := 0, slots := 0, locals := 78 }
def f_X10_draw (T : xT) (S : xS) (p0 : Nat) (p1 : Int32) (p2 : Int32) : Option (Int32 × xS) := xc (f_X10_isThere T S p0 p1) (fun r2 S1 => if r2 = (0 : Int32) then xc (f_X10_refuse T S1 p0 ((-1000000000 : Int32))) (fun r4 S3 => some (r4, S3)) else xc (f_X10_isIn T S1 p2 ((1 : Int32)) ((1000000 : Int32))) (fun r6 S5 => if r6 = (0 : Int32) then xc (f_X10_refuse T S5 p0 ((-1000000000 : Int32))) (fun r8 S7 => some (r8, S7)) else xc (f_X10_brings T S5 p0 p1 ((-p2))) (fun r10 S9 => some (r10, S9))))
set_option maxRecDepth 100000 in
set_option maxHeartbeats 4000000 in
theorem c_X10_draw {l : Launch} {z : Nat} {D : va_G} {dA : Nat → ClassId} {T : xT} {S : xS} {p0 : Nat} {p1 : Int32} {p2 : Int32} (k_p0 : xlk T p0 10 = true) {q : Int32 × xS} (hf : f_X10_draw T S p0 p1 p2 = some q) : Met l yX10_draw (xws yX10_draw cX10_draw 3 (some .int)) xr_X10_draw (xPc z D dA T S [.ref (z + p0), .int p1, .int p2]) (xQi z D dA T q) 0 0 (xA z) := by
  refine x_met RX10 (by decide) rfl (Nat.le_of_ble_eq_true rfl) ?_
  intro p e s m below meth c ls _ X hr hlk hml _ hR hS hl
  have B : xB p s m _ meth c cX10_draw RX10 3 (some .int) D dA := ⟨X, hr, hlk, hml⟩
  have hl : xL ls 3 [_, _, _] := hl
  unfold f_X10_draw at hf
  refine lv_aload_n B.1.1 B.1.2.1 dX10_draw_0 rfl (hl.at 0 rfl) ?_
  refine lv_iload_n B.1.1 B.1.2.1 dX10_draw_1 rfl (hl.at 1 rfl) ?_
  refine y_ci hf (fun q hq => x_runV (ci := 10) (C := RX10) B.1 B.2.2.2 hl hR hS cm_X10_203 ⟨rfl, rfl, Nat.le_of_ble_eq_true rfl, Nat.le_of_ble_eq_true rfl⟩ (by decide) rfl k_p0 (c_X10_isThere k_p0 hq) rfl rfl (Nat.le_of_ble_eq_true rfl) dX10_draw_2 ⟨Nat.le_of_ble_eq_true rfl, Nat.le_of_ble_eq_true rfl⟩) hS (fun r2 S1 H locs hf hR hS => ?_)
  refine y_if_eq (tgt := 28) B hf dX10_draw_5 (by decide) (fun hf => ?_) (fun hf => ?_)
  · refine lv_aload_n B.1.1 B.1.2.1 dX10_draw_28 rfl (hl.at 0 rfl) ?_
    refine lv_ldc (v := -1000000000) B.1.1 B.1.2.1 B.1.2.2.1 (B.1.2.2.2.1 _ tw_1301) dX10_draw_29 ?_
    refine y_ci hf (fun q hq => x_runV (ci := 10) (C := RX10) B.1 B.2.2.2 hl hR hS cm_X10_298 ⟨rfl, rfl, Nat.le_of_ble_eq_true rfl, Nat.le_of_ble_eq_true rfl⟩ (by decide) rfl k_p0 (c_X10_refuse k_p0 hq) rfl rfl (Nat.le_of_ble_eq_true rfl) dX10_draw_31 ⟨Nat.le_of_ble_eq_true rfl, Nat.le_of_ble_eq_true rfl⟩) hS (fun r4 S3 H locs hf hR hS => ?_)
    exact y_iret B hR hS hf dX10_draw_34
  · refine lv_iload_n B.1.1 B.1.2.1 dX10_draw_8 rfl (hl.at 2 rfl) ?_
    refine lv_iconst (v := 1) B.1.1 B.1.2.1 dX10_draw_9 (by decide) ?_
    refine lv_ldc (v := 1000000) B.1.1 B.1.2.1 B.1.2.2.1 (B.1.2.2.2.1 _ tw_1240) dX10_draw_10 ?_
    refine y_ci hf (fun q hq => y_runS B.1 B.2.2.2 hl hR hS cm_X10_81 ⟨rfl, rfl, Nat.le_of_ble_eq_true rfl, Nat.le_of_ble_eq_true rfl⟩ (c_X10_isIn hq) rfl rfl (Nat.le_of_ble_eq_true rfl) dX10_draw_12 ⟨Nat.le_of_ble_eq_true rfl, Nat.le_of_ble_eq_true rfl⟩) hS (fun r6 S5 H locs hf hR hS => ?_)
    refine y_if_eq (tgt := 28) B hf dX10_draw_15 (by decide) (fun hf => ?_) (fun hf => ?_)
    · refine lv_aload_n B.1.1 B.1.2.1 dX10_draw_28 rfl (hl.at 0 rfl) ?_
      refine lv_ldc (v := -1000000000) B.1.1 B.1.2.1 B.1.2.2.1 (B.1.2.2.2.1 _ tw_1301) dX10_draw_29 ?_
      refine y_ci hf (fun q hq => x_runV (ci := 10) (C := RX10) B.1 B.2.2.2 hl hR hS cm_X10_298 ⟨rfl, rfl, Nat.le_of_ble_eq_true rfl, Nat.le_of_ble_eq_true rfl⟩ (by decide) rfl k_p0 (c_X10_refuse k_p0 hq) rfl rfl (Nat.le_of_ble_eq_true rfl) dX10_draw_31 ⟨Nat.le_of_ble_eq_true rfl, Nat.le_of_ble_eq_true rfl⟩) hS (fun r8 S7 H locs hf hR hS => ?_)
      exact y_iret B hR hS hf dX10_draw_34
    · refine lv_aload_n B.1.1 B.1.2.1 dX10_draw_18 rfl (hl.at 0 rfl) ?_
      refine lv_iload_n B.1.1 B.1.2.1 dX10_draw_19 rfl (hl.at 1 rfl) ?_
      refine lv_iload_n B.1.1 B.1.2.1 dX10_draw_20 rfl (hl.at 2 rfl) ?_
      refine lv_ineg B.1.1 B.1.2.1 dX10_draw_21 ?_
      refine y_ci hf (fun q hq => x_runV (ci := 10) (C := RX10) B.1 B.2.2.2 hl hR hS cm_X10_364 ⟨rfl, rfl, Nat.le_of_ble_eq_true rfl, Nat.le_of_ble_eq_true rfl⟩ (by decide) rfl k_p0 (c_X10_brings k_p0 hq) rfl rfl (Nat.le_of_ble_eq_true rfl) dX10_draw_22 ⟨Nat.le_of_ble_eq_true rfl, Nat.le_of_ble_eq_true rfl⟩) hS (fun r10 S9 H locs hf hR hS => ?_)
      refine lv_goto (tgt := 34) B.1.1 B.1.2.1 dX10_draw_25 (by decide) ?_
      exact y_iret B hR hS hf dX10_draw_34
abbrev xr_X10_buy : Room := { frames := 3, cells := 0, slots := 0, locals := 56 }
def f_X10_buy_57 (T : xT) (S : xS) (p0 : Nat) (p1 : Int32) (p2 : Int32) (p3 : Int32) (p4 : Int32) : Option (Int32 × xS) := if p4 = (8 : Int32) then some ((-1 : Int32), S) else xcv (f_X10_deed T S p0) (fun S1 => xc (f_X10_assetAt T S1 p4) (fun r3 S2 => xl r3 (fun v4 => xcv (f_X10_put T S2 p0 v4 ((1 : Int32))) (fun S5 => xcv (f_X10_put T S5 p0 ((v4 + (1 : Int32))) p1) (fun S6 => xcv (f_X10_put T S6 p0 ((v4 + (2 : Int32))) p2) (fun S7 => xcv (f_X10_put T S7 p0 ((v4 + (3 : Int32))) p3) (fun S8 => xcv (f_X10_more T S8 p0 ((3 : Int32)) ((p3 - p1))) (fun S9 => some (p4, S9)))))))))
set_option maxRecDepth 100000 in
set_option maxHeartbeats 4000000 in
theorem w_X10_buy_57 {p : Program} {l : Launch} {e : Env} {s : State} {m : MethodId} {args : Array Value} {below : List Frame} {meth : Method} {c : Code} {z : Nat} {D : va_G} {dA : Nat → ClassId} {T : xT} (B : xB p s m args meth c cX10_buy RX10 6 (some .int) D dA) {q : Int32 × xS} : ∀ (S : xS) (H : Heap) (locs : List Loc) (ls : Array Slot) (p0 : Nat) (p1 : Int32) (p2 : Int32) (p3 : Int32) (p4 : Int32), xlk T p0 10 = true → f_X10_buy_57 T S p0 p1 p2 p3 p4 = some q → xRel z D dA T S H → va_S (xA z) s.heap H locs → xL ls 6 [some (.ref (z + p0)), some (.int p1), some (.int p2), some (.int p3), some (.int p4), none] → xGi p l e xr_X10_buy s m args below meth c z D dA T q H locs 57 ls [] := by
  intro S H locs ls p0 p1 p2 p3 p4 k_p0 hf hR hS hl
  unfold f_X10_buy_57 at hf
  refine lv_iload B.1.1 B.1.2.1 dX10_buy_57 (hl.at 4 rfl) ?_
  refine lv_bipush (v := 8) B.1.1 B.1.2.1 dX10_buy_59 (by decide) ?_
  refine y_icmp_ne (tgt := 66) B hf dX10_buy_61 (by decide) (fun hf => ?_) (fun hf => ?_)
  · refine lv_aload_n B.1.1 B.1.2.1 dX10_buy_66 rfl (hl.at 0 rfl) ?_
    refine y_cv hf (fun q hq => x_runV (ci := 10) (C := RX10) B.1 B.2.2.2 hl hR hS cm_X10_85 ⟨rfl, rfl, Nat.le_of_ble_eq_true rfl, Nat.le_of_ble_eq_true rfl⟩ (by decide) rfl k_p0 (c_X10_deed k_p0 hq) rfl rfl (Nat.le_of_ble_eq_true rfl) dX10_buy_67 ⟨Nat.le_of_ble_eq_true rfl, Nat.le_of_ble_eq_true rfl⟩) hS (fun S1 H locs hf hR hS => ?_)
    refine lv_iload B.1.1 B.1.2.1 dX10_buy_70 (hl.at 4 rfl) ?_
    refine y_ci hf (fun q hq => y_runS B.1 B.2.2.2 hl hR hS cm_X10_218 ⟨rfl, rfl, Nat.le_of_ble_eq_true rfl, Nat.le_of_ble_eq_true rfl⟩ (c_X10_assetAt hq) rfl rfl (Nat.le_of_ble_eq_true rfl) dX10_buy_72 ⟨Nat.le_of_ble_eq_true rfl, Nat.le_of_ble_eq_true rfl⟩) hS (fun r3 S2 H locs hf hR hS => ?_)
    refine y_istore B hl hf dX10_buy_75 (by decide) rfl (fun v4 ls hf hl => ?_)
    have hl : xL ls 6 [_, _, _, _, _, _] := hl
    refine lv_aload_n B.1.1 B.1.2.1 dX10_buy_77 rfl (hl.at 0 rfl) ?_
    refine lv_iload B.1.1 B.1.2.1 dX10_buy_78 (hl.at 5 rfl) ?_
    refine lv_iconst (v := 1) B.1.1 B.1.2.1 dX10_buy_80 (by decide) ?_
    refine y_cv hf (fun q hq => x_runV (ci := 10) (C := RX10) B.1 B.2.2.2 hl hR hS cm_X10_71 ⟨rfl, rfl, Nat.le_of_ble_eq_true rfl, Nat.le_of_ble_eq_true rfl⟩ (by decide) rfl k_p0 (c_X10_put k_p0 hq) rfl rfl (Nat.le_of_ble_eq_true rfl) dX10_buy_81 ⟨Nat.le_of_ble_eq_true rfl, Nat.le_of_ble_eq_true rfl⟩) hS (fun S5 H locs hf hR hS => ?_)
    refine lv_aload_n B.1.1 B.1.2.1 dX10_buy_84 rfl (hl.at 0 rfl) ?_
    refine lv_iload B.1.1 B.1.2.1 dX10_buy_85 (hl.at 5 rfl) ?_
    refine lv_iconst (v := 1) B.1.1 B.1.2.1 dX10_buy_87 (by decide) ?_
    refine lv_iadd B.1.1 B.1.2.1 dX10_buy_88 ?_
    refine lv_iload_n B.1.1 B.1.2.1 dX10_buy_89 rfl (hl.at 1 rfl) ?_
    refine y_cv hf (fun q hq => x_runV (ci := 10) (C := RX10) B.1 B.2.2.2 hl hR hS cm_X10_71 ⟨rfl, rfl, Nat.le_of_ble_eq_true rfl, Nat.le_of_ble_eq_true rfl⟩ (by decide) rfl k_p0 (c_X10_put k_p0 hq) rfl rfl (Nat.le_of_ble_eq_true rfl) dX10_buy_90 ⟨Nat.le_of_ble_eq_true rfl, Nat.le_of_ble_eq_true rfl⟩) hS (fun S6 H locs hf hR hS => ?_)
    refine lv_aload_n B.1.1 B.1.2.1 dX10_buy_93 rfl (hl.at 0 rfl) ?_
    refine lv_iload B.1.1 B.1.2.1 dX10_buy_94 (hl.at 5 rfl) ?_
    refine lv_iconst (v := 2) B.1.1 B.1.2.1 dX10_buy_96 (by decide) ?_
    refine lv_iadd B.1.1 B.1.2.1 dX10_buy_97 ?_
    refine lv_iload_n B.1.1 B.1.2.1 dX10_buy_98 rfl (hl.at 2 rfl) ?_
    refine y_cv hf (fun q hq => x_runV (ci := 10) (C := RX10) B.1 B.2.2.2 hl hR hS cm_X10_71 ⟨rfl, rfl, Nat.le_of_ble_eq_true rfl, Nat.le_of_ble_eq_true rfl⟩ (by decide) rfl k_p0 (c_X10_put k_p0 hq) rfl rfl (Nat.le_of_ble_eq_true rfl) dX10_buy_99 ⟨Nat.le_of_ble_eq_true rfl, Nat.le_of_ble_eq_true rfl⟩) hS (fun S7 H locs hf hR hS => ?_)
    refine lv_aload_n B.1.1 B.1.2.1 dX10_buy_102 rfl (hl.at 0 rfl) ?_
    refine lv_iload B.1.1 B.1.2.1 dX10_buy_103 (hl.at 5 rfl) ?_
    refine lv_iconst (v := 3) B.1.1 B.1.2.1 dX10_buy_105 (by decide) ?_
    refine lv_iadd B.1.1 B.1.2.1 dX10_buy_106 ?_
    refine lv_iload_n B.1.1 B.1.2.1 dX10_buy_107 rfl (hl.at 3 rfl) ?_
    refine y_cv hf (fun q hq => x_runV (ci := 10) (C := RX10) B.1 B.2.2.2 hl hR hS cm_X10_71 ⟨rfl, rfl, Nat.le_of_ble_eq_true rfl, Nat.le_of_ble_eq_true rfl⟩ (by decide) rfl k_p0 (c_X10_put k_p0 hq) rfl rfl (Nat.le_of_ble_eq_true rfl) dX10_buy_108 ⟨Nat.le_of_ble_eq_true rfl, Nat.le_of_ble_eq_true rfl⟩) hS (fun S8 H locs hf hR hS => ?_)
    refine lv_aload_n B.1.1 B.1.2.1 dX10_buy_111 rfl (hl.at 0 rfl) ?_
    refine lv_iconst (v := 3) B.1.1 B.1.2.1 dX10_buy_112 (by decide) ?_
    refine lv_iload_n B.1.1 B.1.2.1 dX10_buy_113 rfl (hl.at 3 rfl) ?_
    refine lv_iload_n B.1.1 B.1.2.1 dX10_buy_114 rfl (hl.at 1 rfl) ?_
    refine lv_isub B.1.1 B.1.2.1 dX10_buy_115 ?_
    refine y_cv hf (fun q hq => x_runV (ci := 10) (C := RX10) B.1 B.2.2.2 hl hR hS cm_X10_246 ⟨rfl, rfl, Nat.le_of_ble_eq_true rfl, Nat.le_of_ble_eq_true rfl⟩ (by decide) rfl k_p0 (c_X10_more k_p0 hq) rfl rfl (Nat.le_of_ble_eq_true rfl) dX10_buy_116 ⟨Nat.le_of_ble_eq_true rfl, Nat.le_of_ble_eq_true rfl⟩) hS (fun S9 H locs hf hR hS => ?_)
    refine lv_iload B.1.1 B.1.2.1 dX10_buy_119 (hl.at 4 rfl) ?_
    exact y_iret B hR hS hf dX10_buy_121
  · refine lv_iconst (v := -1) B.1.1 B.1.2.1 dX10_buy_64 (by decide) ?_
    exact y_iret B hR hS hf dX10_buy_65
def f_X10_buy_35 (T : xT) : Nat → xS → Nat → Int32 → Int32 → Int32 → Int32 → Option (Int32 × xS)
  | 0, _, _, _, _, _, _ => none
  | n + 1, S, p0, p1, p2, p3, p4 => if (8 : Int32) ≤ p4 then f_X10_buy_57 T S p0 p1 p2 p3 p4 else xc (f_X10_isAsset T S p0 p4) (fun r2 S1 => if r2 = (0 : Int32) then f_X10_buy_57 T S1 p0 p1 p2 p3 p4 else xl (p4 + (1 : Int32)) (fun v3 => f_X10_buy_35 T n S1 p0 p1 p2 p3 v3))
set_option maxRecDepth 100000 in
set_option maxHeartbeats 4000000 in
theorem w_X10_buy_35 {p : Program} {l : Launch} {e : Env} {s : State} {m : MethodId} {args : Array Value} {below : List Frame} {meth : Method} {c : Code} {z : Nat} {D : va_G} {dA : Nat → ClassId} {T : xT} (B : xB p s m args meth c cX10_buy RX10 6 (some .int) D dA) {q : Int32 × xS} : ∀ (n : Nat), ∀ (S : xS) (H : Heap) (locs : List Loc) (ls : Array Slot) (p0 : Nat) (p1 : Int32) (p2 : Int32) (p3 : Int32) (p4 : Int32), xlk T p0 10 = true → f_X10_buy_35 T n S p0 p1 p2 p3 p4 = some q → xRel z D dA T S H → va_S (xA z) s.heap H locs → xL ls 6 [some (.ref (z + p0)), some (.int p1), some (.int p2), some (.int p3), some (.int p4), none] → xGi p l e xr_X10_buy s m args below meth c z D dA T q H locs 35 ls [] := by
  intro n
  induction n with
  | zero =>
    intro S H locs ls p0 p1 p2 p3 p4 k_p0 hf hR hS hl
    exact absurd hf (by simp [f_X10_buy_35])
  | succ n ih =>
    intro S H locs ls p0 p1 p2 p3 p4 k_p0 hf hR hS hl
    unfold f_X10_buy_35 at hf
    refine lv_iload B.1.1 B.1.2.1 dX10_buy_35 (hl.at 4 rfl) ?_
    refine lv_bipush (v := 8) B.1.1 B.1.2.1 dX10_buy_37 (by decide) ?_
    refine y_icmp_ge (tgt := 57) B hf dX10_buy_39 (by decide) (fun hf => ?_) (fun hf => ?_)
    · exact w_X10_buy_57 B _ _ _ _ _ _ _ _ _ k_p0 hf hR hS hl
    · refine lv_aload_n B.1.1 B.1.2.1 dX10_buy_42 rfl (hl.at 0 rfl) ?_
      refine lv_iload B.1.1 B.1.2.1 dX10_buy_43 (hl.at 4 rfl) ?_
      refine y_ci hf (fun q hq => x_runV (ci := 10) (C := RX10) B.1 B.2.2.2 hl hR hS cm_X10_221 ⟨rfl, rfl, Nat.le_of_ble_eq_true rfl, Nat.le_of_ble_eq_true rfl⟩ (by decide) rfl k_p0 (c_X10_isAsset k_p0 hq) rfl rfl (Nat.le_of_ble_eq_true rfl) dX10_buy_45 ⟨Nat.le_of_ble_eq_true rfl, Nat.le_of_ble_eq_true rfl⟩) hS (fun r2 S1 H locs hf hR hS => ?_)
      refine y_if_eq (tgt := 57) B hf dX10_buy_48 (by decide) (fun hf => ?_) (fun hf => ?_)
      · exact w_X10_buy_57 B _ _ _ _ _ _ _ _ _ k_p0 hf hR hS hl
      · refine y_iinc (d := 1) B hl hf dX10_buy_51 rfl (by decide) (by decide) rfl (fun v3 ls hf hl => ?_)
        have hl : xL ls 6 [_, _, _, _, _, _] := hl
        refine lv_goto (tgt := 35) B.1.1 B.1.2.1 dX10_buy_54 (by decide) ?_
        exact ih _ _ _ _ _ _ _ _ _ k_p0 hf hR hS hl
def f_X10_buy (T : xT) (S : xS) (p0 : Nat) (p1 : Int32) (p2 : Int32) (p3 : Int32) : Option (Int32 × xS) := xc (f_X10_isIn T S p1 ((0 : Int32)) ((1000000 : Int32))) (fun r2 S1 => if r2 = (0 : Int32) then some ((-1 : Int32), S1) else xc (f_X10_isIn T S1 p2 ((0 : Int32)) ((1000000 : Int32))) (fun r4 S3 => if r4 = (0 : Int32) then some ((-1 : Int32), S3) else xc (f_X10_isIn T S3 p3 ((0 : Int32)) ((1000000 : Int32))) (fun r6 S5 => if r6 = (0 : Int32) then some ((-1 : Int32), S5) else xl ((0 : Int32)) (fun v7 => f_X10_buy_35 T xfu S5 p0 p1 p2 p3 v7))))
set_option maxRecDepth 100000 in
set_option maxHeartbeats 4000000 in
theorem c_X10_buy {l : Launch} {z : Nat} {D : va_G} {dA : Nat → ClassId} {T : xT} {S : xS} {p0 : Nat} {p1 : Int32} {p2 : Int32} {p3 : Int32} (k_p0 : xlk T p0 10 = true) {q : Int32 × xS} (hf : f_X10_buy T S p0 p1 p2 p3 = some q) : Met l yX10_buy (xws yX10_buy cX10_buy 6 (some .int)) xr_X10_buy (xPc z D dA T S [.ref (z + p0), .int p1, .int p2, .int p3]) (xQi z D dA T q) 0 0 (xA z) := by
  refine x_met RX10 (by decide) rfl (Nat.le_of_ble_eq_true rfl) ?_
  intro p e s m below meth c ls _ X hr hlk hml _ hR hS hl
  have B : xB p s m _ meth c cX10_buy RX10 6 (some .int) D dA := ⟨X, hr, hlk, hml⟩
  have hl : xL ls 6 [_, _, _, _, _, _] := hl
  unfold f_X10_buy at hf
  refine lv_iload_n B.1.1 B.1.2.1 dX10_buy_0 rfl (hl.at 1 rfl) ?_
  refine lv_iconst (v := 0) B.1.1 B.1.2.1 dX10_buy_1 (by decide) ?_
  refine lv_ldc (v := 1000000) B.1.1 B.1.2.1 B.1.2.2.1 (B.1.2.2.2.1 _ tw_1240) dX10_buy_2 ?_
  refine y_ci hf (fun q hq => y_runS B.1 B.2.2.2 hl hR hS cm_X10_81 ⟨rfl, rfl, Nat.le_of_ble_eq_true rfl, Nat.le_of_ble_eq_true rfl⟩ (c_X10_isIn hq) rfl rfl (Nat.le_of_ble_eq_true rfl) dX10_buy_4 ⟨Nat.le_of_ble_eq_true rfl, Nat.le_of_ble_eq_true rfl⟩) hS (fun r2 S1 H locs hf hR hS => ?_)
  refine y_if_eq (tgt := 30) B hf dX10_buy_7 (by decide) (fun hf => ?_) (fun hf => ?_)
  · refine lv_iconst (v := -1) B.1.1 B.1.2.1 dX10_buy_30 (by decide) ?_
    exact y_iret B hR hS hf dX10_buy_31
  · refine lv_iload_n B.1.1 B.1.2.1 dX10_buy_10 rfl (hl.at 2 rfl) ?_
    refine lv_iconst (v := 0) B.1.1 B.1.2.1 dX10_buy_11 (by decide) ?_
    refine lv_ldc (v := 1000000) B.1.1 B.1.2.1 B.1.2.2.1 (B.1.2.2.2.1 _ tw_1240) dX10_buy_12 ?_
    refine y_ci hf (fun q hq => y_runS B.1 B.2.2.2 hl hR hS cm_X10_81 ⟨rfl, rfl, Nat.le_of_ble_eq_true rfl, Nat.le_of_ble_eq_true rfl⟩ (c_X10_isIn hq) rfl rfl (Nat.le_of_ble_eq_true rfl) dX10_buy_14 ⟨Nat.le_of_ble_eq_true rfl, Nat.le_of_ble_eq_true rfl⟩) hS (fun r4 S3 H locs hf hR hS => ?_)
    refine y_if_eq (tgt := 30) B hf dX10_buy_17 (by decide) (fun hf => ?_) (fun hf => ?_)
    · refine lv_iconst (v := -1) B.1.1 B.1.2.1 dX10_buy_30 (by decide) ?_
      exact y_iret B hR hS hf dX10_buy_31
    · refine lv_iload_n B.1.1 B.1.2.1 dX10_buy_20 rfl (hl.at 3 rfl) ?_
      refine lv_iconst (v := 0) B.1.1 B.1.2.1 dX10_buy_21 (by decide) ?_
      refine lv_ldc (v := 1000000) B.1.1 B.1.2.1 B.1.2.2.1 (B.1.2.2.2.1 _ tw_1240) dX10_buy_22 ?_
      refine y_ci hf (fun q hq => y_runS B.1 B.2.2.2 hl hR hS cm_X10_81 ⟨rfl, rfl, Nat.le_of_ble_eq_true rfl, Nat.le_of_ble_eq_true rfl⟩ (c_X10_isIn hq) rfl rfl (Nat.le_of_ble_eq_true rfl) dX10_buy_24 ⟨Nat.le_of_ble_eq_true rfl, Nat.le_of_ble_eq_true rfl⟩) hS (fun r6 S5 H locs hf hR hS => ?_)
      refine y_if_ne (tgt := 32) B hf dX10_buy_27 (by decide) (fun hf => ?_) (fun hf => ?_)
      · refine lv_iconst (v := 0) B.1.1 B.1.2.1 dX10_buy_32 (by decide) ?_
        refine y_istore B hl hf dX10_buy_33 (by decide) rfl (fun v7 ls hf hl => ?_)
        have hl : xL ls 6 [_, _, _, _, _, _] := hl
        exact w_X10_buy_35 B xfu _ _ _ _ _ _ _ _ _ k_p0 hf hR hS hl
      · refine lv_iconst (v := -1) B.1.1 B.1.2.1 dX10_buy_30 (by decide) ?_
        exact y_iret B hR hS hf dX10_buy_31
abbrev xr_X10_sell : Room := { frames := 3, cells := 0, slots := 0, locals := 56 }
def f_X10_sell_62 (T : xT) : Nat → xS → Nat → Int32 → Int32 → Option (Int32 × xS)
  | 0, _, _, _, _ => none
  | n + 1, S, p0, p2, p3 => if (4 : Int32) ≤ p3 then xc (f_X10_get T S p0 ((2 : Int32))) (fun r2 S1 => some (r2, S1)) else xcv (f_X10_put T S p0 ((p2 + p3)) ((0 : Int32))) (fun S3 => xl (p3 + (1 : Int32)) (fun v4 => f_X10_sell_62 T n S3 p0 p2 v4))
set_option maxRecDepth 100000 in
set_option maxHeartbeats 4000000 in
theorem w_X10_sell_62 {p : Program} {l : Launch} {e : Env} {s : State} {m : MethodId} {args : Array Value} {below : List Frame} {meth : Method} {c : Code} {z : Nat} {D : va_G} {dA : Nat → ClassId} {T : xT} (B : xB p s m args meth c cX10_sell RX10 4 (some .int) D dA) {q : Int32 × xS} : ∀ (n : Nat), ∀ (S : xS) (H : Heap) (locs : List Loc) (ls : Array Slot) (p0 : Nat) (p2 : Int32) (p3 : Int32), xlk T p0 10 = true → f_X10_sell_62 T n S p0 p2 p3 = some q → xRel z D dA T S H → va_S (xA z) s.heap H locs → xL ls 4 [some (.ref (z + p0)), none, some (.int p2), some (.int p3)] → xGi p l e xr_X10_sell s m args below meth c z D dA T q H locs 62 ls [] := by
  intro n
  induction n with
  | zero =>
    intro S H locs ls p0 p2 p3 k_p0 hf hR hS hl
    exact absurd hf (by simp [f_X10_sell_62])
  | succ n ih =>
    intro S H locs ls p0 p2 p3 k_p0 hf hR hS hl
    unfold f_X10_sell_62 at hf
    refine lv_iload_n B.1.1 B.1.2.1 dX10_sell_62 rfl (hl.at 3 rfl) ?_
    refine lv_iconst (v := 4) B.1.1 B.1.2.1 dX10_sell_63 (by decide) ?_
    refine y_icmp_ge (tgt := 81) B hf dX10_sell_64 (by decide) (fun hf => ?_) (fun hf => ?_)
    · refine lv_aload_n B.1.1 B.1.2.1 dX10_sell_81 rfl (hl.at 0 rfl) ?_
      refine lv_iconst (v := 2) B.1.1 B.1.2.1 dX10_sell_82 (by decide) ?_
      refine y_ci hf (fun q hq => x_runV (ci := 10) (C := RX10) B.1 B.2.2.2 hl hR hS cm_X10_193 ⟨rfl, rfl, Nat.le_of_ble_eq_true rfl, Nat.le_of_ble_eq_true rfl⟩ (by decide) rfl k_p0 (c_X10_get k_p0 hq) rfl rfl (Nat.le_of_ble_eq_true rfl) dX10_sell_83 ⟨Nat.le_of_ble_eq_true rfl, Nat.le_of_ble_eq_true rfl⟩) hS (fun r2 S1 H locs hf hR hS => ?_)
      exact y_iret B hR hS hf dX10_sell_86
    · refine lv_aload_n B.1.1 B.1.2.1 dX10_sell_67 rfl (hl.at 0 rfl) ?_
      refine lv_iload_n B.1.1 B.1.2.1 dX10_sell_68 rfl (hl.at 2 rfl) ?_
      refine lv_iload_n B.1.1 B.1.2.1 dX10_sell_69 rfl (hl.at 3 rfl) ?_
      refine lv_iadd B.1.1 B.1.2.1 dX10_sell_70 ?_
      refine lv_iconst (v := 0) B.1.1 B.1.2.1 dX10_sell_71 (by decide) ?_
      refine y_cv hf (fun q hq => x_runV (ci := 10) (C := RX10) B.1 B.2.2.2 hl hR hS cm_X10_71 ⟨rfl, rfl, Nat.le_of_ble_eq_true rfl, Nat.le_of_ble_eq_true rfl⟩ (by decide) rfl k_p0 (c_X10_put k_p0 hq) rfl rfl (Nat.le_of_ble_eq_true rfl) dX10_sell_72 ⟨Nat.le_of_ble_eq_true rfl, Nat.le_of_ble_eq_true rfl⟩) hS (fun S3 H locs hf hR hS => ?_)
      refine y_iinc (d := 1) B hl hf dX10_sell_75 rfl (by decide) (by decide) rfl (fun v4 ls hf hl => ?_)
      have hl : xL ls 4 [_, _, _, _] := hl
      refine lv_goto (tgt := 62) B.1.1 B.1.2.1 dX10_sell_78 (by decide) ?_
      exact ih _ _ _ _ _ _ _ k_p0 hf hR hS hl
def f_X10_sell (T : xT) (S : xS) (p0 : Nat) (p1 : Int32) : Option (Int32 × xS) := xc (f_X10_isAsset T S p0 p1) (fun r2 S1 => if r2 = (0 : Int32) then some ((-1000000000 : Int32), S1) else xcv (f_X10_deed T S1 p0) (fun S3 => xc (f_X10_assetAt T S3 p1) (fun r5 S4 => xl r5 (fun v6 => xc (f_X10_get T S4 p0 ((v6 + (2 : Int32)))) (fun r8 S7 => xc (f_X10_get T S7 p0 ((v6 + (3 : Int32)))) (fun r10 S9 => xcv (f_X10_more T S9 p0 ((3 : Int32)) ((r8 - r10))) (fun S11 => xc (f_X10_get T S11 p0 ((v6 + (2 : Int32)))) (fun r13 S12 => xc (f_X10_get T S12 p0 ((v6 + (1 : Int32)))) (fun r15 S14 => xcv (f_X10_more T S14 p0 ((2 : Int32)) ((r13 - r15))) (fun S16 => xl ((0 : Int32)) (fun v17 => f_X10_sell_62 T xfu S16 p0 v6 v17)))))))))))
set_option maxRecDepth 100000 in
set_option maxHeartbeats 4000000 in
theorem c_X10_sell {l : Launch} {z : Nat} {D : va_G} {dA : Nat → ClassId} {T : xT} {S : xS} {p0 : Nat} {p1 : Int32} (k_p0 : xlk T p0 10 = true) {q : Int32 × xS} (hf : f_X10_sell T S p0 p1 = some q) : Met l yX10_sell (xws yX10_sell cX10_sell 4 (some .int)) xr_X10_sell (xPc z D dA T S [.ref (z + p0), .int p1]) (xQi z D dA T q) 0 0 (xA z) := by
  refine x_met RX10 (by decide) rfl (Nat.le_of_ble_eq_true rfl) ?_
  intro p e s m below meth c ls _ X hr hlk hml _ hR hS hl
  have B : xB p s m _ meth c cX10_sell RX10 4 (some .int) D dA := ⟨X, hr, hlk, hml⟩
  have hl : xL ls 4 [_, _, _, _] := hl
  unfold f_X10_sell at hf
  refine lv_aload_n B.1.1 B.1.2.1 dX10_sell_0 rfl (hl.at 0 rfl) ?_
  refine lv_iload_n B.1.1 B.1.2.1 dX10_sell_1 rfl (hl.at 1 rfl) ?_
  refine y_ci hf (fun q hq => x_runV (ci := 10) (C := RX10) B.1 B.2.2.2 hl hR hS cm_X10_221 ⟨rfl, rfl, Nat.le_of_ble_eq_true rfl, Nat.le_of_ble_eq_true rfl⟩ (by decide) rfl k_p0 (c_X10_isAsset k_p0 hq) rfl rfl (Nat.le_of_ble_eq_true rfl) dX10_sell_2 ⟨Nat.le_of_ble_eq_true rfl, Nat.le_of_ble_eq_true rfl⟩) hS (fun r2 S1 H locs hf hR hS => ?_)
  refine y_if_ne (tgt := 11) B hf dX10_sell_5 (by decide) (fun hf => ?_) (fun hf => ?_)
  · refine lv_aload_n B.1.1 B.1.2.1 dX10_sell_11 rfl (hl.at 0 rfl) ?_
    refine y_cv hf (fun q hq => x_runV (ci := 10) (C := RX10) B.1 B.2.2.2 hl hR hS cm_X10_85 ⟨rfl, rfl, Nat.le_of_ble_eq_true rfl, Nat.le_of_ble_eq_true rfl⟩ (by decide) rfl k_p0 (c_X10_deed k_p0 hq) rfl rfl (Nat.le_of_ble_eq_true rfl) dX10_sell_12 ⟨Nat.le_of_ble_eq_true rfl, Nat.le_of_ble_eq_true rfl⟩) hS (fun S3 H locs hf hR hS => ?_)
    refine lv_iload_n B.1.1 B.1.2.1 dX10_sell_15 rfl (hl.at 1 rfl) ?_
    refine y_ci hf (fun q hq => y_runS B.1 B.2.2.2 hl hR hS cm_X10_218 ⟨rfl, rfl, Nat.le_of_ble_eq_true rfl, Nat.le_of_ble_eq_true rfl⟩ (c_X10_assetAt hq) rfl rfl (Nat.le_of_ble_eq_true rfl) dX10_sell_16 ⟨Nat.le_of_ble_eq_true rfl, Nat.le_of_ble_eq_true rfl⟩) hS (fun r5 S4 H locs hf hR hS => ?_)
    refine y_istore_n B hl hf dX10_sell_19 rfl (by decide) rfl (fun v6 ls hf hl => ?_)
    have hl : xL ls 4 [_, _, _, _] := hl
    refine lv_aload_n B.1.1 B.1.2.1 dX10_sell_20 rfl (hl.at 0 rfl) ?_
    refine lv_iconst (v := 3) B.1.1 B.1.2.1 dX10_sell_21 (by decide) ?_
    refine lv_aload_n B.1.1 B.1.2.1 dX10_sell_22 rfl (hl.at 0 rfl) ?_
    refine lv_iload_n B.1.1 B.1.2.1 dX10_sell_23 rfl (hl.at 2 rfl) ?_
    refine lv_iconst (v := 2) B.1.1 B.1.2.1 dX10_sell_24 (by decide) ?_
    refine lv_iadd B.1.1 B.1.2.1 dX10_sell_25 ?_
    refine y_ci hf (fun q hq => x_runV (ci := 10) (C := RX10) B.1 B.2.2.2 hl hR hS cm_X10_193 ⟨rfl, rfl, Nat.le_of_ble_eq_true rfl, Nat.le_of_ble_eq_true rfl⟩ (by decide) rfl k_p0 (c_X10_get k_p0 hq) rfl rfl (Nat.le_of_ble_eq_true rfl) dX10_sell_26 ⟨Nat.le_of_ble_eq_true rfl, Nat.le_of_ble_eq_true rfl⟩) hS (fun r8 S7 H locs hf hR hS => ?_)
    refine lv_aload_n B.1.1 B.1.2.1 dX10_sell_29 rfl (hl.at 0 rfl) ?_
    refine lv_iload_n B.1.1 B.1.2.1 dX10_sell_30 rfl (hl.at 2 rfl) ?_
    refine lv_iconst (v := 3) B.1.1 B.1.2.1 dX10_sell_31 (by decide) ?_
    refine lv_iadd B.1.1 B.1.2.1 dX10_sell_32 ?_
    refine y_ci hf (fun q hq => x_runV (ci := 10) (C := RX10) B.1 B.2.2.2 hl hR hS cm_X10_193 ⟨rfl, rfl, Nat.le_of_ble_eq_true rfl, Nat.le_of_ble_eq_true rfl⟩ (by decide) rfl k_p0 (c_X10_get k_p0 hq) rfl rfl (Nat.le_of_ble_eq_true rfl) dX10_sell_33 ⟨Nat.le_of_ble_eq_true rfl, Nat.le_of_ble_eq_true rfl⟩) hS (fun r10 S9 H locs hf hR hS => ?_)
    refine lv_isub B.1.1 B.1.2.1 dX10_sell_36 ?_
    refine y_cv hf (fun q hq => x_runV (ci := 10) (C := RX10) B.1 B.2.2.2 hl hR hS cm_X10_246 ⟨rfl, rfl, Nat.le_of_ble_eq_true rfl, Nat.le_of_ble_eq_true rfl⟩ (by decide) rfl k_p0 (c_X10_more k_p0 hq) rfl rfl (Nat.le_of_ble_eq_true rfl) dX10_sell_37 ⟨Nat.le_of_ble_eq_true rfl, Nat.le_of_ble_eq_true rfl⟩) hS (fun S11 H locs hf hR hS => ?_)
    refine lv_aload_n B.1.1 B.1.2.1 dX10_sell_40 rfl (hl.at 0 rfl) ?_
    refine lv_iconst (v := 2) B.1.1 B.1.2.1 dX10_sell_41 (by decide) ?_
    refine lv_aload_n B.1.1 B.1.2.1 dX10_sell_42 rfl (hl.at 0 rfl) ?_
    refine lv_iload_n B.1.1 B.1.2.1 dX10_sell_43 rfl (hl.at 2 rfl) ?_
    refine lv_iconst (v := 2) B.1.1 B.1.2.1 dX10_sell_44 (by decide) ?_
    refine lv_iadd B.1.1 B.1.2.1 dX10_sell_45 ?_
    refine y_ci hf (fun q hq => x_runV (ci := 10) (C := RX10) B.1 B.2.2.2 hl hR hS cm_X10_193 ⟨rfl, rfl, Nat.le_of_ble_eq_true rfl, Nat.le_of_ble_eq_true rfl⟩ (by decide) rfl k_p0 (c_X10_get k_p0 hq) rfl rfl (Nat.le_of_ble_eq_true rfl) dX10_sell_46 ⟨Nat.le_of_ble_eq_true rfl, Nat.le_of_ble_eq_true rfl⟩) hS (fun r13 S12 H locs hf hR hS => ?_)
    refine lv_aload_n B.1.1 B.1.2.1 dX10_sell_49 rfl (hl.at 0 rfl) ?_
    refine lv_iload_n B.1.1 B.1.2.1 dX10_sell_50 rfl (hl.at 2 rfl) ?_
    refine lv_iconst (v := 1) B.1.1 B.1.2.1 dX10_sell_51 (by decide) ?_
    refine lv_iadd B.1.1 B.1.2.1 dX10_sell_52 ?_
    refine y_ci hf (fun q hq => x_runV (ci := 10) (C := RX10) B.1 B.2.2.2 hl hR hS cm_X10_193 ⟨rfl, rfl, Nat.le_of_ble_eq_true rfl, Nat.le_of_ble_eq_true rfl⟩ (by decide) rfl k_p0 (c_X10_get k_p0 hq) rfl rfl (Nat.le_of_ble_eq_true rfl) dX10_sell_53 ⟨Nat.le_of_ble_eq_true rfl, Nat.le_of_ble_eq_true rfl⟩) hS (fun r15 S14 H locs hf hR hS => ?_)
    refine lv_isub B.1.1 B.1.2.1 dX10_sell_56 ?_
    refine y_cv hf (fun q hq => x_runV (ci := 10) (C := RX10) B.1 B.2.2.2 hl hR hS cm_X10_246 ⟨rfl, rfl, Nat.le_of_ble_eq_true rfl, Nat.le_of_ble_eq_true rfl⟩ (by decide) rfl k_p0 (c_X10_more k_p0 hq) rfl rfl (Nat.le_of_ble_eq_true rfl) dX10_sell_57 ⟨Nat.le_of_ble_eq_true rfl, Nat.le_of_ble_eq_true rfl⟩) hS (fun S16 H locs hf hR hS => ?_)
    refine lv_iconst (v := 0) B.1.1 B.1.2.1 dX10_sell_60 (by decide) ?_
    refine y_istore_n B hl hf dX10_sell_61 rfl (by decide) rfl (fun v17 ls hf hl => ?_)
    have hl : xL ls 4 [_, _, _, _] := hl
    exact w_X10_sell_62 B xfu _ _ _ _ _ _ _ k_p0 hf hR hS (hl.drop [true, false, true, true] rfl)
  · refine lv_ldc (v := -1000000000) B.1.1 B.1.2.1 B.1.2.2.1 (B.1.2.2.2.1 _ tw_1301) dX10_sell_8 ?_
    exact y_iret B hR hS hf dX10_sell_10
abbrev xr_X10_asset : Room := { frames := 3, cells := 0, slots := 0, locals := 55 }
def f_X10_asset (T : xT) (S : xS) (p0 : Nat) (p1 : Int32) (p2 : Int32) : Option (Int32 × xS) := xc (f_X10_isAsset T S p0 p1) (fun r2 S1 => if r2 = (0 : Int32) then some ((-1 : Int32), S1) else xc (f_X10_isIn T S1 p2 ((0 : Int32)) ((2 : Int32))) (fun r4 S3 => if r4 = (0 : Int32) then some ((-1 : Int32), S3) else xc (f_X10_assetAt T S3 p1) (fun r6 S5 => xc (f_X10_get T S5 p0 (((r6 + (1 : Int32)) + p2))) (fun r8 S7 => some (r8, S7)))))
set_option maxRecDepth 100000 in
set_option maxHeartbeats 4000000 in
theorem c_X10_asset {l : Launch} {z : Nat} {D : va_G} {dA : Nat → ClassId} {T : xT} {S : xS} {p0 : Nat} {p1 : Int32} {p2 : Int32} (k_p0 : xlk T p0 10 = true) {q : Int32 × xS} (hf : f_X10_asset T S p0 p1 p2 = some q) : Met l yX10_asset (xws yX10_asset cX10_asset 3 (some .int)) xr_X10_asset (xPc z D dA T S [.ref (z + p0), .int p1, .int p2]) (xQi z D dA T q) 0 0 (xA z) := by
  refine x_met RX10 (by decide) rfl (Nat.le_of_ble_eq_true rfl) ?_
  intro p e s m below meth c ls _ X hr hlk hml _ hR hS hl
  have B : xB p s m _ meth c cX10_asset RX10 3 (some .int) D dA := ⟨X, hr, hlk, hml⟩
  have hl : xL ls 3 [_, _, _] := hl
  unfold f_X10_asset at hf
  refine lv_aload_n B.1.1 B.1.2.1 dX10_asset_0 rfl (hl.at 0 rfl) ?_
  refine lv_iload_n B.1.1 B.1.2.1 dX10_asset_1 rfl (hl.at 1 rfl) ?_
  refine y_ci hf (fun q hq => x_runV (ci := 10) (C := RX10) B.1 B.2.2.2 hl hR hS cm_X10_221 ⟨rfl, rfl, Nat.le_of_ble_eq_true rfl, Nat.le_of_ble_eq_true rfl⟩ (by decide) rfl k_p0 (c_X10_isAsset k_p0 hq) rfl rfl (Nat.le_of_ble_eq_true rfl) dX10_asset_2 ⟨Nat.le_of_ble_eq_true rfl, Nat.le_of_ble_eq_true rfl⟩) hS (fun r2 S1 H locs hf hR hS => ?_)
  refine y_if_eq (tgt := 32) B hf dX10_asset_5 (by decide) (fun hf => ?_) (fun hf => ?_)
  · refine lv_iconst (v := -1) B.1.1 B.1.2.1 dX10_asset_32 (by decide) ?_
    exact y_iret B hR hS hf dX10_asset_33
  · refine lv_iload_n B.1.1 B.1.2.1 dX10_asset_8 rfl (hl.at 2 rfl) ?_
    refine lv_iconst (v := 0) B.1.1 B.1.2.1 dX10_asset_9 (by decide) ?_
    refine lv_iconst (v := 2) B.1.1 B.1.2.1 dX10_asset_10 (by decide) ?_
    refine y_ci hf (fun q hq => y_runS B.1 B.2.2.2 hl hR hS cm_X10_81 ⟨rfl, rfl, Nat.le_of_ble_eq_true rfl, Nat.le_of_ble_eq_true rfl⟩ (c_X10_isIn hq) rfl rfl (Nat.le_of_ble_eq_true rfl) dX10_asset_11 ⟨Nat.le_of_ble_eq_true rfl, Nat.le_of_ble_eq_true rfl⟩) hS (fun r4 S3 H locs hf hR hS => ?_)
    refine y_if_eq (tgt := 32) B hf dX10_asset_14 (by decide) (fun hf => ?_) (fun hf => ?_)
    · refine lv_iconst (v := -1) B.1.1 B.1.2.1 dX10_asset_32 (by decide) ?_
      exact y_iret B hR hS hf dX10_asset_33
    · refine lv_aload_n B.1.1 B.1.2.1 dX10_asset_17 rfl (hl.at 0 rfl) ?_
      refine lv_iload_n B.1.1 B.1.2.1 dX10_asset_18 rfl (hl.at 1 rfl) ?_
      refine y_ci hf (fun q hq => y_runS B.1 B.2.2.2 hl hR hS cm_X10_218 ⟨rfl, rfl, Nat.le_of_ble_eq_true rfl, Nat.le_of_ble_eq_true rfl⟩ (c_X10_assetAt hq) rfl rfl (Nat.le_of_ble_eq_true rfl) dX10_asset_19 ⟨Nat.le_of_ble_eq_true rfl, Nat.le_of_ble_eq_true rfl⟩) hS (fun r6 S5 H locs hf hR hS => ?_)
      refine lv_iconst (v := 1) B.1.1 B.1.2.1 dX10_asset_22 (by decide) ?_
      refine lv_iadd B.1.1 B.1.2.1 dX10_asset_23 ?_
      refine lv_iload_n B.1.1 B.1.2.1 dX10_asset_24 rfl (hl.at 2 rfl) ?_
      refine lv_iadd B.1.1 B.1.2.1 dX10_asset_25 ?_
      refine y_ci hf (fun q hq => x_runV (ci := 10) (C := RX10) B.1 B.2.2.2 hl hR hS cm_X10_193 ⟨rfl, rfl, Nat.le_of_ble_eq_true rfl, Nat.le_of_ble_eq_true rfl⟩ (by decide) rfl k_p0 (c_X10_get k_p0 hq) rfl rfl (Nat.le_of_ble_eq_true rfl) dX10_asset_26 ⟨Nat.le_of_ble_eq_true rfl, Nat.le_of_ble_eq_true rfl⟩) hS (fun r8 S7 H locs hf hR hS => ?_)
      refine lv_goto (tgt := 33) B.1.1 B.1.2.1 dX10_asset_29 (by decide) ?_
      exact y_iret B hR hS hf dX10_asset_33
abbrev xr_X10_market : Room := { frames := 4, cells := 0, slots := 0, locals := 79 }
def f_X10_market (T : xT) (S : xS) (p0 : Nat) (p1 : Int32) (p2 : Int32) : Option (Int32 × xS) := xc (f_X10_isAsset T S p0 p1) (fun r2 S1 => if r2 = (0 : Int32) then xc (f_X10_refuse T S1 p0 ((-1 : Int32))) (fun r4 S3 => some (r4, S3)) else xc (f_X10_isIn T S1 p2 ((0 : Int32)) ((1000000 : Int32))) (fun r6 S5 => if r6 = (0 : Int32) then xc (f_X10_refuse T S5 p0 ((-1 : Int32))) (fun r8 S7 => some (r8, S7)) else xc (f_X10_assetAt T S5 p1) (fun r10 S9 => xc (f_X10_become T S9 p0 ((r10 + (2 : Int32))) p2) (fun r12 S11 => xc (f_X10_tells T S11 p0 r12) (fun r14 S13 => some (r14, S13))))))
set_option maxRecDepth 100000 in
set_option maxHeartbeats 4000000 in
theorem c_X10_market {l : Launch} {z : Nat} {D : va_G} {dA : Nat → ClassId} {T : xT} {S : xS} {p0 : Nat} {p1 : Int32} {p2 : Int32} (k_p0 : xlk T p0 10 = true) {q : Int32 × xS} (hf : f_X10_market T S p0 p1 p2 = some q) : Met l yX10_market (xws yX10_market cX10_market 3 (some .int)) xr_X10_market (xPc z D dA T S [.ref (z + p0), .int p1, .int p2]) (xQi z D dA T q) 0 0 (xA z) := by
  refine x_met RX10 (by decide) rfl (Nat.le_of_ble_eq_true rfl) ?_
  intro p e s m below meth c ls _ X hr hlk hml _ hR hS hl
  have B : xB p s m _ meth c cX10_market RX10 3 (some .int) D dA := ⟨X, hr, hlk, hml⟩
  have hl : xL ls 3 [_, _, _] := hl
  unfold f_X10_market at hf
  refine lv_aload_n B.1.1 B.1.2.1 dX10_market_0 rfl (hl.at 0 rfl) ?_
  refine lv_iload_n B.1.1 B.1.2.1 dX10_market_1 rfl (hl.at 1 rfl) ?_
  refine y_ci hf (fun q hq => x_runV (ci := 10) (C := RX10) B.1 B.2.2.2 hl hR hS cm_X10_221 ⟨rfl, rfl, Nat.le_of_ble_eq_true rfl, Nat.le_of_ble_eq_true rfl⟩ (by decide) rfl k_p0 (c_X10_isAsset k_p0 hq) rfl rfl (Nat.le_of_ble_eq_true rfl) dX10_market_2 ⟨Nat.le_of_ble_eq_true rfl, Nat.le_of_ble_eq_true rfl⟩) hS (fun r2 S1 H locs hf hR hS => ?_)
  refine y_if_eq (tgt := 36) B hf dX10_market_5 (by decide) (fun hf => ?_) (fun hf => ?_)
  · refine lv_aload_n B.1.1 B.1.2.1 dX10_market_36 rfl (hl.at 0 rfl) ?_
    refine lv_iconst (v := -1) B.1.1 B.1.2.1 dX10_market_37 (by decide) ?_
    refine y_ci hf (fun q hq => x_runV (ci := 10) (C := RX10) B.1 B.2.2.2 hl hR hS cm_X10_298 ⟨rfl, rfl, Nat.le_of_ble_eq_true rfl, Nat.le_of_ble_eq_true rfl⟩ (by decide) rfl k_p0 (c_X10_refuse k_p0 hq) rfl rfl (Nat.le_of_ble_eq_true rfl) dX10_market_38 ⟨Nat.le_of_ble_eq_true rfl, Nat.le_of_ble_eq_true rfl⟩) hS (fun r4 S3 H locs hf hR hS => ?_)
    exact y_iret B hR hS hf dX10_market_41
  · refine lv_iload_n B.1.1 B.1.2.1 dX10_market_8 rfl (hl.at 2 rfl) ?_
    refine lv_iconst (v := 0) B.1.1 B.1.2.1 dX10_market_9 (by decide) ?_
    refine lv_ldc (v := 1000000) B.1.1 B.1.2.1 B.1.2.2.1 (B.1.2.2.2.1 _ tw_1240) dX10_market_10 ?_
    refine y_ci hf (fun q hq => y_runS B.1 B.2.2.2 hl hR hS cm_X10_81 ⟨rfl, rfl, Nat.le_of_ble_eq_true rfl, Nat.le_of_ble_eq_true rfl⟩ (c_X10_isIn hq) rfl rfl (Nat.le_of_ble_eq_true rfl) dX10_market_12 ⟨Nat.le_of_ble_eq_true rfl, Nat.le_of_ble_eq_true rfl⟩) hS (fun r6 S5 H locs hf hR hS => ?_)
    refine y_if_eq (tgt := 36) B hf dX10_market_15 (by decide) (fun hf => ?_) (fun hf => ?_)
    · refine lv_aload_n B.1.1 B.1.2.1 dX10_market_36 rfl (hl.at 0 rfl) ?_
      refine lv_iconst (v := -1) B.1.1 B.1.2.1 dX10_market_37 (by decide) ?_
      refine y_ci hf (fun q hq => x_runV (ci := 10) (C := RX10) B.1 B.2.2.2 hl hR hS cm_X10_298 ⟨rfl, rfl, Nat.le_of_ble_eq_true rfl, Nat.le_of_ble_eq_true rfl⟩ (by decide) rfl k_p0 (c_X10_refuse k_p0 hq) rfl rfl (Nat.le_of_ble_eq_true rfl) dX10_market_38 ⟨Nat.le_of_ble_eq_true rfl, Nat.le_of_ble_eq_true rfl⟩) hS (fun r8 S7 H locs hf hR hS => ?_)
      exact y_iret B hR hS hf dX10_market_41
    · refine lv_aload_n B.1.1 B.1.2.1 dX10_market_18 rfl (hl.at 0 rfl) ?_
      refine lv_aload_n B.1.1 B.1.2.1 dX10_market_19 rfl (hl.at 0 rfl) ?_
      refine lv_iload_n B.1.1 B.1.2.1 dX10_market_20 rfl (hl.at 1 rfl) ?_
      refine y_ci hf (fun q hq => y_runS B.1 B.2.2.2 hl hR hS cm_X10_218 ⟨rfl, rfl, Nat.le_of_ble_eq_true rfl, Nat.le_of_ble_eq_true rfl⟩ (c_X10_assetAt hq) rfl rfl (Nat.le_of_ble_eq_true rfl) dX10_market_21 ⟨Nat.le_of_ble_eq_true rfl, Nat.le_of_ble_eq_true rfl⟩) hS (fun r10 S9 H locs hf hR hS => ?_)
      refine lv_iconst (v := 2) B.1.1 B.1.2.1 dX10_market_24 (by decide) ?_
      refine lv_iadd B.1.1 B.1.2.1 dX10_market_25 ?_
      refine lv_iload_n B.1.1 B.1.2.1 dX10_market_26 rfl (hl.at 2 rfl) ?_
      refine y_ci hf (fun q hq => x_runV (ci := 10) (C := RX10) B.1 B.2.2.2 hl hR hS cm_X10_361 ⟨rfl, rfl, Nat.le_of_ble_eq_true rfl, Nat.le_of_ble_eq_true rfl⟩ (by decide) rfl k_p0 (c_X10_become k_p0 hq) rfl rfl (Nat.le_of_ble_eq_true rfl) dX10_market_27 ⟨Nat.le_of_ble_eq_true rfl, Nat.le_of_ble_eq_true rfl⟩) hS (fun r12 S11 H locs hf hR hS => ?_)
      refine y_ci hf (fun q hq => x_runV (ci := 10) (C := RX10) B.1 B.2.2.2 hl hR hS cm_X10_304 ⟨rfl, rfl, Nat.le_of_ble_eq_true rfl, Nat.le_of_ble_eq_true rfl⟩ (by decide) rfl k_p0 (c_X10_tells k_p0 hq) rfl rfl (Nat.le_of_ble_eq_true rfl) dX10_market_30 ⟨Nat.le_of_ble_eq_true rfl, Nat.le_of_ble_eq_true rfl⟩) hS (fun r14 S13 H locs hf hR hS => ?_)
      refine lv_goto (tgt := 41) B.1.1 B.1.2.1 dX10_market_33 (by decide) ?_
      exact y_iret B hR hS hf dX10_market_41
abbrev xr_X10_lose : Room := { frames := 3, cells := 0, slots := 0, locals := 56 }
def f_X10_lose (T : xT) (S : xS) (p0 : Nat) (p1 : Int32) (p2 : Int32) : Option (Int32 × xS) := xc (f_X10_isAsset T S p0 p1) (fun r2 S1 => if r2 = (0 : Int32) then xc (f_X10_refuse T S1 p0 ((-1 : Int32))) (fun r4 S3 => some (r4, S3)) else xc (f_X10_assetAt T S1 p1) (fun r6 S5 => xc (f_X10_get T S5 p0 ((r6 + (1 : Int32)))) (fun r8 S7 => xc (f_X10_isIn T S7 p2 ((1 : Int32)) r8) (fun r10 S9 => if r10 = (0 : Int32) then xc (f_X10_refuse T S9 p0 ((-1 : Int32))) (fun r23 S22 => some (r23, S22)) else xcv (f_X10_deed T S9 p0) (fun S11 => xc (f_X10_assetAt T S11 p1) (fun r13 S12 => xcv (f_X10_more T S12 p0 ((r13 + (1 : Int32))) ((-p2))) (fun S14 => xcv (f_X10_more T S14 p0 ((2 : Int32)) ((-p2))) (fun S15 => xc (f_X10_assetAt T S15 p1) (fun r17 S16 => xc (f_X10_get T S16 p0 ((r17 + (1 : Int32)))) (fun r19 S18 => xc (f_X10_tells T S18 p0 r19) (fun r21 S20 => some (r21, S20))))))))))))
set_option maxRecDepth 100000 in
set_option maxHeartbeats 4000000 in
theorem c_X10_lose {l : Launch} {z : Nat} {D : va_G} {dA : Nat → ClassId} {T : xT} {S : xS} {p0 : Nat} {p1 : Int32} {p2 : Int32} (k_p0 : xlk T p0 10 = true) {q : Int32 × xS} (hf : f_X10_lose T S p0 p1 p2 = some q) : Met l yX10_lose (xws yX10_lose cX10_lose 3 (some .int)) xr_X10_lose (xPc z D dA T S [.ref (z + p0), .int p1, .int p2]) (xQi z D dA T q) 0 0 (xA z) := by
  refine x_met RX10 (by decide) rfl (Nat.le_of_ble_eq_true rfl) ?_
  intro p e s m below meth c ls _ X hr hlk hml _ hR hS hl
  have B : xB p s m _ meth c cX10_lose RX10 3 (some .int) D dA := ⟨X, hr, hlk, hml⟩
  have hl : xL ls 3 [_, _, _] := hl
  unfold f_X10_lose at hf
  refine lv_aload_n B.1.1 B.1.2.1 dX10_lose_0 rfl (hl.at 0 rfl) ?_
  refine lv_iload_n B.1.1 B.1.2.1 dX10_lose_1 rfl (hl.at 1 rfl) ?_
  refine y_ci hf (fun q hq => x_runV (ci := 10) (C := RX10) B.1 B.2.2.2 hl hR hS cm_X10_221 ⟨rfl, rfl, Nat.le_of_ble_eq_true rfl, Nat.le_of_ble_eq_true rfl⟩ (by decide) rfl k_p0 (c_X10_isAsset k_p0 hq) rfl rfl (Nat.le_of_ble_eq_true rfl) dX10_lose_2 ⟨Nat.le_of_ble_eq_true rfl, Nat.le_of_ble_eq_true rfl⟩) hS (fun r2 S1 H locs hf hR hS => ?_)
  refine y_if_eq (tgt := 26) B hf dX10_lose_5 (by decide) (fun hf => ?_) (fun hf => ?_)
  · refine lv_aload_n B.1.1 B.1.2.1 dX10_lose_26 rfl (hl.at 0 rfl) ?_
    refine lv_iconst (v := -1) B.1.1 B.1.2.1 dX10_lose_27 (by decide) ?_
    refine y_ci hf (fun q hq => x_runV (ci := 10) (C := RX10) B.1 B.2.2.2 hl hR hS cm_X10_298 ⟨rfl, rfl, Nat.le_of_ble_eq_true rfl, Nat.le_of_ble_eq_true rfl⟩ (by decide) rfl k_p0 (c_X10_refuse k_p0 hq) rfl rfl (Nat.le_of_ble_eq_true rfl) dX10_lose_28 ⟨Nat.le_of_ble_eq_true rfl, Nat.le_of_ble_eq_true rfl⟩) hS (fun r4 S3 H locs hf hR hS => ?_)
    exact y_iret B hR hS hf dX10_lose_31
  · refine lv_iload_n B.1.1 B.1.2.1 dX10_lose_8 rfl (hl.at 2 rfl) ?_
    refine lv_iconst (v := 1) B.1.1 B.1.2.1 dX10_lose_9 (by decide) ?_
    refine lv_aload_n B.1.1 B.1.2.1 dX10_lose_10 rfl (hl.at 0 rfl) ?_
    refine lv_iload_n B.1.1 B.1.2.1 dX10_lose_11 rfl (hl.at 1 rfl) ?_
    refine y_ci hf (fun q hq => y_runS B.1 B.2.2.2 hl hR hS cm_X10_218 ⟨rfl, rfl, Nat.le_of_ble_eq_true rfl, Nat.le_of_ble_eq_true rfl⟩ (c_X10_assetAt hq) rfl rfl (Nat.le_of_ble_eq_true rfl) dX10_lose_12 ⟨Nat.le_of_ble_eq_true rfl, Nat.le_of_ble_eq_true rfl⟩) hS (fun r6 S5 H locs hf hR hS => ?_)
    refine lv_iconst (v := 1) B.1.1 B.1.2.1 dX10_lose_15 (by decide) ?_
    refine lv_iadd B.1.1 B.1.2.1 dX10_lose_16 ?_
    refine y_ci hf (fun q hq => x_runV (ci := 10) (C := RX10) B.1 B.2.2.2 hl hR hS cm_X10_193 ⟨rfl, rfl, Nat.le_of_ble_eq_true rfl, Nat.le_of_ble_eq_true rfl⟩ (by decide) rfl k_p0 (c_X10_get k_p0 hq) rfl rfl (Nat.le_of_ble_eq_true rfl) dX10_lose_17 ⟨Nat.le_of_ble_eq_true rfl, Nat.le_of_ble_eq_true rfl⟩) hS (fun r8 S7 H locs hf hR hS => ?_)
    refine y_ci hf (fun q hq => y_runS B.1 B.2.2.2 hl hR hS cm_X10_81 ⟨rfl, rfl, Nat.le_of_ble_eq_true rfl, Nat.le_of_ble_eq_true rfl⟩ (c_X10_isIn hq) rfl rfl (Nat.le_of_ble_eq_true rfl) dX10_lose_20 ⟨Nat.le_of_ble_eq_true rfl, Nat.le_of_ble_eq_true rfl⟩) hS (fun r10 S9 H locs hf hR hS => ?_)
    refine y_if_ne (tgt := 32) B hf dX10_lose_23 (by decide) (fun hf => ?_) (fun hf => ?_)
    · refine lv_aload_n B.1.1 B.1.2.1 dX10_lose_32 rfl (hl.at 0 rfl) ?_
      refine y_cv hf (fun q hq => x_runV (ci := 10) (C := RX10) B.1 B.2.2.2 hl hR hS cm_X10_85 ⟨rfl, rfl, Nat.le_of_ble_eq_true rfl, Nat.le_of_ble_eq_true rfl⟩ (by decide) rfl k_p0 (c_X10_deed k_p0 hq) rfl rfl (Nat.le_of_ble_eq_true rfl) dX10_lose_33 ⟨Nat.le_of_ble_eq_true rfl, Nat.le_of_ble_eq_true rfl⟩) hS (fun S11 H locs hf hR hS => ?_)
      refine lv_aload_n B.1.1 B.1.2.1 dX10_lose_36 rfl (hl.at 0 rfl) ?_
      refine lv_iload_n B.1.1 B.1.2.1 dX10_lose_37 rfl (hl.at 1 rfl) ?_
      refine y_ci hf (fun q hq => y_runS B.1 B.2.2.2 hl hR hS cm_X10_218 ⟨rfl, rfl, Nat.le_of_ble_eq_true rfl, Nat.le_of_ble_eq_true rfl⟩ (c_X10_assetAt hq) rfl rfl (Nat.le_of_ble_eq_true rfl) dX10_lose_38 ⟨Nat.le_of_ble_eq_true rfl, Nat.le_of_ble_eq_true rfl⟩) hS (fun r13 S12 H locs hf hR hS => ?_)
      refine lv_iconst (v := 1) B.1.1 B.1.2.1 dX10_lose_41 (by decide) ?_
      refine lv_iadd B.1.1 B.1.2.1 dX10_lose_42 ?_
      refine lv_iload_n B.1.1 B.1.2.1 dX10_lose_43 rfl (hl.at 2 rfl) ?_
      refine lv_ineg B.1.1 B.1.2.1 dX10_lose_44 ?_
      refine y_cv hf (fun q hq => x_runV (ci := 10) (C := RX10) B.1 B.2.2.2 hl hR hS cm_X10_246 ⟨rfl, rfl, Nat.le_of_ble_eq_true rfl, Nat.le_of_ble_eq_true rfl⟩ (by decide) rfl k_p0 (c_X10_more k_p0 hq) rfl rfl (Nat.le_of_ble_eq_true rfl) dX10_lose_45 ⟨Nat.le_of_ble_eq_true rfl, Nat.le_of_ble_eq_true rfl⟩) hS (fun S14 H locs hf hR hS => ?_)
      refine lv_aload_n B.1.1 B.1.2.1 dX10_lose_48 rfl (hl.at 0 rfl) ?_
      refine lv_iconst (v := 2) B.1.1 B.1.2.1 dX10_lose_49 (by decide) ?_
      refine lv_iload_n B.1.1 B.1.2.1 dX10_lose_50 rfl (hl.at 2 rfl) ?_
      refine lv_ineg B.1.1 B.1.2.1 dX10_lose_51 ?_
      refine y_cv hf (fun q hq => x_runV (ci := 10) (C := RX10) B.1 B.2.2.2 hl hR hS cm_X10_246 ⟨rfl, rfl, Nat.le_of_ble_eq_true rfl, Nat.le_of_ble_eq_true rfl⟩ (by decide) rfl k_p0 (c_X10_more k_p0 hq) rfl rfl (Nat.le_of_ble_eq_true rfl) dX10_lose_52 ⟨Nat.le_of_ble_eq_true rfl, Nat.le_of_ble_eq_true rfl⟩) hS (fun S15 H locs hf hR hS => ?_)
      refine lv_aload_n B.1.1 B.1.2.1 dX10_lose_55 rfl (hl.at 0 rfl) ?_
      refine lv_aload_n B.1.1 B.1.2.1 dX10_lose_56 rfl (hl.at 0 rfl) ?_
      refine lv_iload_n B.1.1 B.1.2.1 dX10_lose_57 rfl (hl.at 1 rfl) ?_
      refine y_ci hf (fun q hq => y_runS B.1 B.2.2.2 hl hR hS cm_X10_218 ⟨rfl, rfl, Nat.le_of_ble_eq_true rfl, Nat.le_of_ble_eq_true rfl⟩ (c_X10_assetAt hq) rfl rfl (Nat.le_of_ble_eq_true rfl) dX10_lose_58 ⟨Nat.le_of_ble_eq_true rfl, Nat.le_of_ble_eq_true rfl⟩) hS (fun r17 S16 H locs hf hR hS => ?_)
      refine lv_iconst (v := 1) B.1.1 B.1.2.1 dX10_lose_61 (by decide) ?_
      refine lv_iadd B.1.1 B.1.2.1 dX10_lose_62 ?_
      refine y_ci hf (fun q hq => x_runV (ci := 10) (C := RX10) B.1 B.2.2.2 hl hR hS cm_X10_193 ⟨rfl, rfl, Nat.le_of_ble_eq_true rfl, Nat.le_of_ble_eq_true rfl⟩ (by decide) rfl k_p0 (c_X10_get k_p0 hq) rfl rfl (Nat.le_of_ble_eq_true rfl) dX10_lose_63 ⟨Nat.le_of_ble_eq_true rfl, Nat.le_of_ble_eq_true rfl⟩) hS (fun r19 S18 H locs hf hR hS => ?_)
      refine y_ci hf (fun q hq => x_runV (ci := 10) (C := RX10) B.1 B.2.2.2 hl hR hS cm_X10_304 ⟨rfl, rfl, Nat.le_of_ble_eq_true rfl, Nat.le_of_ble_eq_true rfl⟩ (by decide) rfl k_p0 (c_X10_tells k_p0 hq) rfl rfl (Nat.le_of_ble_eq_true rfl) dX10_lose_66 ⟨Nat.le_of_ble_eq_true rfl, Nat.le_of_ble_eq_true rfl⟩) hS (fun r21 S20 H locs hf hR hS => ?_)
      exact y_iret B hR hS hf dX10_lose_69
    · refine lv_aload_n B.1.1 B.1.2.1 dX10_lose_26 rfl (hl.at 0 rfl) ?_
      refine lv_iconst (v := -1) B.1.1 B.1.2.1 dX10_lose_27 (by decide) ?_
      refine y_ci hf (fun q hq => x_runV (ci := 10) (C := RX10) B.1 B.2.2.2 hl hR hS cm_X10_298 ⟨rfl, rfl, Nat.le_of_ble_eq_true rfl, Nat.le_of_ble_eq_true rfl⟩ (by decide) rfl k_p0 (c_X10_refuse k_p0 hq) rfl rfl (Nat.le_of_ble_eq_true rfl) dX10_lose_28 ⟨Nat.le_of_ble_eq_true rfl, Nat.le_of_ble_eq_true rfl⟩) hS (fun r23 S22 H locs hf hR hS => ?_)
      exact y_iret B hR hS hf dX10_lose_31
abbrev xr_X10_owes : Room := { frames := 3, cells := 0, slots := 0, locals := 56 }
def f_X10_owes (T : xT) (S : xS) (p0 : Nat) (p1 : Int32) (p2 : Int32) : Option (Int32 × xS) := xcv (f_X10_deed T S p0) (fun S1 => xc (f_X10_assetAt T S1 p1) (fun r3 S2 => xcv (f_X10_more T S2 p0 ((r3 + (3 : Int32))) p2) (fun S4 => xcv (f_X10_more T S4 p0 ((3 : Int32)) p2) (fun S5 => xc (f_X10_assetAt T S5 p1) (fun r7 S6 => xc (f_X10_get T S6 p0 ((r7 + (3 : Int32)))) (fun r9 S8 => xc (f_X10_tells T S8 p0 r9) (fun r11 S10 => some (r11, S10))))))))
set_option maxRecDepth 100000 in
set_option maxHeartbeats 4000000 in
theorem c_X10_owes {l : Launch} {z : Nat} {D : va_G} {dA : Nat → ClassId} {T : xT} {S : xS} {p0 : Nat} {p1 : Int32} {p2 : Int32} (k_p0 : xlk T p0 10 = true) {q : Int32 × xS} (hf : f_X10_owes T S p0 p1 p2 = some q) : Met l yX10_owes (xws yX10_owes cX10_owes 3 (some .int)) xr_X10_owes (xPc z D dA T S [.ref (z + p0), .int p1, .int p2]) (xQi z D dA T q) 0 0 (xA z) := by
  refine x_met RX10 (by decide) rfl (Nat.le_of_ble_eq_true rfl) ?_
  intro p e s m below meth c ls _ X hr hlk hml _ hR hS hl
  have B : xB p s m _ meth c cX10_owes RX10 3 (some .int) D dA := ⟨X, hr, hlk, hml⟩
  have hl : xL ls 3 [_, _, _] := hl
  unfold f_X10_owes at hf
  refine lv_aload_n B.1.1 B.1.2.1 dX10_owes_0 rfl (hl.at 0 rfl) ?_
  refine y_cv hf (fun q hq => x_runV (ci := 10) (C := RX10) B.1 B.2.2.2 hl hR hS cm_X10_85 ⟨rfl, rfl, Nat.le_of_ble_eq_true rfl, Nat.le_of_ble_eq_true rfl⟩ (by decide) rfl k_p0 (c_X10_deed k_p0 hq) rfl rfl (Nat.le_of_ble_eq_true rfl) dX10_owes_1 ⟨Nat.le_of_ble_eq_true rfl, Nat.le_of_ble_eq_true rfl⟩) hS (fun S1 H locs hf hR hS => ?_)
  refine lv_aload_n B.1.1 B.1.2.1 dX10_owes_4 rfl (hl.at 0 rfl) ?_
  refine lv_iload_n B.1.1 B.1.2.1 dX10_owes_5 rfl (hl.at 1 rfl) ?_
  refine y_ci hf (fun q hq => y_runS B.1 B.2.2.2 hl hR hS cm_X10_218 ⟨rfl, rfl, Nat.le_of_ble_eq_true rfl, Nat.le_of_ble_eq_true rfl⟩ (c_X10_assetAt hq) rfl rfl (Nat.le_of_ble_eq_true rfl) dX10_owes_6 ⟨Nat.le_of_ble_eq_true rfl, Nat.le_of_ble_eq_true rfl⟩) hS (fun r3 S2 H locs hf hR hS => ?_)
  refine lv_iconst (v := 3) B.1.1 B.1.2.1 dX10_owes_9 (by decide) ?_
  refine lv_iadd B.1.1 B.1.2.1 dX10_owes_10 ?_
  refine lv_iload_n B.1.1 B.1.2.1 dX10_owes_11 rfl (hl.at 2 rfl) ?_
  refine y_cv hf (fun q hq => x_runV (ci := 10) (C := RX10) B.1 B.2.2.2 hl hR hS cm_X10_246 ⟨rfl, rfl, Nat.le_of_ble_eq_true rfl, Nat.le_of_ble_eq_true rfl⟩ (by decide) rfl k_p0 (c_X10_more k_p0 hq) rfl rfl (Nat.le_of_ble_eq_true rfl) dX10_owes_12 ⟨Nat.le_of_ble_eq_true rfl, Nat.le_of_ble_eq_true rfl⟩) hS (fun S4 H locs hf hR hS => ?_)
  refine lv_aload_n B.1.1 B.1.2.1 dX10_owes_15 rfl (hl.at 0 rfl) ?_
  refine lv_iconst (v := 3) B.1.1 B.1.2.1 dX10_owes_16 (by decide) ?_
  refine lv_iload_n B.1.1 B.1.2.1 dX10_owes_17 rfl (hl.at 2 rfl) ?_
  refine y_cv hf (fun q hq => x_runV (ci := 10) (C := RX10) B.1 B.2.2.2 hl hR hS cm_X10_246 ⟨rfl, rfl, Nat.le_of_ble_eq_true rfl, Nat.le_of_ble_eq_true rfl⟩ (by decide) rfl k_p0 (c_X10_more k_p0 hq) rfl rfl (Nat.le_of_ble_eq_true rfl) dX10_owes_18 ⟨Nat.le_of_ble_eq_true rfl, Nat.le_of_ble_eq_true rfl⟩) hS (fun S5 H locs hf hR hS => ?_)
  refine lv_aload_n B.1.1 B.1.2.1 dX10_owes_21 rfl (hl.at 0 rfl) ?_
  refine lv_aload_n B.1.1 B.1.2.1 dX10_owes_22 rfl (hl.at 0 rfl) ?_
  refine lv_iload_n B.1.1 B.1.2.1 dX10_owes_23 rfl (hl.at 1 rfl) ?_
  refine y_ci hf (fun q hq => y_runS B.1 B.2.2.2 hl hR hS cm_X10_218 ⟨rfl, rfl, Nat.le_of_ble_eq_true rfl, Nat.le_of_ble_eq_true rfl⟩ (c_X10_assetAt hq) rfl rfl (Nat.le_of_ble_eq_true rfl) dX10_owes_24 ⟨Nat.le_of_ble_eq_true rfl, Nat.le_of_ble_eq_true rfl⟩) hS (fun r7 S6 H locs hf hR hS => ?_)
  refine lv_iconst (v := 3) B.1.1 B.1.2.1 dX10_owes_27 (by decide) ?_
  refine lv_iadd B.1.1 B.1.2.1 dX10_owes_28 ?_
  refine y_ci hf (fun q hq => x_runV (ci := 10) (C := RX10) B.1 B.2.2.2 hl hR hS cm_X10_193 ⟨rfl, rfl, Nat.le_of_ble_eq_true rfl, Nat.le_of_ble_eq_true rfl⟩ (by decide) rfl k_p0 (c_X10_get k_p0 hq) rfl rfl (Nat.le_of_ble_eq_true rfl) dX10_owes_29 ⟨Nat.le_of_ble_eq_true rfl, Nat.le_of_ble_eq_true rfl⟩) hS (fun r9 S8 H locs hf hR hS => ?_)
  refine y_ci hf (fun q hq => x_runV (ci := 10) (C := RX10) B.1 B.2.2.2 hl hR hS cm_X10_304 ⟨rfl, rfl, Nat.le_of_ble_eq_true rfl, Nat.le_of_ble_eq_true rfl⟩ (by decide) rfl k_p0 (c_X10_tells k_p0 hq) rfl rfl (Nat.le_of_ble_eq_true rfl) dX10_owes_32 ⟨Nat.le_of_ble_eq_true rfl, Nat.le_of_ble_eq_true rfl⟩) hS (fun r11 S10 H locs hf hR hS => ?_)
  exact y_iret B hR hS hf dX10_owes_35
