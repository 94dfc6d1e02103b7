abbrev xr_X10_borrow : Room := { frames := 4, cells := 0, slots := 0, locals := 78 }
def f_X10_borrow (T : xT) (S : xS) (p0 : Nat) (p1 : Int32) (p2 : Int32) : Option (Int32 × xS) := xc (f_X10_isAsset T S p0 p1) (fun r2 S1 => if r2 = (0 : Int32) then xc (f_X10_refuse T S1 p0 ((-1 : Int32))) (fun r4 S3 => some (r4, S3)) else xc (f_X10_assetAt T S1 p1) (fun r6 S5 => xc (f_X10_get T S5 p0 ((r6 + (3 : Int32)))) (fun r8 S7 => xc (f_X10_isIn T S7 p2 ((1 : Int32)) (((1000000 : Int32) - r8))) (fun r10 S9 => if r10 = (0 : Int32) then xc (f_X10_refuse T S9 p0 ((-1 : Int32))) (fun r12 S11 => some (r12, S11)) else xc (f_X10_owes T S9 p0 p1 p2) (fun r14 S13 => some (r14, S13))))))
set_option maxRecDepth 100000 in
set_option maxHeartbeats 4000000 in
theorem c_X10_borrow {l : Launch} {z : Nat} {D : va_G} {dA : Nat → ClassId} {T : xT} {S : xS} {p0 : Nat} {p1 : Int32} {p2 : Int32} (k_p0 : xlk T p0 10 = true) {q : Int32 × xS} (hf : f_X10_borrow T S p0 p1 p2 = some q) : Met l yX10_borrow (xws yX10_borrow cX10_borrow 3 (some .int)) xr_X10_borrow (xPc z D dA T S [.ref (z + p0), .int p1, .int p2]) (xQi z D dA T q) 0 0 (xA z) := by
  refine x_met RX10 (by decide) rfl (Nat.le_of_ble_eq_true rfl) ?_
  intro p e s m below meth c ls _ X hr hlk hml _ hR hS hl
  have B : xB p s m _ meth c cX10_borrow RX10 3 (some .int) D dA := ⟨X, hr, hlk, hml⟩
  have hl : xL ls 3 [_, _, _] := hl
  unfold f_X10_borrow at hf
  refine lv_aload_n B.1.1 B.1.2.1 dX10_borrow_0 rfl (hl.at 0 rfl) ?_
  refine lv_iload_n B.1.1 B.1.2.1 dX10_borrow_1 rfl (hl.at 1 rfl) ?_
  refine y_ci hf (fun q hq => x_runV (ci := 10) (C := RX10) B.1 B.2.2.2 hl hR hS cm_X10_221 ⟨rfl, rfl, Nat.le_of_ble_eq_true rfl, Nat.le_of_ble_eq_true rfl⟩ (by decide) rfl k_p0 (c_X10_isAsset k_p0 hq) rfl rfl (Nat.le_of_ble_eq_true rfl) dX10_borrow_2 ⟨Nat.le_of_ble_eq_true rfl, Nat.le_of_ble_eq_true rfl⟩) hS (fun r2 S1 H locs hf hR hS => ?_)
  refine y_if_eq (tgt := 38) B hf dX10_borrow_5 (by decide) (fun hf => ?_) (fun hf => ?_)
  · refine lv_aload_n B.1.1 B.1.2.1 dX10_borrow_38 rfl (hl.at 0 rfl) ?_
    refine lv_iconst (v := -1) B.1.1 B.1.2.1 dX10_borrow_39 (by decide) ?_
    refine y_ci hf (fun q hq => x_runV (ci := 10) (C := RX10) B.1 B.2.2.2 hl hR hS cm_X10_298 ⟨rfl, rfl, Nat.le_of_ble_eq_true rfl, Nat.le_of_ble_eq_true rfl⟩ (by decide) rfl k_p0 (c_X10_refuse k_p0 hq) rfl rfl (Nat.le_of_ble_eq_true rfl) dX10_borrow_40 ⟨Nat.le_of_ble_eq_true rfl, Nat.le_of_ble_eq_true rfl⟩) hS (fun r4 S3 H locs hf hR hS => ?_)
    exact y_iret B hR hS hf dX10_borrow_43
  · refine lv_iload_n B.1.1 B.1.2.1 dX10_borrow_8 rfl (hl.at 2 rfl) ?_
    refine lv_iconst (v := 1) B.1.1 B.1.2.1 dX10_borrow_9 (by decide) ?_
    refine lv_ldc (v := 1000000) B.1.1 B.1.2.1 B.1.2.2.1 (B.1.2.2.2.1 _ tw_1240) dX10_borrow_10 ?_
    refine lv_aload_n B.1.1 B.1.2.1 dX10_borrow_12 rfl (hl.at 0 rfl) ?_
    refine lv_iload_n B.1.1 B.1.2.1 dX10_borrow_13 rfl (hl.at 1 rfl) ?_
    refine y_ci hf (fun q hq => y_runS B.1 B.2.2.2 hl hR hS cm_X10_218 ⟨rfl, rfl, Nat.le_of_ble_eq_true rfl, Nat.le_of_ble_eq_true rfl⟩ (c_X10_assetAt hq) rfl rfl (Nat.le_of_ble_eq_true rfl) dX10_borrow_14 ⟨Nat.le_of_ble_eq_true rfl, Nat.le_of_ble_eq_true rfl⟩) hS (fun r6 S5 H locs hf hR hS => ?_)
    refine lv_iconst (v := 3) B.1.1 B.1.2.1 dX10_borrow_17 (by decide) ?_
    refine lv_iadd B.1.1 B.1.2.1 dX10_borrow_18 ?_
    refine y_ci hf (fun q hq => x_runV (ci := 10) (C := RX10) B.1 B.2.2.2 hl hR hS cm_X10_193 ⟨rfl, rfl, Nat.le_of_ble_eq_true rfl, Nat.le_of_ble_eq_true rfl⟩ (by decide) rfl k_p0 (c_X10_get k_p0 hq) rfl rfl (Nat.le_of_ble_eq_true rfl) dX10_borrow_19 ⟨Nat.le_of_ble_eq_true rfl, Nat.le_of_ble_eq_true rfl⟩) hS (fun r8 S7 H locs hf hR hS => ?_)
    refine lv_isub B.1.1 B.1.2.1 dX10_borrow_22 ?_
    refine y_ci hf (fun q hq => y_runS B.1 B.2.2.2 hl hR hS cm_X10_81 ⟨rfl, rfl, Nat.le_of_ble_eq_true rfl, Nat.le_of_ble_eq_true rfl⟩ (c_X10_isIn hq) rfl rfl (Nat.le_of_ble_eq_true rfl) dX10_borrow_23 ⟨Nat.le_of_ble_eq_true rfl, Nat.le_of_ble_eq_true rfl⟩) hS (fun r10 S9 H locs hf hR hS => ?_)
    refine y_if_eq (tgt := 38) B hf dX10_borrow_26 (by decide) (fun hf => ?_) (fun hf => ?_)
    · refine lv_aload_n B.1.1 B.1.2.1 dX10_borrow_38 rfl (hl.at 0 rfl) ?_
      refine lv_iconst (v := -1) B.1.1 B.1.2.1 dX10_borrow_39 (by decide) ?_
      refine y_ci hf (fun q hq => x_runV (ci := 10) (C := RX10) B.1 B.2.2.2 hl hR hS cm_X10_298 ⟨rfl, rfl, Nat.le_of_ble_eq_true rfl, Nat.le_of_ble_eq_true rfl⟩ (by decide) rfl k_p0 (c_X10_refuse k_p0 hq) rfl rfl (Nat.le_of_ble_eq_true rfl) dX10_borrow_40 ⟨Nat.le_of_ble_eq_true rfl, Nat.le_of_ble_eq_true rfl⟩) hS (fun r12 S11 H locs hf hR hS => ?_)
      exact y_iret B hR hS hf dX10_borrow_43
    · refine lv_aload_n B.1.1 B.1.2.1 dX10_borrow_29 rfl (hl.at 0 rfl) ?_
      refine lv_iload_n B.1.1 B.1.2.1 dX10_borrow_30 rfl (hl.at 1 rfl) ?_
      refine lv_iload_n B.1.1 B.1.2.1 dX10_borrow_31 rfl (hl.at 2 rfl) ?_
      refine y_ci hf (fun q hq => x_runV (ci := 10) (C := RX10) B.1 B.2.2.2 hl hR hS cm_X10_367 ⟨rfl, rfl, Nat.le_of_ble_eq_true rfl, Nat.le_of_ble_eq_true rfl⟩ (by decide) rfl k_p0 (c_X10_owes k_p0 hq) rfl rfl (Nat.le_of_ble_eq_true rfl) dX10_borrow_32 ⟨Nat.le_of_ble_eq_true rfl, Nat.le_of_ble_eq_true rfl⟩) hS (fun r14 S13 H locs hf hR hS => ?_)
      refine lv_goto (tgt := 43) B.1.1 B.1.2.1 dX10_borrow_35 (by decide) ?_
      exact y_iret B hR hS hf dX10_borrow_43
abbrev xr_X10_repay : Room := { frames := 4, cells := 0, slots := 0, locals := 78 }
def f_X10_repay (T : xT) (S : xS) (p0 : Nat) (p1 : Int32) (p2 : Int32) : Option (Int32 × xS) := xc (f_X10_isAsset T S p0 p1) (fun r2 S1 => if r2 = (0 : Int32) then xc (f_X10_refuse T S1 p0 ((-1 : Int32))) (fun r4 S3 => some (r4, S3)) else xc (f_X10_assetAt T S1 p1) (fun r6 S5 => xc (f_X10_get T S5 p0 ((r6 + (3 : Int32)))) (fun r8 S7 => xc (f_X10_isIn T S7 p2 ((1 : Int32)) r8) (fun r10 S9 => if r10 = (0 : Int32) then xc (f_X10_refuse T S9 p0 ((-1 : Int32))) (fun r12 S11 => some (r12, S11)) else xc (f_X10_owes T S9 p0 p1 ((-p2))) (fun r14 S13 => some (r14, S13))))))
set_option maxRecDepth 100000 in
set_option maxHeartbeats 4000000 in
theorem c_X10_repay {l : Launch} {z : Nat} {D : va_G} {dA : Nat → ClassId} {T : xT} {S : xS} {p0 : Nat} {p1 : Int32} {p2 : Int32} (k_p0 : xlk T p0 10 = true) {q : Int32 × xS} (hf : f_X10_repay T S p0 p1 p2 = some q) : Met l yX10_repay (xws yX10_repay cX10_repay 3 (some .int)) xr_X10_repay (xPc z D dA T S [.ref (z + p0), .int p1, .int p2]) (xQi z D dA T q) 0 0 (xA z) := by
  refine x_met RX10 (by decide) rfl (Nat.le_of_ble_eq_true rfl) ?_
  intro p e s m below meth c ls _ X hr hlk hml _ hR hS hl
  have B : xB p s m _ meth c cX10_repay RX10 3 (some .int) D dA := ⟨X, hr, hlk, hml⟩
  have hl : xL ls 3 [_, _, _] := hl
  unfold f_X10_repay at hf
  refine lv_aload_n B.1.1 B.1.2.1 dX10_repay_0 rfl (hl.at 0 rfl) ?_
  refine lv_iload_n B.1.1 B.1.2.1 dX10_repay_1 rfl (hl.at 1 rfl) ?_
  refine y_ci hf (fun q hq => x_runV (ci := 10) (C := RX10) B.1 B.2.2.2 hl hR hS cm_X10_221 ⟨rfl, rfl, Nat.le_of_ble_eq_true rfl, Nat.le_of_ble_eq_true rfl⟩ (by decide) rfl k_p0 (c_X10_isAsset k_p0 hq) rfl rfl (Nat.le_of_ble_eq_true rfl) dX10_repay_2 ⟨Nat.le_of_ble_eq_true rfl, Nat.le_of_ble_eq_true rfl⟩) hS (fun r2 S1 H locs hf hR hS => ?_)
  refine y_if_eq (tgt := 36) B hf dX10_repay_5 (by decide) (fun hf => ?_) (fun hf => ?_)
  · refine lv_aload_n B.1.1 B.1.2.1 dX10_repay_36 rfl (hl.at 0 rfl) ?_
    refine lv_iconst (v := -1) B.1.1 B.1.2.1 dX10_repay_37 (by decide) ?_
    refine y_ci hf (fun q hq => x_runV (ci := 10) (C := RX10) B.1 B.2.2.2 hl hR hS cm_X10_298 ⟨rfl, rfl, Nat.le_of_ble_eq_true rfl, Nat.le_of_ble_eq_true rfl⟩ (by decide) rfl k_p0 (c_X10_refuse k_p0 hq) rfl rfl (Nat.le_of_ble_eq_true rfl) dX10_repay_38 ⟨Nat.le_of_ble_eq_true rfl, Nat.le_of_ble_eq_true rfl⟩) hS (fun r4 S3 H locs hf hR hS => ?_)
    exact y_iret B hR hS hf dX10_repay_41
  · refine lv_iload_n B.1.1 B.1.2.1 dX10_repay_8 rfl (hl.at 2 rfl) ?_
    refine lv_iconst (v := 1) B.1.1 B.1.2.1 dX10_repay_9 (by decide) ?_
    refine lv_aload_n B.1.1 B.1.2.1 dX10_repay_10 rfl (hl.at 0 rfl) ?_
    refine lv_iload_n B.1.1 B.1.2.1 dX10_repay_11 rfl (hl.at 1 rfl) ?_
    refine y_ci hf (fun q hq => y_runS B.1 B.2.2.2 hl hR hS cm_X10_218 ⟨rfl, rfl, Nat.le_of_ble_eq_true rfl, Nat.le_of_ble_eq_true rfl⟩ (c_X10_assetAt hq) rfl rfl (Nat.le_of_ble_eq_true rfl) dX10_repay_12 ⟨Nat.le_of_ble_eq_true rfl, Nat.le_of_ble_eq_true rfl⟩) hS (fun r6 S5 H locs hf hR hS => ?_)
    refine lv_iconst (v := 3) B.1.1 B.1.2.1 dX10_repay_15 (by decide) ?_
    refine lv_iadd B.1.1 B.1.2.1 dX10_repay_16 ?_
    refine y_ci hf (fun q hq => x_runV (ci := 10) (C := RX10) B.1 B.2.2.2 hl hR hS cm_X10_193 ⟨rfl, rfl, Nat.le_of_ble_eq_true rfl, Nat.le_of_ble_eq_true rfl⟩ (by decide) rfl k_p0 (c_X10_get k_p0 hq) rfl rfl (Nat.le_of_ble_eq_true rfl) dX10_repay_17 ⟨Nat.le_of_ble_eq_true rfl, Nat.le_of_ble_eq_true rfl⟩) hS (fun r8 S7 H locs hf hR hS => ?_)
    refine y_ci hf (fun q hq => y_runS B.1 B.2.2.2 hl hR hS cm_X10_81 ⟨rfl, rfl, Nat.le_of_ble_eq_true rfl, Nat.le_of_ble_eq_true rfl⟩ (c_X10_isIn hq) rfl rfl (Nat.le_of_ble_eq_true rfl) dX10_repay_20 ⟨Nat.le_of_ble_eq_true rfl, Nat.le_of_ble_eq_true rfl⟩) hS (fun r10 S9 H locs hf hR hS => ?_)
    refine y_if_eq (tgt := 36) B hf dX10_repay_23 (by decide) (fun hf => ?_) (fun hf => ?_)
    · refine lv_aload_n B.1.1 B.1.2.1 dX10_repay_36 rfl (hl.at 0 rfl) ?_
      refine lv_iconst (v := -1) B.1.1 B.1.2.1 dX10_repay_37 (by decide) ?_
      refine y_ci hf (fun q hq => x_runV (ci := 10) (C := RX10) B.1 B.2.2.2 hl hR hS cm_X10_298 ⟨rfl, rfl, Nat.le_of_ble_eq_true rfl, Nat.le_of_ble_eq_true rfl⟩ (by decide) rfl k_p0 (c_X10_refuse k_p0 hq) rfl rfl (Nat.le_of_ble_eq_true rfl) dX10_repay_38 ⟨Nat.le_of_ble_eq_true rfl, Nat.le_of_ble_eq_true rfl⟩) hS (fun r12 S11 H locs hf hR hS => ?_)
      exact y_iret B hR hS hf dX10_repay_41
    · refine lv_aload_n B.1.1 B.1.2.1 dX10_repay_26 rfl (hl.at 0 rfl) ?_
      refine lv_iload_n B.1.1 B.1.2.1 dX10_repay_27 rfl (hl.at 1 rfl) ?_
      refine lv_iload_n B.1.1 B.1.2.1 dX10_repay_28 rfl (hl.at 2 rfl) ?_
      refine lv_ineg B.1.1 B.1.2.1 dX10_repay_29 ?_
      refine y_ci hf (fun q hq => x_runV (ci := 10) (C := RX10) B.1 B.2.2.2 hl hR hS cm_X10_367 ⟨rfl, rfl, Nat.le_of_ble_eq_true rfl, Nat.le_of_ble_eq_true rfl⟩ (by decide) rfl k_p0 (c_X10_owes k_p0 hq) rfl rfl (Nat.le_of_ble_eq_true rfl) dX10_repay_30 ⟨Nat.le_of_ble_eq_true rfl, Nat.le_of_ble_eq_true rfl⟩) hS (fun r14 S13 H locs hf hR hS => ?_)
      refine lv_goto (tgt := 41) B.1.1 B.1.2.1 dX10_repay_33 (by decide) ?_
      exact y_iret B hR hS hf dX10_repay_41
abbrev xr_X10_earned : Room := { frames := 2, cells := 0, slots := 0, locals := 34 }
def f_X10_earned (T : xT) (S : xS) (p0 : Nat) (p1 : Int32) : Option (xS) := xcv (f_X10_more T S p0 ((2 : Int32)) p1) (fun S1 => xcv (f_X10_more T S1 p0 ((3 : Int32)) p1) (fun S2 => some S2))
set_option maxRecDepth 100000 in
set_option maxHeartbeats 4000000 in
theorem c_X10_earned {l : Launch} {z : Nat} {D : va_G} {dA : Nat → ClassId} {T : xT} {S : xS} {p0 : Nat} {p1 : Int32} (k_p0 : xlk T p0 10 = true) {q : xS} (hf : f_X10_earned T S p0 p1 = some q) : Met l yX10_earned (xws yX10_earned cX10_earned 2 none) xr_X10_earned (xPc z D dA T S [.ref (z + p0), .int p1]) (xQv z D dA T q) 0 0 (xA z) := by
  refine x_met RX10 (by decide) rfl (Nat.le_of_ble_eq_true rfl) ?_
  intro p e s m below meth c ls _ X hr hlk hml _ hR hS hl
  have B : xB p s m _ meth c cX10_earned RX10 2 none D dA := ⟨X, hr, hlk, hml⟩
  have hl : xL ls 2 [_, _] := hl
  unfold f_X10_earned at hf
  refine lv_aload_n B.1.1 B.1.2.1 dX10_earned_0 rfl (hl.at 0 rfl) ?_
  refine lv_iconst (v := 2) B.1.1 B.1.2.1 dX10_earned_1 (by decide) ?_
  refine lv_iload_n B.1.1 B.1.2.1 dX10_earned_2 rfl (hl.at 1 rfl) ?_
  refine y_cv hf (fun q hq => x_runV (ci := 10) (C := RX10) B.1 B.2.2.2 hl hR hS cm_X10_246 ⟨rfl, rfl, Nat.le_of_ble_eq_true rfl, Nat.le_of_ble_eq_true rfl⟩ (by decide) rfl k_p0 (c_X10_more k_p0 hq) rfl rfl (Nat.le_of_ble_eq_true rfl) dX10_earned_3 ⟨Nat.le_of_ble_eq_true rfl, Nat.le_of_ble_eq_true rfl⟩) hS (fun S1 H locs hf hR hS => ?_)
  refine lv_aload_n B.1.1 B.1.2.1 dX10_earned_6 rfl (hl.at 0 rfl) ?_
  refine lv_iconst (v := 3) B.1.1 B.1.2.1 dX10_earned_7 (by decide) ?_
  refine lv_iload_n B.1.1 B.1.2.1 dX10_earned_8 rfl (hl.at 1 rfl) ?_
  refine y_cv hf (fun q hq => x_runV (ci := 10) (C := RX10) B.1 B.2.2.2 hl hR hS cm_X10_246 ⟨rfl, rfl, Nat.le_of_ble_eq_true rfl, Nat.le_of_ble_eq_true rfl⟩ (by decide) rfl k_p0 (c_X10_more k_p0 hq) rfl rfl (Nat.le_of_ble_eq_true rfl) dX10_earned_9 ⟨Nat.le_of_ble_eq_true rfl, Nat.le_of_ble_eq_true rfl⟩) hS (fun S2 H locs hf hR hS => ?_)
  exact y_vret B hR hS hf dX10_earned_12
abbrev xr_X10_earn : Room := { frames := 3, cells := 0, slots := 0, locals := 56 }
def f_X10_earn (T : xT) (S : xS) (p0 : Nat) (p1 : Int32) : Option (Int32 × xS) := xc (f_X10_isIn T S p1 ((-1000000 : Int32)) ((1000000 : Int32))) (fun r2 S1 => if r2 = (0 : Int32) then xc (f_X10_refuse T S1 p0 ((-1000000000 : Int32))) (fun r10 S9 => some (r10, S9)) else xcv (f_X10_deed T S1 p0) (fun S3 => xcv (f_X10_earned T S3 p0 p1) (fun S4 => xc (f_X10_get T S4 p0 ((2 : Int32))) (fun r6 S5 => xc (f_X10_tells T S5 p0 r6) (fun r8 S7 => some (r8, S7))))))
set_option maxRecDepth 100000 in
set_option maxHeartbeats 4000000 in
theorem c_X10_earn {l : Launch} {z : Nat} {D : va_G} {dA : Nat → ClassId} {T : xT} {S : xS} {p0 : Nat} {p1 : Int32} (k_p0 : xlk T p0 10 = true) {q : Int32 × xS} (hf : f_X10_earn T S p0 p1 = some q) : Met l yX10_earn (xws yX10_earn cX10_earn 2 (some .int)) xr_X10_earn (xPc z D dA T S [.ref (z + p0), .int p1]) (xQi z D dA T q) 0 0 (xA z) := by
  refine x_met RX10 (by decide) rfl (Nat.le_of_ble_eq_true rfl) ?_
  intro p e s m below meth c ls _ X hr hlk hml _ hR hS hl
  have B : xB p s m _ meth c cX10_earn RX10 2 (some .int) D dA := ⟨X, hr, hlk, hml⟩
  have hl : xL ls 2 [_, _] := hl
  unfold f_X10_earn at hf
  refine lv_iload_n B.1.1 B.1.2.1 dX10_earn_0 rfl (hl.at 1 rfl) ?_
  refine lv_ldcw (v := -1000000) B.1.1 B.1.2.1 B.1.2.2.1 (B.1.2.2.2.1 _ tw_1574) dX10_earn_1 ?_
  refine lv_ldc (v := 1000000) B.1.1 B.1.2.1 B.1.2.2.1 (B.1.2.2.2.1 _ tw_1240) dX10_earn_4 ?_
  refine y_ci hf (fun q hq => y_runS B.1 B.2.2.2 hl hR hS cm_X10_81 ⟨rfl, rfl, Nat.le_of_ble_eq_true rfl, Nat.le_of_ble_eq_true rfl⟩ (c_X10_isIn hq) rfl rfl (Nat.le_of_ble_eq_true rfl) dX10_earn_6 ⟨Nat.le_of_ble_eq_true rfl, Nat.le_of_ble_eq_true rfl⟩) hS (fun r2 S1 H locs hf hR hS => ?_)
  refine y_if_ne (tgt := 19) B hf dX10_earn_9 (by decide) (fun hf => ?_) (fun hf => ?_)
  · refine lv_aload_n B.1.1 B.1.2.1 dX10_earn_19 rfl (hl.at 0 rfl) ?_
    refine y_cv hf (fun q hq => x_runV (ci := 10) (C := RX10) B.1 B.2.2.2 hl hR hS cm_X10_85 ⟨rfl, rfl, Nat.le_of_ble_eq_true rfl, Nat.le_of_ble_eq_true rfl⟩ (by decide) rfl k_p0 (c_X10_deed k_p0 hq) rfl rfl (Nat.le_of_ble_eq_true rfl) dX10_earn_20 ⟨Nat.le_of_ble_eq_true rfl, Nat.le_of_ble_eq_true rfl⟩) hS (fun S3 H locs hf hR hS => ?_)
    refine lv_aload_n B.1.1 B.1.2.1 dX10_earn_23 rfl (hl.at 0 rfl) ?_
    refine lv_iload_n B.1.1 B.1.2.1 dX10_earn_24 rfl (hl.at 1 rfl) ?_
    refine y_cv hf (fun q hq => x_runV (ci := 10) (C := RX10) B.1 B.2.2.2 hl hR hS cm_X10_371 ⟨rfl, rfl, Nat.le_of_ble_eq_true rfl, Nat.le_of_ble_eq_true rfl⟩ (by decide) rfl k_p0 (c_X10_earned k_p0 hq) rfl rfl (Nat.le_of_ble_eq_true rfl) dX10_earn_25 ⟨Nat.le_of_ble_eq_true rfl, Nat.le_of_ble_eq_true rfl⟩) hS (fun S4 H locs hf hR hS => ?_)
    refine lv_aload_n B.1.1 B.1.2.1 dX10_earn_28 rfl (hl.at 0 rfl) ?_
    refine lv_aload_n B.1.1 B.1.2.1 dX10_earn_29 rfl (hl.at 0 rfl) ?_
    refine lv_iconst (v := 2) B.1.1 B.1.2.1 dX10_earn_30 (by decide) ?_
    refine y_ci hf (fun q hq => x_runV (ci := 10) (C := RX10) B.1 B.2.2.2 hl hR hS cm_X10_193 ⟨rfl, rfl, Nat.le_of_ble_eq_true rfl, Nat.le_of_ble_eq_true rfl⟩ (by decide) rfl k_p0 (c_X10_get k_p0 hq) rfl rfl (Nat.le_of_ble_eq_true rfl) dX10_earn_31 ⟨Nat.le_of_ble_eq_true rfl, Nat.le_of_ble_eq_true rfl⟩) hS (fun r6 S5 H locs hf hR hS => ?_)
    refine y_ci hf (fun q hq => x_runV (ci := 10) (C := RX10) B.1 B.2.2.2 hl hR hS cm_X10_304 ⟨rfl, rfl, Nat.le_of_ble_eq_true rfl, Nat.le_of_ble_eq_true rfl⟩ (by decide) rfl k_p0 (c_X10_tells k_p0 hq) rfl rfl (Nat.le_of_ble_eq_true rfl) dX10_earn_34 ⟨Nat.le_of_ble_eq_true rfl, Nat.le_of_ble_eq_true rfl⟩) hS (fun r8 S7 H locs hf hR hS => ?_)
    exact y_iret B hR hS hf dX10_earn_37
  · refine lv_aload_n B.1.1 B.1.2.1 dX10_earn_12 rfl (hl.at 0 rfl) ?_
    refine lv_ldc (v := -1000000000) B.1.1 B.1.2.1 B.1.2.2.1 (B.1.2.2.2.1 _ tw_1301) dX10_earn_13 ?_
    refine y_ci hf (fun q hq => x_runV (ci := 10) (C := RX10) B.1 B.2.2.2 hl hR hS cm_X10_298 ⟨rfl, rfl, Nat.le_of_ble_eq_true rfl, Nat.le_of_ble_eq_true rfl⟩ (by decide) rfl k_p0 (c_X10_refuse k_p0 hq) rfl rfl (Nat.le_of_ble_eq_true rfl) dX10_earn_15 ⟨Nat.le_of_ble_eq_true rfl, Nat.le_of_ble_eq_true rfl⟩) hS (fun r10 S9 H locs hf hR hS => ?_)
    exact y_iret B hR hS hf dX10_earn_18
abbrev xr_X10_valueAnew : Room := { frames := 6, cells := 0, slots := 0, locals := 125 }
def f_X10_valueAnew_4 (T : xT) : Nat → xS → Nat → Int32 → Int32 → Option (Int32 × xS)
  | 0, _, _, _, _ => none
  | n + 1, S, p0, p1, p2 => if (8 : Int32) ≤ p2 then xcv (f_X10_forgetSteps T S p0) (fun S1 => xc (f_X10_get T S1 p0 ((0 : Int32))) (fun r3 S2 => if r3 = (0 : Int32) then some (p1, S2) else xcv (f_X10_put T S2 p0 ((2 : Int32)) p1) (fun S4 => xcv (f_X10_share T S4 p0) (fun S5 => some ((0 : Int32), S5))))) else xc (f_X10_isAsset T S p0 p2) (fun r7 S6 => if r7 = (0 : Int32) then xl (p2 + (1 : Int32)) (fun v25 => f_X10_valueAnew_4 T n S6 p0 p1 v25) else xc (f_X10_assetAt T S6 p2) (fun r9 S8 => xc (f_X10_get T S8 p0 ((r9 + (2 : Int32)))) (fun r11 S10 => xc (f_X10_assetAt T S10 p2) (fun r13 S12 => xc (f_X10_get T S12 p0 ((r13 + (1 : Int32)))) (fun r15 S14 => xl ((p1 + (r11 - r15))) (fun v16 => xc (f_X10_assetAt T S14 p2) (fun r18 S17 => xc (f_X10_assetAt T S17 p2) (fun r20 S19 => xc (f_X10_get T S19 p0 ((r20 + (2 : Int32)))) (fun r22 S21 => xcv (f_X10_put T S21 p0 ((r18 + (1 : Int32))) r22) (fun S23 => xl (p2 + (1 : Int32)) (fun v24 => f_X10_valueAnew_4 T n S23 p0 v16 v24)))))))))))
set_option maxRecDepth 100000 in
set_option maxHeartbeats 4000000 in
theorem w_X10_valueAnew_4 {p : Program} {l : Launch} {e : Env} {s : State} {m : MethodId} {args : Array Value} {below : List Frame} {meth : Method} {c : Code} {z : Nat} {D : va_G} {dA : Nat → ClassId} {T : xT} (B : xB p s m args meth c cX10_valueAnew RX10 3 (some .int) D dA) {q : Int32 × xS} : ∀ (n : Nat), ∀ (S : xS) (H : Heap) (locs : List Loc) (ls : Array Slot) (p0 : Nat) (p1 : Int32) (p2 : Int32), xlk T p0 10 = true → f_X10_valueAnew_4 T n S p0 p1 p2 = some q → xRel z D dA T S H → va_S (xA z) s.heap H locs → xL ls 3 [some (.ref (z + p0)), some (.int p1), some (.int p2)] → xGi p l e xr_X10_valueAnew s m args below meth c z D dA T q H locs 4 ls [] := by
  intro n
  induction n with
  | zero =>
    intro S H locs ls p0 p1 p2 k_p0 hf hR hS hl
    exact absurd hf (by simp [f_X10_valueAnew_4])
  | succ n ih =>
    intro S H locs ls p0 p1 p2 k_p0 hf hR hS hl
    unfold f_X10_valueAnew_4 at hf
    refine lv_iload_n B.1.1 B.1.2.1 dX10_valueAnew_4 rfl (hl.at 2 rfl) ?_
    refine lv_bipush (v := 8) B.1.1 B.1.2.1 dX10_valueAnew_5 (by decide) ?_
    refine y_icmp_ge (tgt := 71) B hf dX10_valueAnew_7 (by decide) (fun hf => ?_) (fun hf => ?_)
    · refine lv_aload_n B.1.1 B.1.2.1 dX10_valueAnew_71 rfl (hl.at 0 rfl) ?_
      refine y_cv hf (fun q hq => x_runV (ci := 10) (C := RX10) B.1 B.2.2.2 hl hR hS cm_X10_280 ⟨rfl, rfl, Nat.le_of_ble_eq_true rfl, Nat.le_of_ble_eq_true rfl⟩ (by decide) rfl k_p0 (c_X10_forgetSteps k_p0 hq) rfl rfl (Nat.le_of_ble_eq_true rfl) dX10_valueAnew_72 ⟨Nat.le_of_ble_eq_true rfl, Nat.le_of_ble_eq_true rfl⟩) hS (fun S1 H locs hf hR hS => ?_)
      refine lv_aload_n B.1.1 B.1.2.1 dX10_valueAnew_75 rfl (hl.at 0 rfl) ?_
      refine lv_iconst (v := 0) B.1.1 B.1.2.1 dX10_valueAnew_76 (by decide) ?_
      refine y_ci hf (fun q hq => x_runV (ci := 10) (C := RX10) B.1 B.2.2.2 hl hR hS cm_X10_193 ⟨rfl, rfl, Nat.le_of_ble_eq_true rfl, Nat.le_of_ble_eq_true rfl⟩ (by decide) rfl k_p0 (c_X10_get k_p0 hq) rfl rfl (Nat.le_of_ble_eq_true rfl) dX10_valueAnew_77 ⟨Nat.le_of_ble_eq_true rfl, Nat.le_of_ble_eq_true rfl⟩) hS (fun r3 S2 H locs hf hR hS => ?_)
      refine y_if_ne (tgt := 85) B hf dX10_valueAnew_80 (by decide) (fun hf => ?_) (fun hf => ?_)
      · refine lv_aload_n B.1.1 B.1.2.1 dX10_valueAnew_85 rfl (hl.at 0 rfl) ?_
        refine lv_iconst (v := 2) B.1.1 B.1.2.1 dX10_valueAnew_86 (by decide) ?_
        refine lv_iload_n B.1.1 B.1.2.1 dX10_valueAnew_87 rfl (hl.at 1 rfl) ?_
        refine y_cv hf (fun q hq => x_runV (ci := 10) (C := RX10) B.1 B.2.2.2 hl hR hS cm_X10_71 ⟨rfl, rfl, Nat.le_of_ble_eq_true rfl, Nat.le_of_ble_eq_true rfl⟩ (by decide) rfl k_p0 (c_X10_put k_p0 hq) rfl rfl (Nat.le_of_ble_eq_true rfl) dX10_valueAnew_88 ⟨Nat.le_of_ble_eq_true rfl, Nat.le_of_ble_eq_true rfl⟩) hS (fun S4 H locs hf hR hS => ?_)
        refine lv_aload_n B.1.1 B.1.2.1 dX10_valueAnew_91 rfl (hl.at 0 rfl) ?_
        refine y_cv hf (fun q hq => x_runV (ci := 10) (C := RX10) B.1 B.2.2.2 hl hR hS cm_X10_295 ⟨rfl, rfl, Nat.le_of_ble_eq_true rfl, Nat.le_of_ble_eq_true rfl⟩ (by decide) rfl k_p0 (c_X10_share k_p0 hq) rfl rfl (Nat.le_of_ble_eq_true rfl) dX10_valueAnew_92 ⟨Nat.le_of_ble_eq_true rfl, Nat.le_of_ble_eq_true rfl⟩) hS (fun S5 H locs hf hR hS => ?_)
        refine lv_iconst (v := 0) B.1.1 B.1.2.1 dX10_valueAnew_95 (by decide) ?_
        exact y_iret B hR hS hf dX10_valueAnew_96
      · refine lv_iload_n B.1.1 B.1.2.1 dX10_valueAnew_83 rfl (hl.at 1 rfl) ?_
        exact y_iret B hR hS hf dX10_valueAnew_84
    · refine lv_aload_n B.1.1 B.1.2.1 dX10_valueAnew_10 rfl (hl.at 0 rfl) ?_
      refine lv_iload_n B.1.1 B.1.2.1 dX10_valueAnew_11 rfl (hl.at 2 rfl) ?_
      refine y_ci hf (fun q hq => x_runV (ci := 10) (C := RX10) B.1 B.2.2.2 hl hR hS cm_X10_221 ⟨rfl, rfl, Nat.le_of_ble_eq_true rfl, Nat.le_of_ble_eq_true rfl⟩ (by decide) rfl k_p0 (c_X10_isAsset k_p0 hq) rfl rfl (Nat.le_of_ble_eq_true rfl) dX10_valueAnew_12 ⟨Nat.le_of_ble_eq_true rfl, Nat.le_of_ble_eq_true rfl⟩) hS (fun r7 S6 H locs hf hR hS => ?_)
      refine y_if_ne (tgt := 21) B hf dX10_valueAnew_15 (by decide) (fun hf => ?_) (fun hf => ?_)
      · refine lv_iload_n B.1.1 B.1.2.1 dX10_valueAnew_21 rfl (hl.at 1 rfl) ?_
        refine lv_aload_n B.1.1 B.1.2.1 dX10_valueAnew_22 rfl (hl.at 0 rfl) ?_
        refine lv_iload_n B.1.1 B.1.2.1 dX10_valueAnew_23 rfl (hl.at 2 rfl) ?_
        refine y_ci hf (fun q hq => y_runS B.1 B.2.2.2 hl hR hS cm_X10_218 ⟨rfl, rfl, Nat.le_of_ble_eq_true rfl, Nat.le_of_ble_eq_true rfl⟩ (c_X10_assetAt hq) rfl rfl (Nat.le_of_ble_eq_true rfl) dX10_valueAnew_24 ⟨Nat.le_of_ble_eq_true rfl, Nat.le_of_ble_eq_true rfl⟩) hS (fun r9 S8 H locs hf hR hS => ?_)
        refine lv_iconst (v := 2) B.1.1 B.1.2.1 dX10_valueAnew_27 (by decide) ?_
        refine lv_iadd B.1.1 B.1.2.1 dX10_valueAnew_28 ?_
        refine y_ci hf (fun q hq => x_runV (ci := 10) (C := RX10) B.1 B.2.2.2 hl hR hS cm_X10_193 ⟨rfl, rfl, Nat.le_of_ble_eq_true rfl, Nat.le_of_ble_eq_true rfl⟩ (by decide) rfl k_p0 (c_X10_get k_p0 hq) rfl rfl (Nat.le_of_ble_eq_true rfl) dX10_valueAnew_29 ⟨Nat.le_of_ble_eq_true rfl, Nat.le_of_ble_eq_true rfl⟩) hS (fun r11 S10 H locs hf hR hS => ?_)
        refine lv_aload_n B.1.1 B.1.2.1 dX10_valueAnew_32 rfl (hl.at 0 rfl) ?_
        refine lv_iload_n B.1.1 B.1.2.1 dX10_valueAnew_33 rfl (hl.at 2 rfl) ?_
        refine y_ci hf (fun q hq => y_runS B.1 B.2.2.2 hl hR hS cm_X10_218 ⟨rfl, rfl, Nat.le_of_ble_eq_true rfl, Nat.le_of_ble_eq_true rfl⟩ (c_X10_assetAt hq) rfl rfl (Nat.le_of_ble_eq_true rfl) dX10_valueAnew_34 ⟨Nat.le_of_ble_eq_true rfl, Nat.le_of_ble_eq_true rfl⟩) hS (fun r13 S12 H locs hf hR hS => ?_)
        refine lv_iconst (v := 1) B.1.1 B.1.2.1 dX10_valueAnew_37 (by decide) ?_
        refine lv_iadd B.1.1 B.1.2.1 dX10_valueAnew_38 ?_
        refine y_ci hf (fun q hq => x_runV (ci := 10) (C := RX10) B.1 B.2.2.2 hl hR hS cm_X10_193 ⟨rfl, rfl, Nat.le_of_ble_eq_true rfl, Nat.le_of_ble_eq_true rfl⟩ (by decide) rfl k_p0 (c_X10_get k_p0 hq) rfl rfl (Nat.le_of_ble_eq_true rfl) dX10_valueAnew_39 ⟨Nat.le_of_ble_eq_true rfl, Nat.le_of_ble_eq_true rfl⟩) hS (fun r15 S14 H locs hf hR hS => ?_)
        refine lv_isub B.1.1 B.1.2.1 dX10_valueAnew_42 ?_
        refine lv_iadd B.1.1 B.1.2.1 dX10_valueAnew_43 ?_
        refine y_istore_n B hl hf dX10_valueAnew_44 rfl (by decide) rfl (fun v16 ls hf hl => ?_)
        have hl : xL ls 3 [_, _, _] := hl
        refine lv_aload_n B.1.1 B.1.2.1 dX10_valueAnew_45 rfl (hl.at 0 rfl) ?_
        refine lv_iload_n B.1.1 B.1.2.1 dX10_valueAnew_46 rfl (hl.at 2 rfl) ?_
        refine y_ci hf (fun q hq => y_runS B.1 B.2.2.2 hl hR hS cm_X10_218 ⟨rfl, rfl, Nat.le_of_ble_eq_true rfl, Nat.le_of_ble_eq_true rfl⟩ (c_X10_assetAt hq) rfl rfl (Nat.le_of_ble_eq_true rfl) dX10_valueAnew_47 ⟨Nat.le_of_ble_eq_true rfl, Nat.le_of_ble_eq_true rfl⟩) hS (fun r18 S17 H locs hf hR hS => ?_)
        refine lv_iconst (v := 1) B.1.1 B.1.2.1 dX10_valueAnew_50 (by decide) ?_
        refine lv_iadd B.1.1 B.1.2.1 dX10_valueAnew_51 ?_
        refine lv_aload_n B.1.1 B.1.2.1 dX10_valueAnew_52 rfl (hl.at 0 rfl) ?_
        refine lv_iload_n B.1.1 B.1.2.1 dX10_valueAnew_53 rfl (hl.at 2 rfl) ?_
        refine y_ci hf (fun q hq => y_runS B.1 B.2.2.2 hl hR hS cm_X10_218 ⟨rfl, rfl, Nat.le_of_ble_eq_true rfl, Nat.le_of_ble_eq_true rfl⟩ (c_X10_assetAt hq) rfl rfl (Nat.le_of_ble_eq_true rfl) dX10_valueAnew_54 ⟨Nat.le_of_ble_eq_true rfl, Nat.le_of_ble_eq_true rfl⟩) hS (fun r20 S19 H locs hf hR hS => ?_)
        refine lv_iconst (v := 2) B.1.1 B.1.2.1 dX10_valueAnew_57 (by decide) ?_
        refine lv_iadd B.1.1 B.1.2.1 dX10_valueAnew_58 ?_
        refine y_ci hf (fun q hq => x_runV (ci := 10) (C := RX10) B.1 B.2.2.2 hl hR hS cm_X10_193 ⟨rfl, rfl, Nat.le_of_ble_eq_true rfl, Nat.le_of_ble_eq_true rfl⟩ (by decide) rfl k_p0 (c_X10_get k_p0 hq) rfl rfl (Nat.le_of_ble_eq_true rfl) dX10_valueAnew_59 ⟨Nat.le_of_ble_eq_true rfl, Nat.le_of_ble_eq_true rfl⟩) hS (fun r22 S21 H locs hf hR hS => ?_)
        refine y_cv hf (fun q hq => x_runV (ci := 10) (C := RX10) B.1 B.2.2.2 hl hR hS cm_X10_71 ⟨rfl, rfl, Nat.le_of_ble_eq_true rfl, Nat.le_of_ble_eq_true rfl⟩ (by decide) rfl k_p0 (c_X10_put k_p0 hq) rfl rfl (Nat.le_of_ble_eq_true rfl) dX10_valueAnew_62 ⟨Nat.le_of_ble_eq_true rfl, Nat.le_of_ble_eq_true rfl⟩) hS (fun S23 H locs hf hR hS => ?_)
        refine y_iinc (d := 1) B hl hf dX10_valueAnew_65 rfl (by decide) (by decide) rfl (fun v24 ls hf hl => ?_)
        have hl : xL ls 3 [_, _, _] := hl
        refine lv_goto (tgt := 4) B.1.1 B.1.2.1 dX10_valueAnew_68 (by decide) ?_
        exact ih _ _ _ _ _ _ _ k_p0 hf hR hS hl
      · refine lv_goto (tgt := 65) B.1.1 B.1.2.1 dX10_valueAnew_18 (by decide) ?_
        refine y_iinc (d := 1) B hl hf dX10_valueAnew_65 rfl (by decide) (by decide) rfl (fun v25 ls hf hl => ?_)
        have hl : xL ls 3 [_, _, _] := hl
        refine lv_goto (tgt := 4) B.1.1 B.1.2.1 dX10_valueAnew_68 (by decide) ?_
        exact ih _ _ _ _ _ _ _ k_p0 hf hR hS hl
def f_X10_valueAnew (T : xT) (S : xS) (p0 : Nat) : Option (Int32 × xS) := xl ((0 : Int32)) (fun v1 => xl ((0 : Int32)) (fun v2 => f_X10_valueAnew_4 T xfu S p0 v1 v2))
set_option maxRecDepth 100000 in
set_option maxHeartbeats 4000000 in
theorem c_X10_valueAnew {l : Launch} {z : Nat} {D : va_G} {dA : Nat → ClassId} {T : xT} {S : xS} {p0 : Nat} (k_p0 : xlk T p0 10 = true) {q : Int32 × xS} (hf : f_X10_valueAnew T S p0 = some q) : Met l yX10_valueAnew (xws yX10_valueAnew cX10_valueAnew 3 (some .int)) xr_X10_valueAnew (xPc z D dA T S [.ref (z + p0)]) (xQi z D dA T q) 0 0 (xA z) := by
  refine x_met RX10 (by decide) rfl (Nat.le_of_ble_eq_true rfl) ?_
  intro p e s m below meth c ls _ X hr hlk hml _ hR hS hl
  have B : xB p s m _ meth c cX10_valueAnew RX10 3 (some .int) D dA := ⟨X, hr, hlk, hml⟩
  have hl : xL ls 3 [_, _, _] := hl
  unfold f_X10_valueAnew at hf
  refine lv_iconst (v := 0) B.1.1 B.1.2.1 dX10_valueAnew_0 (by decide) ?_
  refine y_istore_n B hl hf dX10_valueAnew_1 rfl (by decide) rfl (fun v1 ls hf hl => ?_)
  have hl : xL ls 3 [_, _, _] := hl
  refine lv_iconst (v := 0) B.1.1 B.1.2.1 dX10_valueAnew_2 (by decide) ?_
  refine y_istore_n B hl hf dX10_valueAnew_3 rfl (by decide) rfl (fun v2 ls hf hl => ?_)
  have hl : xL ls 3 [_, _, _] := hl
  exact w_X10_valueAnew_4 B xfu _ _ _ _ _ _ _ k_p0 hf hR hS hl
abbrev xr_X10_arrives : Room := { frames := 2, cells := 0, slots := 0, locals := 34 }
def f_X10_arrives (T : xT) (S : xS) (p0 : Nat) (p1 : Int32) : Option (xS) := xc (f_X10_get T S p0 ((0 : Int32))) (fun r2 S1 => xcv (f_X10_put T S1 p0 ((0 : Int32)) ((r2 ||| ((1 : Int32) <<< (p1 &&& 31))))) (fun S3 => xcv (f_X10_put T S3 p0 (((5 : Int32) + p1)) ((0 : Int32))) (fun S4 => xcv (f_X10_put T S4 p0 (((13 : Int32) + p1)) ((0 : Int32))) (fun S5 => xcv (f_X10_put T S5 p0 (((21 : Int32) + p1)) ((1 : Int32))) (fun S6 => xcv (f_X10_put T S6 p0 (((29 : Int32) + p1)) ((0 : Int32))) (fun S7 => xcv (f_X10_put T S7 p0 (((37 : Int32) + p1)) ((0 : Int32))) (fun S8 => some S8)))))))
set_option maxRecDepth 100000 in
set_option maxHeartbeats 4000000 in
theorem c_X10_arrives {l : Launch} {z : Nat} {D : va_G} {dA : Nat → ClassId} {T : xT} {S : xS} {p0 : Nat} {p1 : Int32} (k_p0 : xlk T p0 10 = true) {q : xS} (hf : f_X10_arrives T S p0 p1 = some q) : Met l yX10_arrives (xws yX10_arrives cX10_arrives 2 none) xr_X10_arrives (xPc z D dA T S [.ref (z + p0), .int p1]) (xQv z D dA T q) 0 0 (xA z) := by
  refine x_met RX10 (by decide) rfl (Nat.le_of_ble_eq_true rfl) ?_
  intro p e s m below meth c ls _ X hr hlk hml _ hR hS hl
  have B : xB p s m _ meth c cX10_arrives RX10 2 none D dA := ⟨X, hr, hlk, hml⟩
  have hl : xL ls 2 [_, _] := hl
  unfold f_X10_arrives at hf
  refine lv_aload_n B.1.1 B.1.2.1 dX10_arrives_0 rfl (hl.at 0 rfl) ?_
  refine lv_iconst (v := 0) B.1.1 B.1.2.1 dX10_arrives_1 (by decide) ?_
  refine lv_aload_n B.1.1 B.1.2.1 dX10_arrives_2 rfl (hl.at 0 rfl) ?_
  refine lv_iconst (v := 0) B.1.1 B.1.2.1 dX10_arrives_3 (by decide) ?_
  refine y_ci hf (fun q hq => x_runV (ci := 10) (C := RX10) B.1 B.2.2.2 hl hR hS cm_X10_193 ⟨rfl, rfl, Nat.le_of_ble_eq_true rfl, Nat.le_of_ble_eq_true rfl⟩ (by decide) rfl k_p0 (c_X10_get k_p0 hq) rfl rfl (Nat.le_of_ble_eq_true rfl) dX10_arrives_4 ⟨Nat.le_of_ble_eq_true rfl, Nat.le_of_ble_eq_true rfl⟩) hS (fun r2 S1 H locs hf hR hS => ?_)
  refine lv_iconst (v := 1) B.1.1 B.1.2.1 dX10_arrives_7 (by decide) ?_
  refine lv_iload_n B.1.1 B.1.2.1 dX10_arrives_8 rfl (hl.at 1 rfl) ?_
  refine lv_ishl B.1.1 B.1.2.1 dX10_arrives_9 ?_
  refine lv_ior B.1.1 B.1.2.1 dX10_arrives_10 ?_
  refine y_cv hf (fun q hq => x_runV (ci := 10) (C := RX10) B.1 B.2.2.2 hl hR hS cm_X10_71 ⟨rfl, rfl, Nat.le_of_ble_eq_true rfl, Nat.le_of_ble_eq_true rfl⟩ (by decide) rfl k_p0 (c_X10_put k_p0 hq) rfl rfl (Nat.le_of_ble_eq_true rfl) dX10_arrives_11 ⟨Nat.le_of_ble_eq_true rfl, Nat.le_of_ble_eq_true rfl⟩) hS (fun S3 H locs hf hR hS => ?_)
  refine lv_aload_n B.1.1 B.1.2.1 dX10_arrives_14 rfl (hl.at 0 rfl) ?_
  refine lv_iconst (v := 5) B.1.1 B.1.2.1 dX10_arrives_15 (by decide) ?_
  refine lv_iload_n B.1.1 B.1.2.1 dX10_arrives_16 rfl (hl.at 1 rfl) ?_
  refine lv_iadd B.1.1 B.1.2.1 dX10_arrives_17 ?_
  refine lv_iconst (v := 0) B.1.1 B.1.2.1 dX10_arrives_18 (by decide) ?_
  refine y_cv hf (fun q hq => x_runV (ci := 10) (C := RX10) B.1 B.2.2.2 hl hR hS cm_X10_71 ⟨rfl, rfl, Nat.le_of_ble_eq_true rfl, Nat.le_of_ble_eq_true rfl⟩ (by decide) rfl k_p0 (c_X10_put k_p0 hq) rfl rfl (Nat.le_of_ble_eq_true rfl) dX10_arrives_19 ⟨Nat.le_of_ble_eq_true rfl, Nat.le_of_ble_eq_true rfl⟩) hS (fun S4 H locs hf hR hS => ?_)
  refine lv_aload_n B.1.1 B.1.2.1 dX10_arrives_22 rfl (hl.at 0 rfl) ?_
  refine lv_bipush (v := 13) B.1.1 B.1.2.1 dX10_arrives_23 (by decide) ?_
  refine lv_iload_n B.1.1 B.1.2.1 dX10_arrives_25 rfl (hl.at 1 rfl) ?_
  refine lv_iadd B.1.1 B.1.2.1 dX10_arrives_26 ?_
  refine lv_iconst (v := 0) B.1.1 B.1.2.1 dX10_arrives_27 (by decide) ?_
  refine y_cv hf (fun q hq => x_runV (ci := 10) (C := RX10) B.1 B.2.2.2 hl hR hS cm_X10_71 ⟨rfl, rfl, Nat.le_of_ble_eq_true rfl, Nat.le_of_ble_eq_true rfl⟩ (by decide) rfl k_p0 (c_X10_put k_p0 hq) rfl rfl (Nat.le_of_ble_eq_true rfl) dX10_arrives_28 ⟨Nat.le_of_ble_eq_true rfl, Nat.le_of_ble_eq_true rfl⟩) hS (fun S5 H locs hf hR hS => ?_)
  refine lv_aload_n B.1.1 B.1.2.1 dX10_arrives_31 rfl (hl.at 0 rfl) ?_
  refine lv_bipush (v := 21) B.1.1 B.1.2.1 dX10_arrives_32 (by decide) ?_
  refine lv_iload_n B.1.1 B.1.2.1 dX10_arrives_34 rfl (hl.at 1 rfl) ?_
  refine lv_iadd B.1.1 B.1.2.1 dX10_arrives_35 ?_
  refine lv_iconst (v := 1) B.1.1 B.1.2.1 dX10_arrives_36 (by decide) ?_
  refine y_cv hf (fun q hq => x_runV (ci := 10) (C := RX10) B.1 B.2.2.2 hl hR hS cm_X10_71 ⟨rfl, rfl, Nat.le_of_ble_eq_true rfl, Nat.le_of_ble_eq_true rfl⟩ (by decide) rfl k_p0 (c_X10_put k_p0 hq) rfl rfl (Nat.le_of_ble_eq_true rfl) dX10_arrives_37 ⟨Nat.le_of_ble_eq_true rfl, Nat.le_of_ble_eq_true rfl⟩) hS (fun S6 H locs hf hR hS => ?_)
  refine lv_aload_n B.1.1 B.1.2.1 dX10_arrives_40 rfl (hl.at 0 rfl) ?_
  refine lv_bipush (v := 29) B.1.1 B.1.2.1 dX10_arrives_41 (by decide) ?_
  refine lv_iload_n B.1.1 B.1.2.1 dX10_arrives_43 rfl (hl.at 1 rfl) ?_
  refine lv_iadd B.1.1 B.1.2.1 dX10_arrives_44 ?_
  refine lv_iconst (v := 0) B.1.1 B.1.2.1 dX10_arrives_45 (by decide) ?_
  refine y_cv hf (fun q hq => x_runV (ci := 10) (C := RX10) B.1 B.2.2.2 hl hR hS cm_X10_71 ⟨rfl, rfl, Nat.le_of_ble_eq_true rfl, Nat.le_of_ble_eq_true rfl⟩ (by decide) rfl k_p0 (c_X10_put k_p0 hq) rfl rfl (Nat.le_of_ble_eq_true rfl) dX10_arrives_46 ⟨Nat.le_of_ble_eq_true rfl, Nat.le_of_ble_eq_true rfl⟩) hS (fun S7 H locs hf hR hS => ?_)
  refine lv_aload_n B.1.1 B.1.2.1 dX10_arrives_49 rfl (hl.at 0 rfl) ?_
  refine lv_bipush (v := 37) B.1.1 B.1.2.1 dX10_arrives_50 (by decide) ?_
  refine lv_iload_n B.1.1 B.1.2.1 dX10_arrives_52 rfl (hl.at 1 rfl) ?_
  refine lv_iadd B.1.1 B.1.2.1 dX10_arrives_53 ?_
  refine lv_iconst (v := 0) B.1.1 B.1.2.1 dX10_arrives_54 (by decide) ?_
  refine y_cv hf (fun q hq => x_runV (ci := 10) (C := RX10) B.1 B.2.2.2 hl hR hS cm_X10_71 ⟨rfl, rfl, Nat.le_of_ble_eq_true rfl, Nat.le_of_ble_eq_true rfl⟩ (by decide) rfl k_p0 (c_X10_put k_p0 hq) rfl rfl (Nat.le_of_ble_eq_true rfl) dX10_arrives_55 ⟨Nat.le_of_ble_eq_true rfl, Nat.le_of_ble_eq_true rfl⟩) hS (fun S8 H locs hf hR hS => ?_)
  exact y_vret B hR hS hf dX10_arrives_58
abbrev xr_X10_come : Room := { frames := 7, cells := 0, slots := 0, locals := 147 }
def f_X10_come (T : xT) (S : xS) (p0 : Nat) (p1 : Int32) (p2 : Int32) : Option (Int32 × xS) := xc (f_X10_isIn T S p1 ((0 : Int32)) ((7 : Int32))) (fun r2 S1 => if r2 = (0 : Int32) then xc (f_X10_refuse T S1 p0 ((-1 : Int32))) (fun r4 S3 => some (r4, S3)) else xc (f_X10_isThere T S1 p0 p1) (fun r6 S5 => if r6 = (0 : Int32) then xc (f_X10_isIn T S5 p2 ((0 : Int32)) ((1000000 : Int32))) (fun r10 S9 => if r10 = (0 : Int32) then xc (f_X10_refuse T S9 p0 ((-1 : Int32))) (fun r12 S11 => some (r12, S11)) else xc (f_X10_get T S9 p0 ((2 : Int32))) (fun r14 S13 => if r14 = (0 : Int32) then xcv (f_X10_deed T S13 p0) (fun S15 => xc (f_X10_valueAnew T S15 p0) (fun r17 S16 => xl r17 (fun v18 => xcv (f_X10_arrives T S16 p0 p1) (fun S19 => xcv (f_X10_more T S19 p0 ((3 : Int32)) p2) (fun S20 => xcv (f_X10_put T S20 p0 (((5 : Int32) + p1)) ((v18 + p2))) (fun S21 => xc (f_X10_get T S21 p0 (((5 : Int32) + p1))) (fun r23 S22 => xc (f_X10_tells T S22 p0 r23) (fun r25 S24 => some (r25, S24))))))))) else xc (f_X10_refuse T S13 p0 ((-1 : Int32))) (fun r27 S26 => some (r27, S26)))) else xc (f_X10_refuse T S5 p0 ((-1 : Int32))) (fun r8 S7 => some (r8, S7))))
set_option maxRecDepth 100000 in
set_option maxHeartbeats 4000000 in
theorem c_X10_come {l : Launch} {z : Nat} {D : va_G} {dA : Nat → ClassId} {T : xT} {S : xS} {p0 : Nat} {p1 : Int32} {p2 : Int32} (k_p0 : xlk T p0 10 = true) {q : Int32 × xS} (hf : f_X10_come T S p0 p1 p2 = some q) : Met l yX10_come (xws yX10_come cX10_come 4 (some .int)) xr_X10_come (xPc z D dA T S [.ref (z + p0), .int p1, .int p2]) (xQi z D dA T q) 0 0 (xA z) := by
  refine x_met RX10 (by decide) rfl (Nat.le_of_ble_eq_true rfl) ?_
  intro p e s m below meth c ls _ X hr hlk hml _ hR hS hl
  have B : xB p s m _ meth c cX10_come RX10 4 (some .int) D dA := ⟨X, hr, hlk, hml⟩
  have hl : xL ls 4 [_, _, _, _] := hl
  unfold f_X10_come at hf
  refine lv_iload_n B.1.1 B.1.2.1 dX10_come_0 rfl (hl.at 1 rfl) ?_
  refine lv_iconst (v := 0) B.1.1 B.1.2.1 dX10_come_1 (by decide) ?_
  refine lv_bipush (v := 7) B.1.1 B.1.2.1 dX10_come_2 (by decide) ?_
  refine y_ci hf (fun q hq => y_runS B.1 B.2.2.2 hl hR hS cm_X10_81 ⟨rfl, rfl, Nat.le_of_ble_eq_true rfl, Nat.le_of_ble_eq_true rfl⟩ (c_X10_isIn hq) rfl rfl (Nat.le_of_ble_eq_true rfl) dX10_come_4 ⟨Nat.le_of_ble_eq_true rfl, Nat.le_of_ble_eq_true rfl⟩) hS (fun r2 S1 H locs hf hR hS => ?_)
  refine y_if_eq (tgt := 36) B hf dX10_come_7 (by decide) (fun hf => ?_) (fun hf => ?_)
  · refine lv_aload_n B.1.1 B.1.2.1 dX10_come_36 rfl (hl.at 0 rfl) ?_
    refine lv_iconst (v := -1) B.1.1 B.1.2.1 dX10_come_37 (by decide) ?_
    refine y_ci hf (fun q hq => x_runV (ci := 10) (C := RX10) B.1 B.2.2.2 hl hR hS cm_X10_298 ⟨rfl, rfl, Nat.le_of_ble_eq_true rfl, Nat.le_of_ble_eq_true rfl⟩ (by decide) rfl k_p0 (c_X10_refuse k_p0 hq) rfl rfl (Nat.le_of_ble_eq_true rfl) dX10_come_38 ⟨Nat.le_of_ble_eq_true rfl, Nat.le_of_ble_eq_true rfl⟩) hS (fun r4 S3 H locs hf hR hS => ?_)
    exact y_iret B hR hS hf dX10_come_41
  · refine lv_aload_n B.1.1 B.1.2.1 dX10_come_10 rfl (hl.at 0 rfl) ?_
    refine lv_iload_n B.1.1 B.1.2.1 dX10_come_11 rfl (hl.at 1 rfl) ?_
    refine y_ci hf (fun q hq => x_runV (ci := 10) (C := RX10) B.1 B.2.2.2 hl hR hS cm_X10_203 ⟨rfl, rfl, Nat.le_of_ble_eq_true rfl, Nat.le_of_ble_eq_true rfl⟩ (by decide) rfl k_p0 (c_X10_isThere k_p0 hq) rfl rfl (Nat.le_of_ble_eq_true rfl) dX10_come_12 ⟨Nat.le_of_ble_eq_true rfl, Nat.le_of_ble_eq_true rfl⟩) hS (fun r6 S5 H locs hf hR hS => ?_)
    refine y_if_ne (tgt := 36) B hf dX10_come_15 (by decide) (fun hf => ?_) (fun hf => ?_)
    · refine lv_aload_n B.1.1 B.1.2.1 dX10_come_36 rfl (hl.at 0 rfl) ?_
      refine lv_iconst (v := -1) B.1.1 B.1.2.1 dX10_come_37 (by decide) ?_
      refine y_ci hf (fun q hq => x_runV (ci := 10) (C := RX10) B.1 B.2.2.2 hl hR hS cm_X10_298 ⟨rfl, rfl, Nat.le_of_ble_eq_true rfl, Nat.le_of_ble_eq_true rfl⟩ (by decide) rfl k_p0 (c_X10_refuse k_p0 hq) rfl rfl (Nat.le_of_ble_eq_true rfl) dX10_come_38 ⟨Nat.le_of_ble_eq_true rfl, Nat.le_of_ble_eq_true rfl⟩) hS (fun r8 S7 H locs hf hR hS => ?_)
      exact y_iret B hR hS hf dX10_come_41
    · refine lv_iload_n B.1.1 B.1.2.1 dX10_come_18 rfl (hl.at 2 rfl) ?_
      refine lv_iconst (v := 0) B.1.1 B.1.2.1 dX10_come_19 (by decide) ?_
      refine lv_ldc (v := 1000000) B.1.1 B.1.2.1 B.1.2.2.1 (B.1.2.2.2.1 _ tw_1240) dX10_come_20 ?_
      refine y_ci hf (fun q hq => y_runS B.1 B.2.2.2 hl hR hS cm_X10_81 ⟨rfl, rfl, Nat.le_of_ble_eq_true rfl, Nat.le_of_ble_eq_true rfl⟩ (c_X10_isIn hq) rfl rfl (Nat.le_of_ble_eq_true rfl) dX10_come_22 ⟨Nat.le_of_ble_eq_true rfl, Nat.le_of_ble_eq_true rfl⟩) hS (fun r10 S9 H locs hf hR hS => ?_)
      refine y_if_eq (tgt := 36) B hf dX10_come_25 (by decide) (fun hf => ?_) (fun hf => ?_)
      · refine lv_aload_n B.1.1 B.1.2.1 dX10_come_36 rfl (hl.at 0 rfl) ?_
        refine lv_iconst (v := -1) B.1.1 B.1.2.1 dX10_come_37 (by decide) ?_
        refine y_ci hf (fun q hq => x_runV (ci := 10) (C := RX10) B.1 B.2.2.2 hl hR hS cm_X10_298 ⟨rfl, rfl, Nat.le_of_ble_eq_true rfl, Nat.le_of_ble_eq_true rfl⟩ (by decide) rfl k_p0 (c_X10_refuse k_p0 hq) rfl rfl (Nat.le_of_ble_eq_true rfl) dX10_come_38 ⟨Nat.le_of_ble_eq_true rfl, Nat.le_of_ble_eq_true rfl⟩) hS (fun r12 S11 H locs hf hR hS => ?_)
        exact y_iret B hR hS hf dX10_come_41
      · refine lv_aload_n B.1.1 B.1.2.1 dX10_come_28 rfl (hl.at 0 rfl) ?_
        refine lv_iconst (v := 2) B.1.1 B.1.2.1 dX10_come_29 (by decide) ?_
        refine y_ci hf (fun q hq => x_runV (ci := 10) (C := RX10) B.1 B.2.2.2 hl hR hS cm_X10_193 ⟨rfl, rfl, Nat.le_of_ble_eq_true rfl, Nat.le_of_ble_eq_true rfl⟩ (by decide) rfl k_p0 (c_X10_get k_p0 hq) rfl rfl (Nat.le_of_ble_eq_true rfl) dX10_come_30 ⟨Nat.le_of_ble_eq_true rfl, Nat.le_of_ble_eq_true rfl⟩) hS (fun r14 S13 H locs hf hR hS => ?_)
        refine y_if_eq (tgt := 42) B hf dX10_come_33 (by decide) (fun hf => ?_) (fun hf => ?_)
        · refine lv_aload_n B.1.1 B.1.2.1 dX10_come_42 rfl (hl.at 0 rfl) ?_
          refine y_cv hf (fun q hq => x_runV (ci := 10) (C := RX10) B.1 B.2.2.2 hl hR hS cm_X10_85 ⟨rfl, rfl, Nat.le_of_ble_eq_true rfl, Nat.le_of_ble_eq_true rfl⟩ (by decide) rfl k_p0 (c_X10_deed k_p0 hq) rfl rfl (Nat.le_of_ble_eq_true rfl) dX10_come_43 ⟨Nat.le_of_ble_eq_true rfl, Nat.le_of_ble_eq_true rfl⟩) hS (fun S15 H locs hf hR hS => ?_)
          refine lv_aload_n B.1.1 B.1.2.1 dX10_come_46 rfl (hl.at 0 rfl) ?_
          refine y_ci hf (fun q hq => x_runV (ci := 10) (C := RX10) B.1 B.2.2.2 hl hR hS cm_X10_374 ⟨rfl, rfl, Nat.le_of_ble_eq_true rfl, Nat.le_of_ble_eq_true rfl⟩ (by decide) rfl k_p0 (c_X10_valueAnew k_p0 hq) rfl rfl (Nat.le_of_ble_eq_true rfl) dX10_come_47 ⟨Nat.le_of_ble_eq_true rfl, Nat.le_of_ble_eq_true rfl⟩) hS (fun r17 S16 H locs hf hR hS => ?_)
          refine y_istore_n B hl hf dX10_come_50 rfl (by decide) rfl (fun v18 ls hf hl => ?_)
          have hl : xL ls 4 [_, _, _, _] := hl
          refine lv_aload_n B.1.1 B.1.2.1 dX10_come_51 rfl (hl.at 0 rfl) ?_
          refine lv_iload_n B.1.1 B.1.2.1 dX10_come_52 rfl (hl.at 1 rfl) ?_
          refine y_cv hf (fun q hq => x_runV (ci := 10) (C := RX10) B.1 B.2.2.2 hl hR hS cm_X10_377 ⟨rfl, rfl, Nat.le_of_ble_eq_true rfl, Nat.le_of_ble_eq_true rfl⟩ (by decide) rfl k_p0 (c_X10_arrives k_p0 hq) rfl rfl (Nat.le_of_ble_eq_true rfl) dX10_come_53 ⟨Nat.le_of_ble_eq_true rfl, Nat.le_of_ble_eq_true rfl⟩) hS (fun S19 H locs hf hR hS => ?_)
          refine lv_aload_n B.1.1 B.1.2.1 dX10_come_56 rfl (hl.at 0 rfl) ?_
          refine lv_iconst (v := 3) B.1.1 B.1.2.1 dX10_come_57 (by decide) ?_
          refine lv_iload_n B.1.1 B.1.2.1 dX10_come_58 rfl (hl.at 2 rfl) ?_
          refine y_cv hf (fun q hq => x_runV (ci := 10) (C := RX10) B.1 B.2.2.2 hl hR hS cm_X10_246 ⟨rfl, rfl, Nat.le_of_ble_eq_true rfl, Nat.le_of_ble_eq_true rfl⟩ (by decide) rfl k_p0 (c_X10_more k_p0 hq) rfl rfl (Nat.le_of_ble_eq_true rfl) dX10_come_59 ⟨Nat.le_of_ble_eq_true rfl, Nat.le_of_ble_eq_true rfl⟩) hS (fun S20 H locs hf hR hS => ?_)
          refine lv_aload_n B.1.1 B.1.2.1 dX10_come_62 rfl (hl.at 0 rfl) ?_
          refine lv_iconst (v := 5) B.1.1 B.1.2.1 dX10_come_63 (by decide) ?_
          refine lv_iload_n B.1.1 B.1.2.1 dX10_come_64 rfl (hl.at 1 rfl) ?_
          refine lv_iadd B.1.1 B.1.2.1 dX10_come_65 ?_
          refine lv_iload_n B.1.1 B.1.2.1 dX10_come_66 rfl (hl.at 3 rfl) ?_
          refine lv_iload_n B.1.1 B.1.2.1 dX10_come_67 rfl (hl.at 2 rfl) ?_
          refine lv_iadd B.1.1 B.1.2.1 dX10_come_68 ?_
          refine y_cv hf (fun q hq => x_runV (ci := 10) (C := RX10) B.1 B.2.2.2 hl hR hS cm_X10_71 ⟨rfl, rfl, Nat.le_of_ble_eq_true rfl, Nat.le_of_ble_eq_true rfl⟩ (by decide) rfl k_p0 (c_X10_put k_p0 hq) rfl rfl (Nat.le_of_ble_eq_true rfl) dX10_come_69 ⟨Nat.le_of_ble_eq_true rfl, Nat.le_of_ble_eq_true rfl⟩) hS (fun S21 H locs hf hR hS => ?_)
          refine lv_aload_n B.1.1 B.1.2.1 dX10_come_72 rfl (hl.at 0 rfl) ?_
          refine lv_aload_n B.1.1 B.1.2.1 dX10_come_73 rfl (hl.at 0 rfl) ?_
          refine lv_iconst (v := 5) B.1.1 B.1.2.1 dX10_come_74 (by decide) ?_
          refine lv_iload_n B.1.1 B.1.2.1 dX10_come_75 rfl (hl.at 1 rfl) ?_
          refine lv_iadd B.1.1 B.1.2.1 dX10_come_76 ?_
          refine y_ci hf (fun q hq => x_runV (ci := 10) (C := RX10) B.1 B.2.2.2 hl hR hS cm_X10_193 ⟨rfl, rfl, Nat.le_of_ble_eq_true rfl, Nat.le_of_ble_eq_true rfl⟩ (by decide) rfl k_p0 (c_X10_get k_p0 hq) rfl rfl (Nat.le_of_ble_eq_true rfl) dX10_come_77 ⟨Nat.le_of_ble_eq_true rfl, Nat.le_of_ble_eq_true rfl⟩) hS (fun r23 S22 H locs hf hR hS => ?_)
          refine y_ci hf (fun q hq => x_runV (ci := 10) (C := RX10) B.1 B.2.2.2 hl hR hS cm_X10_304 ⟨rfl, rfl, Nat.le_of_ble_eq_true rfl, Nat.le_of_ble_eq_true rfl⟩ (by decide) rfl k_p0 (c_X10_tells k_p0 hq) rfl rfl (Nat.le_of_ble_eq_true rfl) dX10_come_80 ⟨Nat.le_of_ble_eq_true rfl, Nat.le_of_ble_eq_true rfl⟩) hS (fun r25 S24 H locs hf hR hS => ?_)
          exact y_iret B hR hS hf dX10_come_83
        · refine lv_aload_n B.1.1 B.1.2.1 dX10_come_36 rfl (hl.at 0 rfl) ?_
          refine lv_iconst (v := -1) B.1.1 B.1.2.1 dX10_come_37 (by decide) ?_
          refine y_ci hf (fun q hq => x_runV (ci := 10) (C := RX10) B.1 B.2.2.2 hl hR hS cm_X10_298 ⟨rfl, rfl, Nat.le_of_ble_eq_true rfl, Nat.le_of_ble_eq_true rfl⟩ (by decide) rfl k_p0 (c_X10_refuse k_p0 hq) rfl rfl (Nat.le_of_ble_eq_true rfl) dX10_come_38 ⟨Nat.le_of_ble_eq_true rfl, Nat.le_of_ble_eq_true rfl⟩) hS (fun r27 S26 H locs hf hR hS => ?_)
          exact y_iret B hR hS hf dX10_come_41
