abbrev xr_X10_closeYear : Room := { frames := 8, cells := 0, slots := 0, locals := 171 }
def f_X10_closeYear (T : xT) (S : xS) (p0 : Nat) : Option (xS) := xcv (f_X10_forgetSteps T S p0) (fun S1 => xc (f_X10_held T S1 p0) (fun r3 S2 => xc (f_X10_get T S2 p0 ((4 : Int32))) (fun r5 S4 => xl ((r3 - r5)) (fun v6 => xcv (f_X10_chargeBack T S4 p0 ((-v6))) (fun S7 => xcv (f_X10_takeLoss T S7 p0 v6) (fun S8 => xcv (f_X10_cure T S8 p0) (fun S9 => xcv (f_X10_giveSpecials T S9 p0) (fun S10 => xcv (f_X10_share T S10 p0) (fun S11 => xc (f_X10_held T S11 p0) (fun r13 S12 => xcv (f_X10_put T S12 p0 ((4 : Int32)) r13) (fun S14 => xcv (f_X10_more T S14 p0 ((1 : Int32)) ((1 : Int32))) (fun S15 => some S15))))))))))))
set_option maxRecDepth 100000 in
set_option maxHeartbeats 4000000 in
theorem c_X10_closeYear {l : Launch} {z : Nat} {D : va_G} {dA : Nat → ClassId} {T : xT} {S : xS} {p0 : Nat} (k_p0 : xlk T p0 10 = true) {q : xS} (hf : f_X10_closeYear T S p0 = some q) : Met l yX10_closeYear (xws yX10_closeYear cX10_closeYear 2 none) xr_X10_closeYear (xPc z D dA T S [.ref (z + p0)]) (xQv z D dA T q) 0 0 (xA z) := by
  refine x_met RX10 (by decide) rfl (Nat.le_of_ble_eq_true rfl) ?_
  intro p e s m below meth c ls _ X hr hlk hml _ hR hS hl
  have B : xB p s m _ meth c cX10_closeYear RX10 2 none D dA := ⟨X, hr, hlk, hml⟩
  have hl : xL ls 2 [_, _] := hl
  unfold f_X10_closeYear at hf
  refine lv_aload_n B.1.1 B.1.2.1 dX10_closeYear_0 rfl (hl.at 0 rfl) ?_
  refine y_cv hf (fun q hq => x_runV (ci := 10) (C := RX10) B.1 B.2.2.2 hl hR hS cm_X10_280 ⟨rfl, rfl, Nat.le_of_ble_eq_true rfl, Nat.le_of_ble_eq_true rfl⟩ (by decide) rfl k_p0 (c_X10_forgetSteps k_p0 hq) rfl rfl (Nat.le_of_ble_eq_true rfl) dX10_closeYear_1 ⟨Nat.le_of_ble_eq_true rfl, Nat.le_of_ble_eq_true rfl⟩) hS (fun S1 H locs hf hR hS => ?_)
  refine lv_aload_n B.1.1 B.1.2.1 dX10_closeYear_4 rfl (hl.at 0 rfl) ?_
  refine y_ci hf (fun q hq => x_runV (ci := 10) (C := RX10) B.1 B.2.2.2 hl hR hS cm_X10_234 ⟨rfl, rfl, Nat.le_of_ble_eq_true rfl, Nat.le_of_ble_eq_true rfl⟩ (by decide) rfl k_p0 (c_X10_held k_p0 hq) rfl rfl (Nat.le_of_ble_eq_true rfl) dX10_closeYear_5 ⟨Nat.le_of_ble_eq_true rfl, Nat.le_of_ble_eq_true rfl⟩) hS (fun r3 S2 H locs hf hR hS => ?_)
  refine lv_aload_n B.1.1 B.1.2.1 dX10_closeYear_8 rfl (hl.at 0 rfl) ?_
  refine lv_iconst (v := 4) B.1.1 B.1.2.1 dX10_closeYear_9 (by decide) ?_
  refine y_ci hf (fun q hq => x_runV (ci := 10) (C := RX10) B.1 B.2.2.2 hl hR hS cm_X10_193 ⟨rfl, rfl, Nat.le_of_ble_eq_true rfl, Nat.le_of_ble_eq_true rfl⟩ (by decide) rfl k_p0 (c_X10_get k_p0 hq) rfl rfl (Nat.le_of_ble_eq_true rfl) dX10_closeYear_10 ⟨Nat.le_of_ble_eq_true rfl, Nat.le_of_ble_eq_true rfl⟩) hS (fun r5 S4 H locs hf hR hS => ?_)
  refine lv_isub B.1.1 B.1.2.1 dX10_closeYear_13 ?_
  refine y_istore_n B hl hf dX10_closeYear_14 rfl (by decide) rfl (fun v6 ls hf hl => ?_)
  have hl : xL ls 2 [_, _] := hl
  refine lv_aload_n B.1.1 B.1.2.1 dX10_closeYear_15 rfl (hl.at 0 rfl) ?_
  refine lv_iload_n B.1.1 B.1.2.1 dX10_closeYear_16 rfl (hl.at 1 rfl) ?_
  refine lv_ineg B.1.1 B.1.2.1 dX10_closeYear_17 ?_
  refine y_cv hf (fun q hq => x_runV (ci := 10) (C := RX10) B.1 B.2.2.2 hl hR hS cm_X10_283 ⟨rfl, rfl, Nat.le_of_ble_eq_true rfl, Nat.le_of_ble_eq_true rfl⟩ (by decide) rfl k_p0 (c_X10_chargeBack k_p0 hq) rfl rfl (Nat.le_of_ble_eq_true rfl) dX10_closeYear_18 ⟨Nat.le_of_ble_eq_true rfl, Nat.le_of_ble_eq_true rfl⟩) hS (fun S7 H locs hf hR hS => ?_)
  refine lv_aload_n B.1.1 B.1.2.1 dX10_closeYear_21 rfl (hl.at 0 rfl) ?_
  refine lv_iload_n B.1.1 B.1.2.1 dX10_closeYear_22 rfl (hl.at 1 rfl) ?_
  refine y_cv hf (fun q hq => x_runV (ci := 10) (C := RX10) B.1 B.2.2.2 hl hR hS cm_X10_286 ⟨rfl, rfl, Nat.le_of_ble_eq_true rfl, Nat.le_of_ble_eq_true rfl⟩ (by decide) rfl k_p0 (c_X10_takeLoss k_p0 hq) rfl rfl (Nat.le_of_ble_eq_true rfl) dX10_closeYear_23 ⟨Nat.le_of_ble_eq_true rfl, Nat.le_of_ble_eq_true rfl⟩) hS (fun S8 H locs hf hR hS => ?_)
  refine lv_aload_n B.1.1 B.1.2.1 dX10_closeYear_26 rfl (hl.at 0 rfl) ?_
  refine y_cv hf (fun q hq => x_runV (ci := 10) (C := RX10) B.1 B.2.2.2 hl hR hS cm_X10_289 ⟨rfl, rfl, Nat.le_of_ble_eq_true rfl, Nat.le_of_ble_eq_true rfl⟩ (by decide) rfl k_p0 (c_X10_cure k_p0 hq) rfl rfl (Nat.le_of_ble_eq_true rfl) dX10_closeYear_27 ⟨Nat.le_of_ble_eq_true rfl, Nat.le_of_ble_eq_true rfl⟩) hS (fun S9 H locs hf hR hS => ?_)
  refine lv_aload_n B.1.1 B.1.2.1 dX10_closeYear_30 rfl (hl.at 0 rfl) ?_
  refine y_cv hf (fun q hq => x_runV (ci := 10) (C := RX10) B.1 B.2.2.2 hl hR hS cm_X10_292 ⟨rfl, rfl, Nat.le_of_ble_eq_true rfl, Nat.le_of_ble_eq_true rfl⟩ (by decide) rfl k_p0 (c_X10_giveSpecials k_p0 hq) rfl rfl (Nat.le_of_ble_eq_true rfl) dX10_closeYear_31 ⟨Nat.le_of_ble_eq_true rfl, Nat.le_of_ble_eq_true rfl⟩) hS (fun S10 H locs hf hR hS => ?_)
  refine lv_aload_n B.1.1 B.1.2.1 dX10_closeYear_34 rfl (hl.at 0 rfl) ?_
  refine y_cv hf (fun q hq => x_runV (ci := 10) (C := RX10) B.1 B.2.2.2 hl hR hS cm_X10_295 ⟨rfl, rfl, Nat.le_of_ble_eq_true rfl, Nat.le_of_ble_eq_true rfl⟩ (by decide) rfl k_p0 (c_X10_share k_p0 hq) rfl rfl (Nat.le_of_ble_eq_true rfl) dX10_closeYear_35 ⟨Nat.le_of_ble_eq_true rfl, Nat.le_of_ble_eq_true rfl⟩) hS (fun S11 H locs hf hR hS => ?_)
  refine lv_aload_n B.1.1 B.1.2.1 dX10_closeYear_38 rfl (hl.at 0 rfl) ?_
  refine lv_iconst (v := 4) B.1.1 B.1.2.1 dX10_closeYear_39 (by decide) ?_
  refine lv_aload_n B.1.1 B.1.2.1 dX10_closeYear_40 rfl (hl.at 0 rfl) ?_
  refine y_ci hf (fun q hq => x_runV (ci := 10) (C := RX10) B.1 B.2.2.2 hl hR hS cm_X10_234 ⟨rfl, rfl, Nat.le_of_ble_eq_true rfl, Nat.le_of_ble_eq_true rfl⟩ (by decide) rfl k_p0 (c_X10_held k_p0 hq) rfl rfl (Nat.le_of_ble_eq_true rfl) dX10_closeYear_41 ⟨Nat.le_of_ble_eq_true rfl, Nat.le_of_ble_eq_true rfl⟩) hS (fun r13 S12 H locs hf hR hS => ?_)
  refine y_cv hf (fun q hq => x_runV (ci := 10) (C := RX10) B.1 B.2.2.2 hl hR hS cm_X10_71 ⟨rfl, rfl, Nat.le_of_ble_eq_true rfl, Nat.le_of_ble_eq_true rfl⟩ (by decide) rfl k_p0 (c_X10_put k_p0 hq) rfl rfl (Nat.le_of_ble_eq_true rfl) dX10_closeYear_44 ⟨Nat.le_of_ble_eq_true rfl, Nat.le_of_ble_eq_true rfl⟩) hS (fun S14 H locs hf hR hS => ?_)
  refine lv_aload_n B.1.1 B.1.2.1 dX10_closeYear_47 rfl (hl.at 0 rfl) ?_
  refine lv_iconst (v := 1) B.1.1 B.1.2.1 dX10_closeYear_48 (by decide) ?_
  refine lv_iconst (v := 1) B.1.1 B.1.2.1 dX10_closeYear_49 (by decide) ?_
  refine y_cv hf (fun q hq => x_runV (ci := 10) (C := RX10) B.1 B.2.2.2 hl hR hS cm_X10_246 ⟨rfl, rfl, Nat.le_of_ble_eq_true rfl, Nat.le_of_ble_eq_true rfl⟩ (by decide) rfl k_p0 (c_X10_more k_p0 hq) rfl rfl (Nat.le_of_ble_eq_true rfl) dX10_closeYear_50 ⟨Nat.le_of_ble_eq_true rfl, Nat.le_of_ble_eq_true rfl⟩) hS (fun S15 H locs hf hR hS => ?_)
  exact y_vret B hR hS hf dX10_closeYear_53
abbrev xr_X10_refuse : Room := { frames := 1, cells := 0, slots := 0, locals := 12 }
def f_X10_refuse (T : xT) (S : xS) (p0 : Nat) (p1 : Int32) : Option (Int32 × xS) := xgd (xnz ((0 : Int32))) (xpi S p0 26 ((0 : Int32)) (fun S1 => some (p1, S1)))
set_option maxRecDepth 100000 in
set_option maxHeartbeats 4000000 in
theorem c_X10_refuse {l : Launch} {z : Nat} {D : va_G} {dA : Nat → ClassId} {T : xT} {S : xS} {p0 : Nat} {p1 : Int32} (k_p0 : xlk T p0 10 = true) {q : Int32 × xS} (hf : f_X10_refuse T S p0 p1 = some q) : Met l yX10_refuse (xws yX10_refuse cX10_refuse 2 (some .int)) xr_X10_refuse (xPc z D dA T S [.ref (z + p0), .int p1]) (xQi z D dA T q) 0 0 (xA z) := by
  refine x_met RX10 (by decide) rfl (Nat.le_of_ble_eq_true rfl) ?_
  intro p e s m below meth c ls _ X hr hlk hml _ hR hS hl
  have B : xB p s m _ meth c cX10_refuse RX10 2 (some .int) D dA := ⟨X, hr, hlk, hml⟩
  have hl : xL ls 2 [_, _] := hl
  unfold f_X10_refuse at hf
  refine lv_aload_n B.1.1 B.1.2.1 dX10_refuse_0 rfl (hl.at 0 rfl) ?_
  refine lv_iconst (v := 0) B.1.1 B.1.2.1 dX10_refuse_1 (by decide) ?_
  refine y_putZ B hR hS hf k_p0 fp_X10_356 dX10_refuse_2 (fun S1 H locs hf hR hS => ?_)
  refine lv_iload_n B.1.1 B.1.2.1 dX10_refuse_5 rfl (hl.at 1 rfl) ?_
  exact y_iret B hR hS hf dX10_refuse_6
abbrev xr_X10_tells : Room := { frames := 1, cells := 0, slots := 0, locals := 12 }
def f_X10_tells (T : xT) (S : xS) (p0 : Nat) (p1 : Int32) : Option (Int32 × xS) := xgd (xnz ((1 : Int32))) (xpi S p0 26 ((1 : Int32)) (fun S1 => some (p1, S1)))
set_option maxRecDepth 100000 in
set_option maxHeartbeats 4000000 in
theorem c_X10_tells {l : Launch} {z : Nat} {D : va_G} {dA : Nat → ClassId} {T : xT} {S : xS} {p0 : Nat} {p1 : Int32} (k_p0 : xlk T p0 10 = true) {q : Int32 × xS} (hf : f_X10_tells T S p0 p1 = some q) : Met l yX10_tells (xws yX10_tells cX10_tells 2 (some .int)) xr_X10_tells (xPc z D dA T S [.ref (z + p0), .int p1]) (xQi z D dA T q) 0 0 (xA z) := by
  refine x_met RX10 (by decide) rfl (Nat.le_of_ble_eq_true rfl) ?_
  intro p e s m below meth c ls _ X hr hlk hml _ hR hS hl
  have B : xB p s m _ meth c cX10_tells RX10 2 (some .int) D dA := ⟨X, hr, hlk, hml⟩
  have hl : xL ls 2 [_, _] := hl
  unfold f_X10_tells at hf
  refine lv_aload_n B.1.1 B.1.2.1 dX10_tells_0 rfl (hl.at 0 rfl) ?_
  refine lv_iconst (v := 1) B.1.1 B.1.2.1 dX10_tells_1 (by decide) ?_
  refine y_putZ B hR hS hf k_p0 fp_X10_356 dX10_tells_2 (fun S1 H locs hf hR hS => ?_)
  refine lv_iload_n B.1.1 B.1.2.1 dX10_tells_5 rfl (hl.at 1 rfl) ?_
  exact y_iret B hR hS hf dX10_tells_6
abbrev xr_X10_close : Room := { frames := 9, cells := 0, slots := 0, locals := 192 }
def f_X10_close (T : xT) (S : xS) (p0 : Nat) : Option (Int32 × xS) := xc (f_X10_get T S p0 ((0 : Int32))) (fun r2 S1 => if r2 = (0 : Int32) then xc (f_X10_refuse T S1 p0 ((-1 : Int32))) (fun r10 S9 => some (r10, S9)) else xcv (f_X10_deed T S1 p0) (fun S3 => xcv (f_X10_closeYear T S3 p0) (fun S4 => xc (f_X10_get T S4 p0 ((1 : Int32))) (fun r6 S5 => xc (f_X10_tells T S5 p0 r6) (fun r8 S7 => some (r8, S7))))))
set_option maxRecDepth 100000 in
set_option maxHeartbeats 4000000 in
theorem c_X10_close {l : Launch} {z : Nat} {D : va_G} {dA : Nat → ClassId} {T : xT} {S : xS} {p0 : Nat} (k_p0 : xlk T p0 10 = true) {q : Int32 × xS} (hf : f_X10_close T S p0 = some q) : Met l yX10_close (xws yX10_close cX10_close 1 (some .int)) xr_X10_close (xPc z D dA T S [.ref (z + p0)]) (xQi z D dA T q) 0 0 (xA z) := by
  refine x_met RX10 (by decide) rfl (Nat.le_of_ble_eq_true rfl) ?_
  intro p e s m below meth c ls _ X hr hlk hml _ hR hS hl
  have B : xB p s m _ meth c cX10_close RX10 1 (some .int) D dA := ⟨X, hr, hlk, hml⟩
  have hl : xL ls 1 [_] := hl
  unfold f_X10_close at hf
  refine lv_aload_n B.1.1 B.1.2.1 dX10_close_0 rfl (hl.at 0 rfl) ?_
  refine lv_iconst (v := 0) B.1.1 B.1.2.1 dX10_close_1 (by decide) ?_
  refine y_ci hf (fun q hq => x_runV (ci := 10) (C := RX10) B.1 B.2.2.2 hl hR hS cm_X10_193 ⟨rfl, rfl, Nat.le_of_ble_eq_true rfl, Nat.le_of_ble_eq_true rfl⟩ (by decide) rfl k_p0 (c_X10_get k_p0 hq) rfl rfl (Nat.le_of_ble_eq_true rfl) dX10_close_2 ⟨Nat.le_of_ble_eq_true rfl, Nat.le_of_ble_eq_true rfl⟩) hS (fun r2 S1 H locs hf hR hS => ?_)
  refine y_if_ne (tgt := 14) B hf dX10_close_5 (by decide) (fun hf => ?_) (fun hf => ?_)
  · refine lv_aload_n B.1.1 B.1.2.1 dX10_close_14 rfl (hl.at 0 rfl) ?_
    refine y_cv hf (fun q hq => x_runV (ci := 10) (C := RX10) B.1 B.2.2.2 hl hR hS cm_X10_85 ⟨rfl, rfl, Nat.le_of_ble_eq_true rfl, Nat.le_of_ble_eq_true rfl⟩ (by decide) rfl k_p0 (c_X10_deed k_p0 hq) rfl rfl (Nat.le_of_ble_eq_true rfl) dX10_close_15 ⟨Nat.le_of_ble_eq_true rfl, Nat.le_of_ble_eq_true rfl⟩) hS (fun S3 H locs hf hR hS => ?_)
    refine lv_aload_n B.1.1 B.1.2.1 dX10_close_18 rfl (hl.at 0 rfl) ?_
    refine y_cv hf (fun q hq => x_runV (ci := 10) (C := RX10) B.1 B.2.2.2 hl hR hS cm_X10_301 ⟨rfl, rfl, Nat.le_of_ble_eq_true rfl, Nat.le_of_ble_eq_true rfl⟩ (by decide) rfl k_p0 (c_X10_closeYear k_p0 hq) rfl rfl (Nat.le_of_ble_eq_true rfl) dX10_close_19 ⟨Nat.le_of_ble_eq_true rfl, Nat.le_of_ble_eq_true rfl⟩) hS (fun S4 H locs hf hR hS => ?_)
    refine lv_aload_n B.1.1 B.1.2.1 dX10_close_22 rfl (hl.at 0 rfl) ?_
    refine lv_aload_n B.1.1 B.1.2.1 dX10_close_23 rfl (hl.at 0 rfl) ?_
    refine lv_iconst (v := 1) B.1.1 B.1.2.1 dX10_close_24 (by decide) ?_
    refine y_ci hf (fun q hq => x_runV (ci := 10) (C := RX10) B.1 B.2.2.2 hl hR hS cm_X10_193 ⟨rfl, rfl, Nat.le_of_ble_eq_true rfl, Nat.le_of_ble_eq_true rfl⟩ (by decide) rfl k_p0 (c_X10_get k_p0 hq) rfl rfl (Nat.le_of_ble_eq_true rfl) dX10_close_25 ⟨Nat.le_of_ble_eq_true rfl, Nat.le_of_ble_eq_true rfl⟩) hS (fun r6 S5 H locs hf hR hS => ?_)
    refine y_ci hf (fun q hq => x_runV (ci := 10) (C := RX10) B.1 B.2.2.2 hl hR hS cm_X10_304 ⟨rfl, rfl, Nat.le_of_ble_eq_true rfl, Nat.le_of_ble_eq_true rfl⟩ (by decide) rfl k_p0 (c_X10_tells k_p0 hq) rfl rfl (Nat.le_of_ble_eq_true rfl) dX10_close_28 ⟨Nat.le_of_ble_eq_true rfl, Nat.le_of_ble_eq_true rfl⟩) hS (fun r8 S7 H locs hf hR hS => ?_)
    exact y_iret B hR hS hf dX10_close_31
  · refine lv_aload_n B.1.1 B.1.2.1 dX10_close_8 rfl (hl.at 0 rfl) ?_
    refine lv_iconst (v := -1) B.1.1 B.1.2.1 dX10_close_9 (by decide) ?_
    refine y_ci hf (fun q hq => x_runV (ci := 10) (C := RX10) B.1 B.2.2.2 hl hR hS cm_X10_298 ⟨rfl, rfl, Nat.le_of_ble_eq_true rfl, Nat.le_of_ble_eq_true rfl⟩ (by decide) rfl k_p0 (c_X10_refuse k_p0 hq) rfl rfl (Nat.le_of_ble_eq_true rfl) dX10_close_10 ⟨Nat.le_of_ble_eq_true rfl, Nat.le_of_ble_eq_true rfl⟩) hS (fun r10 S9 H locs hf hR hS => ?_)
    exact y_iret B hR hS hf dX10_close_13
abbrev xr_X10_step : Room := { frames := 3, cells := 0, slots := 0, locals := 56 }
def f_X10_step_44 (T : xT) (S : xS) (p0 : Nat) (p1 : Int32) (p2 : Int32) : Option (Int32 × xS) := if p2 = (7 : Int32) then xc (f_X10_get T S p0 ((309 : Int32))) (fun r10 S9 => some (r10, S9)) else if p1 = (-1 : Int32) then xc (f_X10_stepAt T S p2) (fun r6 S5 => xc (f_X10_sumOf T S5 p0 r6) (fun r8 S7 => some (r8, S7))) else xc (f_X10_stepAt T S p2) (fun r2 S1 => xc (f_X10_get T S1 p0 ((r2 + p1))) (fun r4 S3 => some (r4, S3)))
set_option maxRecDepth 100000 in
set_option maxHeartbeats 4000000 in
theorem w_X10_step_44 {p : Program} {l : Launch} {e : Env} {s : State} {m : MethodId} {args : Array Value} {below : List Frame} {meth : Method} {c : Code} {z : Nat} {D : va_G} {dA : Nat → ClassId} {T : xT} (B : xB p s m args meth c cX10_step RX10 3 (some .int) D dA) {q : Int32 × xS} : ∀ (S : xS) (H : Heap) (locs : List Loc) (ls : Array Slot) (p0 : Nat) (p1 : Int32) (p2 : Int32), xlk T p0 10 = true → f_X10_step_44 T S p0 p1 p2 = some q → xRel z D dA T S H → va_S (xA z) s.heap H locs → xL ls 3 [some (.ref (z + p0)), some (.int p1), some (.int p2)] → xGi p l e xr_X10_step s m args below meth c z D dA T q H locs 44 ls [] := by
  intro S H locs ls p0 p1 p2 k_p0 hf hR hS hl
  unfold f_X10_step_44 at hf
  refine lv_iload_n B.1.1 B.1.2.1 dX10_step_44 rfl (hl.at 2 rfl) ?_
  refine lv_bipush (v := 7) B.1.1 B.1.2.1 dX10_step_45 (by decide) ?_
  refine y_icmp_ne (tgt := 58) B hf dX10_step_47 (by decide) (fun hf => ?_) (fun hf => ?_)
  · refine lv_iload_n B.1.1 B.1.2.1 dX10_step_58 rfl (hl.at 1 rfl) ?_
    refine lv_iconst (v := -1) B.1.1 B.1.2.1 dX10_step_59 (by decide) ?_
    refine y_icmp_ne (tgt := 74) B hf dX10_step_60 (by decide) (fun hf => ?_) (fun hf => ?_)
    · refine lv_aload_n B.1.1 B.1.2.1 dX10_step_74 rfl (hl.at 0 rfl) ?_
      refine lv_iload_n B.1.1 B.1.2.1 dX10_step_75 rfl (hl.at 2 rfl) ?_
      refine y_ci hf (fun q hq => y_runS B.1 B.2.2.2 hl hR hS cm_X10_243 ⟨rfl, rfl, Nat.le_of_ble_eq_true rfl, Nat.le_of_ble_eq_true rfl⟩ (c_X10_stepAt hq) rfl rfl (Nat.le_of_ble_eq_true rfl) dX10_step_76 ⟨Nat.le_of_ble_eq_true rfl, Nat.le_of_ble_eq_true rfl⟩) hS (fun r2 S1 H locs hf hR hS => ?_)
      refine lv_iload_n B.1.1 B.1.2.1 dX10_step_79 rfl (hl.at 1 rfl) ?_
      refine lv_iadd B.1.1 B.1.2.1 dX10_step_80 ?_
      refine y_ci hf (fun q hq => x_runV (ci := 10) (C := RX10) B.1 B.2.2.2 hl hR hS cm_X10_193 ⟨rfl, rfl, Nat.le_of_ble_eq_true rfl, Nat.le_of_ble_eq_true rfl⟩ (by decide) rfl k_p0 (c_X10_get k_p0 hq) rfl rfl (Nat.le_of_ble_eq_true rfl) dX10_step_81 ⟨Nat.le_of_ble_eq_true rfl, Nat.le_of_ble_eq_true rfl⟩) hS (fun r4 S3 H locs hf hR hS => ?_)
      exact y_iret B hR hS hf dX10_step_84
    · refine lv_aload_n B.1.1 B.1.2.1 dX10_step_63 rfl (hl.at 0 rfl) ?_
      refine lv_iload_n B.1.1 B.1.2.1 dX10_step_64 rfl (hl.at 2 rfl) ?_
      refine y_ci hf (fun q hq => y_runS B.1 B.2.2.2 hl hR hS cm_X10_243 ⟨rfl, rfl, Nat.le_of_ble_eq_true rfl, Nat.le_of_ble_eq_true rfl⟩ (c_X10_stepAt hq) rfl rfl (Nat.le_of_ble_eq_true rfl) dX10_step_65 ⟨Nat.le_of_ble_eq_true rfl, Nat.le_of_ble_eq_true rfl⟩) hS (fun r6 S5 H locs hf hR hS => ?_)
      refine y_ci hf (fun q hq => x_runV (ci := 10) (C := RX10) B.1 B.2.2.2 hl hR hS cm_X10_228 ⟨rfl, rfl, Nat.le_of_ble_eq_true rfl, Nat.le_of_ble_eq_true rfl⟩ (by decide) rfl k_p0 (c_X10_sumOf k_p0 hq) rfl rfl (Nat.le_of_ble_eq_true rfl) dX10_step_68 ⟨Nat.le_of_ble_eq_true rfl, Nat.le_of_ble_eq_true rfl⟩) hS (fun r8 S7 H locs hf hR hS => ?_)
      refine lv_goto (tgt := 84) B.1.1 B.1.2.1 dX10_step_71 (by decide) ?_
      exact y_iret B hR hS hf dX10_step_84
  · refine lv_aload_n B.1.1 B.1.2.1 dX10_step_50 rfl (hl.at 0 rfl) ?_
    refine lv_sipush (v := 309) B.1.1 B.1.2.1 dX10_step_51 (by decide) ?_
    refine y_ci hf (fun q hq => x_runV (ci := 10) (C := RX10) B.1 B.2.2.2 hl hR hS cm_X10_193 ⟨rfl, rfl, Nat.le_of_ble_eq_true rfl, Nat.le_of_ble_eq_true rfl⟩ (by decide) rfl k_p0 (c_X10_get k_p0 hq) rfl rfl (Nat.le_of_ble_eq_true rfl) dX10_step_54 ⟨Nat.le_of_ble_eq_true rfl, Nat.le_of_ble_eq_true rfl⟩) hS (fun r10 S9 H locs hf hR hS => ?_)
    exact y_iret B hR hS hf dX10_step_57
def f_X10_step (T : xT) (S : xS) (p0 : Nat) (p1 : Int32) (p2 : Int32) : Option (Int32 × xS) := xc (f_X10_get T S p0 ((308 : Int32))) (fun r2 S1 => if r2 = (0 : Int32) then some ((-1000000000 : Int32), S1) else xc (f_X10_isIn T S1 p1 ((-1 : Int32)) ((7 : Int32))) (fun r4 S3 => if r4 = (0 : Int32) then some ((-1000000000 : Int32), S3) else xc (f_X10_isIn T S3 p2 ((0 : Int32)) ((7 : Int32))) (fun r6 S5 => if r6 = (0 : Int32) then some ((-1000000000 : Int32), S5) else if p2 = (7 : Int32) then if p1 = (-1 : Int32) then f_X10_step_44 T S5 p0 p1 p2 else some ((-1000000000 : Int32), S5) else f_X10_step_44 T S5 p0 p1 p2)))
set_option maxRecDepth 100000 in
set_option maxHeartbeats 4000000 in
theorem c_X10_step {l : Launch} {z : Nat} {D : va_G} {dA : Nat → ClassId} {T : xT} {S : xS} {p0 : Nat} {p1 : Int32} {p2 : Int32} (k_p0 : xlk T p0 10 = true) {q : Int32 × xS} (hf : f_X10_step T S p0 p1 p2 = some q) : Met l yX10_step (xws yX10_step cX10_step 3 (some .int)) xr_X10_step (xPc z D dA T S [.ref (z + p0), .int p1, .int p2]) (xQi z D dA T q) 0 0 (xA z) := by
  refine x_met RX10 (by decide) rfl (Nat.le_of_ble_eq_true rfl) ?_
  intro p e s m below meth c ls _ X hr hlk hml _ hR hS hl
  have B : xB p s m _ meth c cX10_step RX10 3 (some .int) D dA := ⟨X, hr, hlk, hml⟩
  have hl : xL ls 3 [_, _, _] := hl
  unfold f_X10_step at hf
  refine lv_aload_n B.1.1 B.1.2.1 dX10_step_0 rfl (hl.at 0 rfl) ?_
  refine lv_sipush (v := 308) B.1.1 B.1.2.1 dX10_step_1 (by decide) ?_
  refine y_ci hf (fun q hq => x_runV (ci := 10) (C := RX10) B.1 B.2.2.2 hl hR hS cm_X10_193 ⟨rfl, rfl, Nat.le_of_ble_eq_true rfl, Nat.le_of_ble_eq_true rfl⟩ (by decide) rfl k_p0 (c_X10_get k_p0 hq) rfl rfl (Nat.le_of_ble_eq_true rfl) dX10_step_4 ⟨Nat.le_of_ble_eq_true rfl, Nat.le_of_ble_eq_true rfl⟩) hS (fun r2 S1 H locs hf hR hS => ?_)
  refine y_if_eq (tgt := 41) B hf dX10_step_7 (by decide) (fun hf => ?_) (fun hf => ?_)
  · refine lv_ldc (v := -1000000000) B.1.1 B.1.2.1 B.1.2.2.1 (B.1.2.2.2.1 _ tw_1301) dX10_step_41 ?_
    exact y_iret B hR hS hf dX10_step_43
  · refine lv_iload_n B.1.1 B.1.2.1 dX10_step_10 rfl (hl.at 1 rfl) ?_
    refine lv_iconst (v := -1) B.1.1 B.1.2.1 dX10_step_11 (by decide) ?_
    refine lv_bipush (v := 7) B.1.1 B.1.2.1 dX10_step_12 (by decide) ?_
    refine y_ci hf (fun q hq => y_runS B.1 B.2.2.2 hl hR hS cm_X10_81 ⟨rfl, rfl, Nat.le_of_ble_eq_true rfl, Nat.le_of_ble_eq_true rfl⟩ (c_X10_isIn hq) rfl rfl (Nat.le_of_ble_eq_true rfl) dX10_step_14 ⟨Nat.le_of_ble_eq_true rfl, Nat.le_of_ble_eq_true rfl⟩) hS (fun r4 S3 H locs hf hR hS => ?_)
    refine y_if_eq (tgt := 41) B hf dX10_step_17 (by decide) (fun hf => ?_) (fun hf => ?_)
    · refine lv_ldc (v := -1000000000) B.1.1 B.1.2.1 B.1.2.2.1 (B.1.2.2.2.1 _ tw_1301) dX10_step_41 ?_
      exact y_iret B hR hS hf dX10_step_43
    · refine lv_iload_n B.1.1 B.1.2.1 dX10_step_20 rfl (hl.at 2 rfl) ?_
      refine lv_iconst (v := 0) B.1.1 B.1.2.1 dX10_step_21 (by decide) ?_
      refine lv_bipush (v := 7) B.1.1 B.1.2.1 dX10_step_22 (by decide) ?_
      refine y_ci hf (fun q hq => y_runS B.1 B.2.2.2 hl hR hS cm_X10_81 ⟨rfl, rfl, Nat.le_of_ble_eq_true rfl, Nat.le_of_ble_eq_true rfl⟩ (c_X10_isIn hq) rfl rfl (Nat.le_of_ble_eq_true rfl) dX10_step_24 ⟨Nat.le_of_ble_eq_true rfl, Nat.le_of_ble_eq_true rfl⟩) hS (fun r6 S5 H locs hf hR hS => ?_)
      refine y_if_eq (tgt := 41) B hf dX10_step_27 (by decide) (fun hf => ?_) (fun hf => ?_)
      · refine lv_ldc (v := -1000000000) B.1.1 B.1.2.1 B.1.2.2.1 (B.1.2.2.2.1 _ tw_1301) dX10_step_41 ?_
        exact y_iret B hR hS hf dX10_step_43
      · refine lv_iload_n B.1.1 B.1.2.1 dX10_step_30 rfl (hl.at 2 rfl) ?_
        refine lv_bipush (v := 7) B.1.1 B.1.2.1 dX10_step_31 (by decide) ?_
        refine y_icmp_ne (tgt := 44) B hf dX10_step_33 (by decide) (fun hf => ?_) (fun hf => ?_)
        · exact w_X10_step_44 B _ _ _ _ _ _ _ k_p0 hf hR hS hl
        · refine lv_iload_n B.1.1 B.1.2.1 dX10_step_36 rfl (hl.at 1 rfl) ?_
          refine lv_iconst (v := -1) B.1.1 B.1.2.1 dX10_step_37 (by decide) ?_
          refine y_icmp_eq (tgt := 44) B hf dX10_step_38 (by decide) (fun hf => ?_) (fun hf => ?_)
          · exact w_X10_step_44 B _ _ _ _ _ _ _ k_p0 hf hR hS hl
          · refine lv_ldc (v := -1000000000) B.1.1 B.1.2.1 B.1.2.2.1 (B.1.2.2.2.1 _ tw_1301) dX10_step_41 ?_
            exact y_iret B hR hS hf dX10_step_43
abbrev xr_X10_does : Room := { frames := 1, cells := 0, slots := 0, locals := 12 }
def f_X10_does (T : xT) (S : xS) (p0 : Nat) (p1 : Int32) : Option (xS) := xgr T S p0 21 20 (fun a1 => xst T S a1 ((S.1 p0 23)) p1 (fun S2 => xpi S2 p0 23 (((S2.1 p0 23) + (1 : Int32))) (fun S3 => some S3)))
set_option maxRecDepth 100000 in
set_option maxHeartbeats 4000000 in
theorem c_X10_does {l : Launch} {z : Nat} {D : va_G} {dA : Nat → ClassId} {T : xT} {S : xS} {p0 : Nat} {p1 : Int32} (k_p0 : xlk T p0 10 = true) {q : xS} (hf : f_X10_does T S p0 p1 = some q) : Met l yX10_does (xws yX10_does cX10_does 2 none) xr_X10_does (xPc z D dA T S [.ref (z + p0), .int p1]) (xQv z D dA T q) 0 0 (xA z) := by
  refine x_met RX10 (by decide) rfl (Nat.le_of_ble_eq_true rfl) ?_
  intro p e s m below meth c ls _ X hr hlk hml _ hR hS hl
  have B : xB p s m _ meth c cX10_does RX10 2 none D dA := ⟨X, hr, hlk, hml⟩
  have hl : xL ls 2 [_, _] := hl
  unfold f_X10_does at hf
  refine lv_aload_n B.1.1 B.1.2.1 dX10_does_0 rfl (hl.at 0 rfl) ?_
  refine y_getR B hR hf k_p0 fl_X10_50 dX10_does_1 (fun a1 k_a1 hf => ?_)
  refine lv_aload_n B.1.1 B.1.2.1 dX10_does_4 rfl (hl.at 0 rfl) ?_
  refine y_getI B hR k_p0 fl_X10_307 dX10_does_5 ?_
  refine lv_iload_n B.1.1 B.1.2.1 dX10_does_8 rfl (hl.at 1 rfl) ?_
  refine y_iast B hR hS hf k_a1 dX10_does_9 (fun S2 H locs hf hR hS => ?_)
  refine lv_aload_n B.1.1 B.1.2.1 dX10_does_10 rfl (hl.at 0 rfl) ?_
  refine lv_dup B.1.1 B.1.2.1 dX10_does_11 rfl ?_
  refine y_getI B hR k_p0 fl_X10_307 dX10_does_12 ?_
  refine lv_iconst (v := 1) B.1.1 B.1.2.1 dX10_does_15 (by decide) ?_
  refine lv_iadd B.1.1 B.1.2.1 dX10_does_16 ?_
  refine y_putI B hR hS hf k_p0 fp_X10_307 dX10_does_17 (fun S3 H locs hf hR hS => ?_)
  exact y_vret B hR hS hf dX10_does_20
abbrev xr_X10_nameHere : Room := { frames := 6, cells := 0, slots := 0, locals := 128 }
def f_X10_nameHere (T : xT) (S : xS) (p0 : Nat) : Option (Int32 × xS) := xc (f_X10_w6 T S ((114 : Int32)) ((101 : Int32)) ((115 : Int32)) ((117 : Int32)) ((108 : Int32)) ((116 : Int32))) (fun r2 S1 => xc (f_X10_isWord T S1 p0 r2) (fun r4 S3 => if r4 = (0 : Int32) then xc (f_X10_w4 T S3 ((99 : Int32)) ((97 : Int32)) ((115 : Int32)) ((104 : Int32))) (fun r6 S5 => xc (f_X10_isWord T S5 p0 r6) (fun r8 S7 => if r8 = (0 : Int32) then xc (f_X10_w4 T S7 ((104 : Int32)) ((101 : Int32)) ((108 : Int32)) ((100 : Int32))) (fun r10 S9 => xc (f_X10_isWord T S9 p0 r10) (fun r12 S11 => if r12 = (0 : Int32) then xc (f_X10_w4 T S11 ((121 : Int32)) ((101 : Int32)) ((97 : Int32)) ((114 : Int32))) (fun r14 S13 => xc (f_X10_isWord T S13 p0 r14) (fun r16 S15 => if r16 = (0 : Int32) then xc (f_X10_w3 T S15 ((110 : Int32)) ((101 : Int32)) ((116 : Int32))) (fun r18 S17 => xc (f_X10_isWord T S17 p0 r18) (fun r20 S19 => if r20 = (0 : Int32) then xc (f_X10_w6 T S19 ((99 : Int32)) ((97 : Int32)) ((112 : Int32)) ((105 : Int32)) ((116 : Int32)) ((97 : Int32))) (fun r22 S21 => xc (f_X10_letter T S21 r22 ((108 : Int32))) (fun r24 S23 => xc (f_X10_isWord T S23 p0 r24) (fun r26 S25 => if r26 = (0 : Int32) then xc (f_X10_w5 T S25 ((115 : Int32)) ((104 : Int32)) ((97 : Int32)) ((114 : Int32)) ((101 : Int32))) (fun r28 S27 => xc (f_X10_isWord T S27 p0 r28) (fun r30 S29 => if r30 = (0 : Int32) then some ((-1 : Int32), S29) else some ((20 : Int32), S29))) else some ((10 : Int32), S25)))) else some ((4 : Int32), S19))) else some ((3 : Int32), S15))) else some ((2 : Int32), S11))) else some ((1 : Int32), S7))) else some ((0 : Int32), S3)))
set_option maxRecDepth 100000 in
set_option maxHeartbeats 4000000 in
theorem c_X10_nameHere {l : Launch} {z : Nat} {D : va_G} {dA : Nat → ClassId} {T : xT} {S : xS} {p0 : Nat} (k_p0 : xlk T p0 10 = true) {q : Int32 × xS} (hf : f_X10_nameHere T S p0 = some q) : Met l yX10_nameHere (xws yX10_nameHere cX10_nameHere 1 (some .int)) xr_X10_nameHere (xPc z D dA T S [.ref (z + p0)]) (xQi z D dA T q) 0 0 (xA z) := by
  refine x_met RX10 (by decide) rfl (Nat.le_of_ble_eq_true rfl) ?_
  intro p e s m below meth c ls _ X hr hlk hml _ hR hS hl
  have B : xB p s m _ meth c cX10_nameHere RX10 1 (some .int) D dA := ⟨X, hr, hlk, hml⟩
  have hl : xL ls 1 [_] := hl
  unfold f_X10_nameHere at hf
  refine lv_aload_n B.1.1 B.1.2.1 dX10_nameHere_0 rfl (hl.at 0 rfl) ?_
  refine lv_bipush (v := 114) B.1.1 B.1.2.1 dX10_nameHere_1 (by decide) ?_
  refine lv_bipush (v := 101) B.1.1 B.1.2.1 dX10_nameHere_3 (by decide) ?_
  refine lv_bipush (v := 115) B.1.1 B.1.2.1 dX10_nameHere_5 (by decide) ?_
  refine lv_bipush (v := 117) B.1.1 B.1.2.1 dX10_nameHere_7 (by decide) ?_
  refine lv_bipush (v := 108) B.1.1 B.1.2.1 dX10_nameHere_9 (by decide) ?_
  refine lv_bipush (v := 116) B.1.1 B.1.2.1 dX10_nameHere_11 (by decide) ?_
  refine y_cl hf (fun q hq => y_runS B.1 B.2.2.2 hl hR hS cm_X10_310 ⟨rfl, rfl, Nat.le_of_ble_eq_true rfl, Nat.le_of_ble_eq_true rfl⟩ (c_X10_w6 hq) rfl rfl (Nat.le_of_ble_eq_true rfl) dX10_nameHere_13 ⟨Nat.le_of_ble_eq_true rfl, Nat.le_of_ble_eq_true rfl⟩) hS (fun r2 S1 H locs hf hR hS => ?_)
  refine y_ci hf (fun q hq => x_runV (ci := 10) (C := RX10) B.1 B.2.2.2 hl hR hS cm_X10_150 ⟨rfl, rfl, Nat.le_of_ble_eq_true rfl, Nat.le_of_ble_eq_true rfl⟩ (by decide) rfl k_p0 (c_X10_isWord k_p0 hq) rfl rfl (Nat.le_of_ble_eq_true rfl) dX10_nameHere_16 ⟨Nat.le_of_ble_eq_true rfl, Nat.le_of_ble_eq_true rfl⟩) hS (fun r4 S3 H locs hf hR hS => ?_)
  refine y_if_eq (tgt := 24) B hf dX10_nameHere_19 (by decide) (fun hf => ?_) (fun hf => ?_)
  · refine lv_aload_n B.1.1 B.1.2.1 dX10_nameHere_24 rfl (hl.at 0 rfl) ?_
    refine lv_bipush (v := 99) B.1.1 B.1.2.1 dX10_nameHere_25 (by decide) ?_
    refine lv_bipush (v := 97) B.1.1 B.1.2.1 dX10_nameHere_27 (by decide) ?_
    refine lv_bipush (v := 115) B.1.1 B.1.2.1 dX10_nameHere_29 (by decide) ?_
    refine lv_bipush (v := 104) B.1.1 B.1.2.1 dX10_nameHere_31 (by decide) ?_
    refine y_cl hf (fun q hq => y_runS B.1 B.2.2.2 hl hR hS cm_X10_114 ⟨rfl, rfl, Nat.le_of_ble_eq_true rfl, Nat.le_of_ble_eq_true rfl⟩ (c_X10_w4 hq) rfl rfl (Nat.le_of_ble_eq_true rfl) dX10_nameHere_33 ⟨Nat.le_of_ble_eq_true rfl, Nat.le_of_ble_eq_true rfl⟩) hS (fun r6 S5 H locs hf hR hS => ?_)
    refine y_ci hf (fun q hq => x_runV (ci := 10) (C := RX10) B.1 B.2.2.2 hl hR hS cm_X10_150 ⟨rfl, rfl, Nat.le_of_ble_eq_true rfl, Nat.le_of_ble_eq_true rfl⟩ (by decide) rfl k_p0 (c_X10_isWord k_p0 hq) rfl rfl (Nat.le_of_ble_eq_true rfl) dX10_nameHere_36 ⟨Nat.le_of_ble_eq_true rfl, Nat.le_of_ble_eq_true rfl⟩) hS (fun r8 S7 H locs hf hR hS => ?_)
    refine y_if_eq (tgt := 44) B hf dX10_nameHere_39 (by decide) (fun hf => ?_) (fun hf => ?_)
    · refine lv_aload_n B.1.1 B.1.2.1 dX10_nameHere_44 rfl (hl.at 0 rfl) ?_
      refine lv_bipush (v := 104) B.1.1 B.1.2.1 dX10_nameHere_45 (by decide) ?_
      refine lv_bipush (v := 101) B.1.1 B.1.2.1 dX10_nameHere_47 (by decide) ?_
      refine lv_bipush (v := 108) B.1.1 B.1.2.1 dX10_nameHere_49 (by decide) ?_
      refine lv_bipush (v := 100) B.1.1 B.1.2.1 dX10_nameHere_51 (by decide) ?_
      refine y_cl hf (fun q hq => y_runS B.1 B.2.2.2 hl hR hS cm_X10_114 ⟨rfl, rfl, Nat.le_of_ble_eq_true rfl, Nat.le_of_ble_eq_true rfl⟩ (c_X10_w4 hq) rfl rfl (Nat.le_of_ble_eq_true rfl) dX10_nameHere_53 ⟨Nat.le_of_ble_eq_true rfl, Nat.le_of_ble_eq_true rfl⟩) hS (fun r10 S9 H locs hf hR hS => ?_)
      refine y_ci hf (fun q hq => x_runV (ci := 10) (C := RX10) B.1 B.2.2.2 hl hR hS cm_X10_150 ⟨rfl, rfl, Nat.le_of_ble_eq_true rfl, Nat.le_of_ble_eq_true rfl⟩ (by decide) rfl k_p0 (c_X10_isWord k_p0 hq) rfl rfl (Nat.le_of_ble_eq_true rfl) dX10_nameHere_56 ⟨Nat.le_of_ble_eq_true rfl, Nat.le_of_ble_eq_true rfl⟩) hS (fun r12 S11 H locs hf hR hS => ?_)
      refine y_if_eq (tgt := 64) B hf dX10_nameHere_59 (by decide) (fun hf => ?_) (fun hf => ?_)
      · refine lv_aload_n B.1.1 B.1.2.1 dX10_nameHere_64 rfl (hl.at 0 rfl) ?_
        refine lv_bipush (v := 121) B.1.1 B.1.2.1 dX10_nameHere_65 (by decide) ?_
        refine lv_bipush (v := 101) B.1.1 B.1.2.1 dX10_nameHere_67 (by decide) ?_
        refine lv_bipush (v := 97) B.1.1 B.1.2.1 dX10_nameHere_69 (by decide) ?_
        refine lv_bipush (v := 114) B.1.1 B.1.2.1 dX10_nameHere_71 (by decide) ?_
        refine y_cl hf (fun q hq => y_runS B.1 B.2.2.2 hl hR hS cm_X10_114 ⟨rfl, rfl, Nat.le_of_ble_eq_true rfl, Nat.le_of_ble_eq_true rfl⟩ (c_X10_w4 hq) rfl rfl (Nat.le_of_ble_eq_true rfl) dX10_nameHere_73 ⟨Nat.le_of_ble_eq_true rfl, Nat.le_of_ble_eq_true rfl⟩) hS (fun r14 S13 H locs hf hR hS => ?_)
        refine y_ci hf (fun q hq => x_runV (ci := 10) (C := RX10) B.1 B.2.2.2 hl hR hS cm_X10_150 ⟨rfl, rfl, Nat.le_of_ble_eq_true rfl, Nat.le_of_ble_eq_true rfl⟩ (by decide) rfl k_p0 (c_X10_isWord k_p0 hq) rfl rfl (Nat.le_of_ble_eq_true rfl) dX10_nameHere_76 ⟨Nat.le_of_ble_eq_true rfl, Nat.le_of_ble_eq_true rfl⟩) hS (fun r16 S15 H locs hf hR hS => ?_)
        refine y_if_eq (tgt := 84) B hf dX10_nameHere_79 (by decide) (fun hf => ?_) (fun hf => ?_)
        · refine lv_aload_n B.1.1 B.1.2.1 dX10_nameHere_84 rfl (hl.at 0 rfl) ?_
          refine lv_bipush (v := 110) B.1.1 B.1.2.1 dX10_nameHere_85 (by decide) ?_
          refine lv_bipush (v := 101) B.1.1 B.1.2.1 dX10_nameHere_87 (by decide) ?_
          refine lv_bipush (v := 116) B.1.1 B.1.2.1 dX10_nameHere_89 (by decide) ?_
          refine y_cl hf (fun q hq => y_runS B.1 B.2.2.2 hl hR hS cm_X10_110 ⟨rfl, rfl, Nat.le_of_ble_eq_true rfl, Nat.le_of_ble_eq_true rfl⟩ (c_X10_w3 hq) rfl rfl (Nat.le_of_ble_eq_true rfl) dX10_nameHere_91 ⟨Nat.le_of_ble_eq_true rfl, Nat.le_of_ble_eq_true rfl⟩) hS (fun r18 S17 H locs hf hR hS => ?_)
          refine y_ci hf (fun q hq => x_runV (ci := 10) (C := RX10) B.1 B.2.2.2 hl hR hS cm_X10_150 ⟨rfl, rfl, Nat.le_of_ble_eq_true rfl, Nat.le_of_ble_eq_true rfl⟩ (by decide) rfl k_p0 (c_X10_isWord k_p0 hq) rfl rfl (Nat.le_of_ble_eq_true rfl) dX10_nameHere_94 ⟨Nat.le_of_ble_eq_true rfl, Nat.le_of_ble_eq_true rfl⟩) hS (fun r20 S19 H locs hf hR hS => ?_)
          refine y_if_eq (tgt := 102) B hf dX10_nameHere_97 (by decide) (fun hf => ?_) (fun hf => ?_)
          · refine lv_aload_n B.1.1 B.1.2.1 dX10_nameHere_102 rfl (hl.at 0 rfl) ?_
            refine lv_bipush (v := 99) B.1.1 B.1.2.1 dX10_nameHere_103 (by decide) ?_
            refine lv_bipush (v := 97) B.1.1 B.1.2.1 dX10_nameHere_105 (by decide) ?_
            refine lv_bipush (v := 112) B.1.1 B.1.2.1 dX10_nameHere_107 (by decide) ?_
            refine lv_bipush (v := 105) B.1.1 B.1.2.1 dX10_nameHere_109 (by decide) ?_
            refine lv_bipush (v := 116) B.1.1 B.1.2.1 dX10_nameHere_111 (by decide) ?_
            refine lv_bipush (v := 97) B.1.1 B.1.2.1 dX10_nameHere_113 (by decide) ?_
            refine y_cl hf (fun q hq => y_runS B.1 B.2.2.2 hl hR hS cm_X10_310 ⟨rfl, rfl, Nat.le_of_ble_eq_true rfl, Nat.le_of_ble_eq_true rfl⟩ (c_X10_w6 hq) rfl rfl (Nat.le_of_ble_eq_true rfl) dX10_nameHere_115 ⟨Nat.le_of_ble_eq_true rfl, Nat.le_of_ble_eq_true rfl⟩) hS (fun r22 S21 H locs hf hR hS => ?_)
            refine lv_bipush (v := 108) B.1.1 B.1.2.1 dX10_nameHere_118 (by decide) ?_
            refine y_cl hf (fun q hq => y_runS B.1 B.2.2.2 hl hR hS cm_X10_106 ⟨rfl, rfl, Nat.le_of_ble_eq_true rfl, Nat.le_of_ble_eq_true rfl⟩ (c_X10_letter hq) rfl rfl (Nat.le_of_ble_eq_true rfl) dX10_nameHere_120 ⟨Nat.le_of_ble_eq_true rfl, Nat.le_of_ble_eq_true rfl⟩) hS (fun r24 S23 H locs hf hR hS => ?_)
            refine y_ci hf (fun q hq => x_runV (ci := 10) (C := RX10) B.1 B.2.2.2 hl hR hS cm_X10_150 ⟨rfl, rfl, Nat.le_of_ble_eq_true rfl, Nat.le_of_ble_eq_true rfl⟩ (by decide) rfl k_p0 (c_X10_isWord k_p0 hq) rfl rfl (Nat.le_of_ble_eq_true rfl) dX10_nameHere_123 ⟨Nat.le_of_ble_eq_true rfl, Nat.le_of_ble_eq_true rfl⟩) hS (fun r26 S25 H locs hf hR hS => ?_)
            refine y_if_eq (tgt := 132) B hf dX10_nameHere_126 (by decide) (fun hf => ?_) (fun hf => ?_)
            · refine lv_aload_n B.1.1 B.1.2.1 dX10_nameHere_132 rfl (hl.at 0 rfl) ?_
              refine lv_bipush (v := 115) B.1.1 B.1.2.1 dX10_nameHere_133 (by decide) ?_
              refine lv_bipush (v := 104) B.1.1 B.1.2.1 dX10_nameHere_135 (by decide) ?_
              refine lv_bipush (v := 97) B.1.1 B.1.2.1 dX10_nameHere_137 (by decide) ?_
              refine lv_bipush (v := 114) B.1.1 B.1.2.1 dX10_nameHere_139 (by decide) ?_
              refine lv_bipush (v := 101) B.1.1 B.1.2.1 dX10_nameHere_141 (by decide) ?_
              refine y_cl hf (fun q hq => y_runS B.1 B.2.2.2 hl hR hS cm_X10_118 ⟨rfl, rfl, Nat.le_of_ble_eq_true rfl, Nat.le_of_ble_eq_true rfl⟩ (c_X10_w5 hq) rfl rfl (Nat.le_of_ble_eq_true rfl) dX10_nameHere_143 ⟨Nat.le_of_ble_eq_true rfl, Nat.le_of_ble_eq_true rfl⟩) hS (fun r28 S27 H locs hf hR hS => ?_)
              refine y_ci hf (fun q hq => x_runV (ci := 10) (C := RX10) B.1 B.2.2.2 hl hR hS cm_X10_150 ⟨rfl, rfl, Nat.le_of_ble_eq_true rfl, Nat.le_of_ble_eq_true rfl⟩ (by decide) rfl k_p0 (c_X10_isWord k_p0 hq) rfl rfl (Nat.le_of_ble_eq_true rfl) dX10_nameHere_146 ⟨Nat.le_of_ble_eq_true rfl, Nat.le_of_ble_eq_true rfl⟩) hS (fun r30 S29 H locs hf hR hS => ?_)
              refine y_if_eq (tgt := 157) B hf dX10_nameHere_149 (by decide) (fun hf => ?_) (fun hf => ?_)
              · refine lv_iconst (v := -1) B.1.1 B.1.2.1 dX10_nameHere_157 (by decide) ?_
                exact y_iret B hR hS hf dX10_nameHere_158
              · refine lv_bipush (v := 20) B.1.1 B.1.2.1 dX10_nameHere_152 (by decide) ?_
                refine lv_goto (tgt := 158) B.1.1 B.1.2.1 dX10_nameHere_154 (by decide) ?_
                exact y_iret B hR hS hf dX10_nameHere_158
            · refine lv_bipush (v := 10) B.1.1 B.1.2.1 dX10_nameHere_129 (by decide) ?_
              exact y_iret B hR hS hf dX10_nameHere_131
          · refine lv_iconst (v := 4) B.1.1 B.1.2.1 dX10_nameHere_100 (by decide) ?_
            exact y_iret B hR hS hf dX10_nameHere_101
        · refine lv_iconst (v := 3) B.1.1 B.1.2.1 dX10_nameHere_82 (by decide) ?_
          exact y_iret B hR hS hf dX10_nameHere_83
      · refine lv_iconst (v := 2) B.1.1 B.1.2.1 dX10_nameHere_62 (by decide) ?_
        exact y_iret B hR hS hf dX10_nameHere_63
    · refine lv_iconst (v := 1) B.1.1 B.1.2.1 dX10_nameHere_42 (by decide) ?_
      exact y_iret B hR hS hf dX10_nameHere_43
  · refine lv_iconst (v := 0) B.1.1 B.1.2.1 dX10_nameHere_22 (by decide) ?_
    exact y_iret B hR hS hf dX10_nameHere_23
abbrev xr_X10_readThing : Room := { frames := 7, cells := 0, slots := 0, locals := 148 }
def f_X10_readThing_27 (T : xT) (S : xS) (p0 : Nat) (p1 : Int32) : Option (Int32 × xS) := if (S.1 p0 24) = (40 : Int32) then xc (f_X10_fails T S p0) (fun r10 S9 => xgd (xnz r10) (some (r10, S9))) else xpi S p0 24 (((S.1 p0 24) + (1 : Int32))) (fun S1 => if p1 = (-1 : Int32) then xcv (f_X10_does T S1 p0 ((S1.1 p0 11))) (fun S7 => xcv (f_X10_nextToken T S7 p0) (fun S8 => some ((1 : Int32), S8))) else xcv (f_X10_nextToken T S1 p0) (fun S2 => if (10 : Int32) ≤ p1 then xc (f_X10_takesPartner T S2 p0) (fun r4 S3 => if r4 = (0 : Int32) then some ((0 : Int32), S3) else xcv (f_X10_does T S3 p0 ((((2000000 : Int32) + p1) + (S3.1 p0 12)))) (fun S5 => some ((1 : Int32), S5))) else xcv (f_X10_does T S2 p0 (((2000000 : Int32) + p1))) (fun S6 => some ((1 : Int32), S6))))
set_option maxRecDepth 100000 in
set_option maxHeartbeats 4000000 in
theorem w_X10_readThing_27 {p : Program} {l : Launch} {e : Env} {s : State} {m : MethodId} {args : Array Value} {below : List Frame} {meth : Method} {c : Code} {z : Nat} {D : va_G} {dA : Nat → ClassId} {T : xT} (B : xB p s m args meth c cX10_readThing RX10 2 (some .boolean) D dA) {q : Int32 × xS} : ∀ (S : xS) (H : Heap) (locs : List Loc) (ls : Array Slot) (p0 : Nat) (p1 : Int32), xlk T p0 10 = true → f_X10_readThing_27 T S p0 p1 = some q → xRel z D dA T S H → va_S (xA z) s.heap H locs → xL ls 2 [some (.ref (z + p0)), some (.int p1)] → xGi p l e xr_X10_readThing s m args below meth c z D dA T q H locs 27 ls [] := by
  intro S H locs ls p0 p1 k_p0 hf hR hS hl
  unfold f_X10_readThing_27 at hf
  refine lv_aload_n B.1.1 B.1.2.1 dX10_readThing_27 rfl (hl.at 0 rfl) ?_
  refine y_getI B hR k_p0 fl_X10_317 dX10_readThing_28 ?_
  refine lv_bipush (v := 40) B.1.1 B.1.2.1 dX10_readThing_31 (by decide) ?_
  refine y_icmp_ne (tgt := 41) B hf dX10_readThing_33 (by decide) (fun hf => ?_) (fun hf => ?_)
  · refine lv_aload_n B.1.1 B.1.2.1 dX10_readThing_41 rfl (hl.at 0 rfl) ?_
    refine lv_dup B.1.1 B.1.2.1 dX10_readThing_42 rfl ?_
    refine y_getI B hR k_p0 fl_X10_317 dX10_readThing_43 ?_
    refine lv_iconst (v := 1) B.1.1 B.1.2.1 dX10_readThing_46 (by decide) ?_
    refine lv_iadd B.1.1 B.1.2.1 dX10_readThing_47 ?_
    refine y_putI B hR hS hf k_p0 fp_X10_317 dX10_readThing_48 (fun S1 H locs hf hR hS => ?_)
    refine lv_iload_n B.1.1 B.1.2.1 dX10_readThing_51 rfl (hl.at 1 rfl) ?_
    refine lv_iconst (v := -1) B.1.1 B.1.2.1 dX10_readThing_52 (by decide) ?_
    refine y_icmp_ne (tgt := 70) B hf dX10_readThing_53 (by decide) (fun hf => ?_) (fun hf => ?_)
    · refine lv_aload_n B.1.1 B.1.2.1 dX10_readThing_70 rfl (hl.at 0 rfl) ?_
      refine y_cv hf (fun q hq => x_runV (ci := 10) (C := RX10) B.1 B.2.2.2 hl hR hS cm_X10_147 ⟨rfl, rfl, Nat.le_of_ble_eq_true rfl, Nat.le_of_ble_eq_true rfl⟩ (by decide) rfl k_p0 (c_X10_nextToken k_p0 hq) rfl rfl (Nat.le_of_ble_eq_true rfl) dX10_readThing_71 ⟨Nat.le_of_ble_eq_true rfl, Nat.le_of_ble_eq_true rfl⟩) hS (fun S2 H locs hf hR hS => ?_)
      refine lv_iload_n B.1.1 B.1.2.1 dX10_readThing_74 rfl (hl.at 1 rfl) ?_
      refine lv_bipush (v := 10) B.1.1 B.1.2.1 dX10_readThing_75 (by decide) ?_
      refine y_icmp_ge (tgt := 91) B hf dX10_readThing_77 (by decide) (fun hf => ?_) (fun hf => ?_)
      · refine lv_aload_n B.1.1 B.1.2.1 dX10_readThing_91 rfl (hl.at 0 rfl) ?_
        refine y_ci hf (fun q hq => x_runV (ci := 10) (C := RX10) B.1 B.2.2.2 hl hR hS cm_X10_324 ⟨rfl, rfl, Nat.le_of_ble_eq_true rfl, Nat.le_of_ble_eq_true rfl⟩ (by decide) rfl k_p0 (c_X10_takesPartner k_p0 hq) rfl rfl (Nat.le_of_ble_eq_true rfl) dX10_readThing_92 ⟨Nat.le_of_ble_eq_true rfl, Nat.le_of_ble_eq_true rfl⟩) hS (fun r4 S3 H locs hf hR hS => ?_)
        refine y_if_ne (tgt := 100) B hf dX10_readThing_95 (by decide) (fun hf => ?_) (fun hf => ?_)
        · refine lv_aload_n B.1.1 B.1.2.1 dX10_readThing_100 rfl (hl.at 0 rfl) ?_
          refine lv_ldcw (v := 2000000) B.1.1 B.1.2.1 B.1.2.2.1 (B.1.2.2.2.1 _ tw_1438) dX10_readThing_101 ?_
          refine lv_iload_n B.1.1 B.1.2.1 dX10_readThing_104 rfl (hl.at 1 rfl) ?_
          refine lv_iadd B.1.1 B.1.2.1 dX10_readThing_105 ?_
          refine lv_aload_n B.1.1 B.1.2.1 dX10_readThing_106 rfl (hl.at 0 rfl) ?_
          refine y_getI B hR k_p0 fl_X10_158 dX10_readThing_107 ?_
          refine lv_iadd B.1.1 B.1.2.1 dX10_readThing_110 ?_
          refine y_cv hf (fun q hq => x_runV (ci := 10) (C := RX10) B.1 B.2.2.2 hl hR hS cm_X10_320 ⟨rfl, rfl, Nat.le_of_ble_eq_true rfl, Nat.le_of_ble_eq_true rfl⟩ (by decide) rfl k_p0 (c_X10_does k_p0 hq) rfl rfl (Nat.le_of_ble_eq_true rfl) dX10_readThing_111 ⟨Nat.le_of_ble_eq_true rfl, Nat.le_of_ble_eq_true rfl⟩) hS (fun S5 H locs hf hR hS => ?_)
          refine lv_iconst (v := 1) B.1.1 B.1.2.1 dX10_readThing_114 (by decide) ?_
          exact y_zretK B hR hS hf rfl dX10_readThing_115
        · refine lv_iconst (v := 0) B.1.1 B.1.2.1 dX10_readThing_98 (by decide) ?_
          exact y_zretK B hR hS hf rfl dX10_readThing_99
      · refine lv_aload_n B.1.1 B.1.2.1 dX10_readThing_80 rfl (hl.at 0 rfl) ?_
        refine lv_ldcw (v := 2000000) B.1.1 B.1.2.1 B.1.2.2.1 (B.1.2.2.2.1 _ tw_1438) dX10_readThing_81 ?_
        refine lv_iload_n B.1.1 B.1.2.1 dX10_readThing_84 rfl (hl.at 1 rfl) ?_
        refine lv_iadd B.1.1 B.1.2.1 dX10_readThing_85 ?_
        refine y_cv hf (fun q hq => x_runV (ci := 10) (C := RX10) B.1 B.2.2.2 hl hR hS cm_X10_320 ⟨rfl, rfl, Nat.le_of_ble_eq_true rfl, Nat.le_of_ble_eq_true rfl⟩ (by decide) rfl k_p0 (c_X10_does k_p0 hq) rfl rfl (Nat.le_of_ble_eq_true rfl) dX10_readThing_86 ⟨Nat.le_of_ble_eq_true rfl, Nat.le_of_ble_eq_true rfl⟩) hS (fun S6 H locs hf hR hS => ?_)
        refine lv_iconst (v := 1) B.1.1 B.1.2.1 dX10_readThing_89 (by decide) ?_
        exact y_zretK B hR hS hf rfl dX10_readThing_90
    · refine lv_aload_n B.1.1 B.1.2.1 dX10_readThing_56 rfl (hl.at 0 rfl) ?_
      refine lv_aload_n B.1.1 B.1.2.1 dX10_readThing_57 rfl (hl.at 0 rfl) ?_
      refine y_getI B hR k_p0 fl_X10_143 dX10_readThing_58 ?_
      refine y_cv hf (fun q hq => x_runV (ci := 10) (C := RX10) B.1 B.2.2.2 hl hR hS cm_X10_320 ⟨rfl, rfl, Nat.le_of_ble_eq_true rfl, Nat.le_of_ble_eq_true rfl⟩ (by decide) rfl k_p0 (c_X10_does k_p0 hq) rfl rfl (Nat.le_of_ble_eq_true rfl) dX10_readThing_61 ⟨Nat.le_of_ble_eq_true rfl, Nat.le_of_ble_eq_true rfl⟩) hS (fun S7 H locs hf hR hS => ?_)
      refine lv_aload_n B.1.1 B.1.2.1 dX10_readThing_64 rfl (hl.at 0 rfl) ?_
      refine y_cv hf (fun q hq => x_runV (ci := 10) (C := RX10) B.1 B.2.2.2 hl hR hS cm_X10_147 ⟨rfl, rfl, Nat.le_of_ble_eq_true rfl, Nat.le_of_ble_eq_true rfl⟩ (by decide) rfl k_p0 (c_X10_nextToken k_p0 hq) rfl rfl (Nat.le_of_ble_eq_true rfl) dX10_readThing_65 ⟨Nat.le_of_ble_eq_true rfl, Nat.le_of_ble_eq_true rfl⟩) hS (fun S8 H locs hf hR hS => ?_)
      refine lv_iconst (v := 1) B.1.1 B.1.2.1 dX10_readThing_68 (by decide) ?_
      exact y_zretK B hR hS hf rfl dX10_readThing_69
  · refine lv_aload_n B.1.1 B.1.2.1 dX10_readThing_36 rfl (hl.at 0 rfl) ?_
    refine y_ci hf (fun q hq => x_runV (ci := 10) (C := RX10) B.1 B.2.2.2 hl hR hS cm_X10_154 ⟨rfl, rfl, Nat.le_of_ble_eq_true rfl, Nat.le_of_ble_eq_true rfl⟩ (by decide) rfl k_p0 (c_X10_fails k_p0 hq) rfl rfl (Nat.le_of_ble_eq_true rfl) dX10_readThing_37 ⟨Nat.le_of_ble_eq_true rfl, Nat.le_of_ble_eq_true rfl⟩) hS (fun r10 S9 H locs hf hR hS => ?_)
    exact y_zret B hR hS hf dX10_readThing_40
def f_X10_readThing (T : xT) (S : xS) (p0 : Nat) : Option (Int32 × xS) := xc (f_X10_nameHere T S p0) (fun r2 S1 => xl r2 (fun v3 => if v3 = (-1 : Int32) then if (S1.1 p0 8) = (2 : Int32) then if (999999 : Int32) < (S1.1 p0 11) then xc (f_X10_fails T S1 p0) (fun r7 S6 => xgd (xnz r7) (some (r7, S6))) else f_X10_readThing_27 T S1 p0 v3 else xc (f_X10_fails T S1 p0) (fun r5 S4 => xgd (xnz r5) (some (r5, S4))) else f_X10_readThing_27 T S1 p0 v3))
set_option maxRecDepth 100000 in
set_option maxHeartbeats 4000000 in
theorem c_X10_readThing {l : Launch} {z : Nat} {D : va_G} {dA : Nat → ClassId} {T : xT} {S : xS} {p0 : Nat} (k_p0 : xlk T p0 10 = true) {q : Int32 × xS} (hf : f_X10_readThing T S p0 = some q) : Met l yX10_readThing (xws yX10_readThing cX10_readThing 2 (some .boolean)) xr_X10_readThing (xPc z D dA T S [.ref (z + p0)]) (xQi z D dA T q) 0 0 (xA z) := by
  refine x_met RX10 (by decide) rfl (Nat.le_of_ble_eq_true rfl) ?_
  intro p e s m below meth c ls _ X hr hlk hml _ hR hS hl
  have B : xB p s m _ meth c cX10_readThing RX10 2 (some .boolean) D dA := ⟨X, hr, hlk, hml⟩
  have hl : xL ls 2 [_, _] := hl
  unfold f_X10_readThing at hf
  refine lv_aload_n B.1.1 B.1.2.1 dX10_readThing_0 rfl (hl.at 0 rfl) ?_
  refine y_ci hf (fun q hq => x_runV (ci := 10) (C := RX10) B.1 B.2.2.2 hl hR hS cm_X10_314 ⟨rfl, rfl, Nat.le_of_ble_eq_true rfl, Nat.le_of_ble_eq_true rfl⟩ (by decide) rfl k_p0 (c_X10_nameHere k_p0 hq) rfl rfl (Nat.le_of_ble_eq_true rfl) dX10_readThing_1 ⟨Nat.le_of_ble_eq_true rfl, Nat.le_of_ble_eq_true rfl⟩) hS (fun r2 S1 H locs hf hR hS => ?_)
  refine y_istore_n B hl hf dX10_readThing_4 rfl (by decide) rfl (fun v3 ls hf hl => ?_)
  have hl : xL ls 2 [_, _] := hl
  refine lv_iload_n B.1.1 B.1.2.1 dX10_readThing_5 rfl (hl.at 1 rfl) ?_
  refine lv_iconst (v := -1) B.1.1 B.1.2.1 dX10_readThing_6 (by decide) ?_
  refine y_icmp_ne (tgt := 27) B hf dX10_readThing_7 (by decide) (fun hf => ?_) (fun hf => ?_)
  · exact w_X10_readThing_27 B _ _ _ _ _ _ k_p0 hf hR hS hl
  · refine lv_aload_n B.1.1 B.1.2.1 dX10_readThing_10 rfl (hl.at 0 rfl) ?_
    refine y_getI B hR k_p0 fl_X10_129 dX10_readThing_11 ?_
    refine lv_iconst (v := 2) B.1.1 B.1.2.1 dX10_readThing_14 (by decide) ?_
    refine y_icmp_ne (tgt := 36) B hf dX10_readThing_15 (by decide) (fun hf => ?_) (fun hf => ?_)
    · refine lv_aload_n B.1.1 B.1.2.1 dX10_readThing_36 rfl (hl.at 0 rfl) ?_
      refine y_ci hf (fun q hq => x_runV (ci := 10) (C := RX10) B.1 B.2.2.2 hl hR hS cm_X10_154 ⟨rfl, rfl, Nat.le_of_ble_eq_true rfl, Nat.le_of_ble_eq_true rfl⟩ (by decide) rfl k_p0 (c_X10_fails k_p0 hq) rfl rfl (Nat.le_of_ble_eq_true rfl) dX10_readThing_37 ⟨Nat.le_of_ble_eq_true rfl, Nat.le_of_ble_eq_true rfl⟩) hS (fun r5 S4 H locs hf hR hS => ?_)
      exact y_zret B hR hS hf dX10_readThing_40
    · refine lv_aload_n B.1.1 B.1.2.1 dX10_readThing_18 rfl (hl.at 0 rfl) ?_
      refine y_getI B hR k_p0 fl_X10_143 dX10_readThing_19 ?_
      refine lv_ldc (v := 999999) B.1.1 B.1.2.1 B.1.2.2.1 (B.1.2.2.2.1 _ tw_1258) dX10_readThing_22 ?_
      refine y_icmp_gt (tgt := 36) B hf dX10_readThing_24 (by decide) (fun hf => ?_) (fun hf => ?_)
      · refine lv_aload_n B.1.1 B.1.2.1 dX10_readThing_36 rfl (hl.at 0 rfl) ?_
        refine y_ci hf (fun q hq => x_runV (ci := 10) (C := RX10) B.1 B.2.2.2 hl hR hS cm_X10_154 ⟨rfl, rfl, Nat.le_of_ble_eq_true rfl, Nat.le_of_ble_eq_true rfl⟩ (by decide) rfl k_p0 (c_X10_fails k_p0 hq) rfl rfl (Nat.le_of_ble_eq_true rfl) dX10_readThing_37 ⟨Nat.le_of_ble_eq_true rfl, Nat.le_of_ble_eq_true rfl⟩) hS (fun r7 S6 H locs hf hR hS => ?_)
        exact y_zret B hR hS hf dX10_readThing_40
      · exact w_X10_readThing_27 B _ _ _ _ _ _ k_p0 hf hR hS hl
abbrev xr_X10_readProduct : Room := { frames := 8, cells := 0, slots := 0, locals := 169 }
def f_X10_readProduct_27 (T : xT) (rec_9 : xS → Nat → Option (Int32 × xS)) (S : xS) (p0 : Nat) : Option (Int32 × xS) := xl ((S.1 p0 8)) (fun v1 => xcv (f_X10_nextToken T S p0) (fun S2 => xc (f_X10_readThing T S2 p0) (fun r4 S3 => if r4 = (0 : Int32) then some ((0 : Int32), S3) else xcv (f_X10_does T S3 p0 (((3000000 : Int32) + v1))) (fun S5 => rec_9 S5 p0))))
set_option maxRecDepth 100000 in
set_option maxHeartbeats 4000000 in
theorem w_X10_readProduct_27 {p : Program} {l : Launch} {e : Env} {s : State} {m : MethodId} {args : Array Value} {below : List Frame} {meth : Method} {c : Code} {z : Nat} {D : va_G} {dA : Nat → ClassId} {T : xT} (B : xB p s m args meth c cX10_readProduct RX10 2 (some .boolean) D dA) {q : Int32 × xS} {rec_9 : xS → Nat → Option (Int32 × xS)} (hrec_9 : ∀ (S : xS) (H : Heap) (locs : List Loc) (ls : Array Slot) (p0 : Nat), xlk T p0 10 = true → rec_9 S p0 = some q → xRel z D dA T S H → va_S (xA z) s.heap H locs → xL ls 2 [some (.ref (z + p0)), none] → xGi p l e xr_X10_readProduct s m args below meth c z D dA T q H locs 9 ls []) : ∀ (S : xS) (H : Heap) (locs : List Loc) (ls : Array Slot) (p0 : Nat), xlk T p0 10 = true → f_X10_readProduct_27 T rec_9 S p0 = some q → xRel z D dA T S H → va_S (xA z) s.heap H locs → xL ls 2 [some (.ref (z + p0)), none] → xGi p l e xr_X10_readProduct s m args below meth c z D dA T q H locs 27 ls [] := by
  intro S H locs ls p0 k_p0 hf hR hS hl
  unfold f_X10_readProduct_27 at hf
  refine lv_aload_n B.1.1 B.1.2.1 dX10_readProduct_27 rfl (hl.at 0 rfl) ?_
  refine y_getI B hR k_p0 fl_X10_129 dX10_readProduct_28 ?_
  refine y_istore_n B hl hf dX10_readProduct_31 rfl (by decide) rfl (fun v1 ls hf hl => ?_)
  have hl : xL ls 2 [_, _] := hl
  refine lv_aload_n B.1.1 B.1.2.1 dX10_readProduct_32 rfl (hl.at 0 rfl) ?_
  refine y_cv hf (fun q hq => x_runV (ci := 10) (C := RX10) B.1 B.2.2.2 hl hR hS cm_X10_147 ⟨rfl, rfl, Nat.le_of_ble_eq_true rfl, Nat.le_of_ble_eq_true rfl⟩ (by decide) rfl k_p0 (c_X10_nextToken k_p0 hq) rfl rfl (Nat.le_of_ble_eq_true rfl) dX10_readProduct_33 ⟨Nat.le_of_ble_eq_true rfl, Nat.le_of_ble_eq_true rfl⟩) hS (fun S2 H locs hf hR hS => ?_)
  refine lv_aload_n B.1.1 B.1.2.1 dX10_readProduct_36 rfl (hl.at 0 rfl) ?_
  refine y_ci hf (fun q hq => x_runV (ci := 10) (C := RX10) B.1 B.2.2.2 hl hR hS cm_X10_327 ⟨rfl, rfl, Nat.le_of_ble_eq_true rfl, Nat.le_of_ble_eq_true rfl⟩ (by decide) rfl k_p0 (c_X10_readThing k_p0 hq) rfl rfl (Nat.le_of_ble_eq_true rfl) dX10_readProduct_37 ⟨Nat.le_of_ble_eq_true rfl, Nat.le_of_ble_eq_true rfl⟩) hS (fun r4 S3 H locs hf hR hS => ?_)
  refine y_if_ne (tgt := 45) B hf dX10_readProduct_40 (by decide) (fun hf => ?_) (fun hf => ?_)
  · refine lv_aload_n B.1.1 B.1.2.1 dX10_readProduct_45 rfl (hl.at 0 rfl) ?_
    refine lv_ldcw (v := 3000000) B.1.1 B.1.2.1 B.1.2.2.1 (B.1.2.2.2.1 _ tw_1437) dX10_readProduct_46 ?_
    refine lv_iload_n B.1.1 B.1.2.1 dX10_readProduct_49 rfl (hl.at 1 rfl) ?_
    refine lv_iadd B.1.1 B.1.2.1 dX10_readProduct_50 ?_
    refine y_cv hf (fun q hq => x_runV (ci := 10) (C := RX10) B.1 B.2.2.2 hl hR hS cm_X10_320 ⟨rfl, rfl, Nat.le_of_ble_eq_true rfl, Nat.le_of_ble_eq_true rfl⟩ (by decide) rfl k_p0 (c_X10_does k_p0 hq) rfl rfl (Nat.le_of_ble_eq_true rfl) dX10_readProduct_51 ⟨Nat.le_of_ble_eq_true rfl, Nat.le_of_ble_eq_true rfl⟩) hS (fun S5 H locs hf hR hS => ?_)
    refine lv_goto (tgt := 9) B.1.1 B.1.2.1 dX10_readProduct_54 (by decide) ?_
    exact hrec_9 _ _ _ _ _ k_p0 hf hR hS (hl.drop [true, false] rfl)
  · refine lv_iconst (v := 0) B.1.1 B.1.2.1 dX10_readProduct_43 (by decide) ?_
    exact y_zretK B hR hS hf rfl dX10_readProduct_44
def f_X10_readProduct_9 (T : xT) : Nat → xS → Nat → Option (Int32 × xS)
  | 0, _, _ => none
  | n + 1, S, p0 => if (S.1 p0 8) = (42 : Int32) then f_X10_readProduct_27 T (f_X10_readProduct_9 T n) S p0 else if (S.1 p0 8) = (47 : Int32) then f_X10_readProduct_27 T (f_X10_readProduct_9 T n) S p0 else some ((1 : Int32), S)
set_option maxRecDepth 100000 in
set_option maxHeartbeats 4000000 in
theorem w_X10_readProduct_9 {p : Program} {l : Launch} {e : Env} {s : State} {m : MethodId} {args : Array Value} {below : List Frame} {meth : Method} {c : Code} {z : Nat} {D : va_G} {dA : Nat → ClassId} {T : xT} (B : xB p s m args meth c cX10_readProduct RX10 2 (some .boolean) D dA) {q : Int32 × xS} : ∀ (n : Nat), ∀ (S : xS) (H : Heap) (locs : List Loc) (ls : Array Slot) (p0 : Nat), xlk T p0 10 = true → f_X10_readProduct_9 T n S p0 = some q → xRel z D dA T S H → va_S (xA z) s.heap H locs → xL ls 2 [some (.ref (z + p0)), none] → xGi p l e xr_X10_readProduct s m args below meth c z D dA T q H locs 9 ls [] := by
  intro n
  induction n with
  | zero =>
    intro S H locs ls p0 k_p0 hf hR hS hl
    exact absurd hf (by simp [f_X10_readProduct_9])
  | succ n ih =>
    intro S H locs ls p0 k_p0 hf hR hS hl
    unfold f_X10_readProduct_9 at hf
    refine lv_aload_n B.1.1 B.1.2.1 dX10_readProduct_9 rfl (hl.at 0 rfl) ?_
    refine y_getI B hR k_p0 fl_X10_129 dX10_readProduct_10 ?_
    refine lv_bipush (v := 42) B.1.1 B.1.2.1 dX10_readProduct_13 (by decide) ?_
    refine y_icmp_eq (tgt := 27) B hf dX10_readProduct_15 (by decide) (fun hf => ?_) (fun hf => ?_)
    · exact w_X10_readProduct_27 B ih _ _ _ _ _ k_p0 hf hR hS hl
    · refine lv_aload_n B.1.1 B.1.2.1 dX10_readProduct_18 rfl (hl.at 0 rfl) ?_
      refine y_getI B hR k_p0 fl_X10_129 dX10_readProduct_19 ?_
      refine lv_bipush (v := 47) B.1.1 B.1.2.1 dX10_readProduct_22 (by decide) ?_
      refine y_icmp_ne (tgt := 57) B hf dX10_readProduct_24 (by decide) (fun hf => ?_) (fun hf => ?_)
      · refine lv_iconst (v := 1) B.1.1 B.1.2.1 dX10_readProduct_57 (by decide) ?_
        exact y_zretK B hR hS hf rfl dX10_readProduct_58
      · exact w_X10_readProduct_27 B ih _ _ _ _ _ k_p0 hf hR hS hl
def f_X10_readProduct (T : xT) (S : xS) (p0 : Nat) : Option (Int32 × xS) := xc (f_X10_readThing T S p0) (fun r2 S1 => if r2 = (0 : Int32) then some ((0 : Int32), S1) else f_X10_readProduct_9 T xfu S1 p0)
set_option maxRecDepth 100000 in
set_option maxHeartbeats 4000000 in
theorem c_X10_readProduct {l : Launch} {z : Nat} {D : va_G} {dA : Nat → ClassId} {T : xT} {S : xS} {p0 : Nat} (k_p0 : xlk T p0 10 = true) {q : Int32 × xS} (hf : f_X10_readProduct T S p0 = some q) : Met l yX10_readProduct (xws yX10_readProduct cX10_readProduct 2 (some .boolean)) xr_X10_readProduct (xPc z D dA T S [.ref (z + p0)]) (xQi z D dA T q) 0 0 (xA z) := by
  refine x_met RX10 (by decide) rfl (Nat.le_of_ble_eq_true rfl) ?_
  intro p e s m below meth c ls _ X hr hlk hml _ hR hS hl
  have B : xB p s m _ meth c cX10_readProduct RX10 2 (some .boolean) D dA := ⟨X, hr, hlk, hml⟩
  have hl : xL ls 2 [_, _] := hl
  unfold f_X10_readProduct at hf
  refine lv_aload_n B.1.1 B.1.2.1 dX10_readProduct_0 rfl (hl.at 0 rfl) ?_
  refine y_ci hf (fun q hq => x_runV (ci := 10) (C := RX10) B.1 B.2.2.2 hl hR hS cm_X10_327 ⟨rfl, rfl, Nat.le_of_ble_eq_true rfl, Nat.le_of_ble_eq_true rfl⟩ (by decide) rfl k_p0 (c_X10_readThing k_p0 hq) rfl rfl (Nat.le_of_ble_eq_true rfl) dX10_readProduct_1 ⟨Nat.le_of_ble_eq_true rfl, Nat.le_of_ble_eq_true rfl⟩) hS (fun r2 S1 H locs hf hR hS => ?_)
  refine y_if_ne (tgt := 9) B hf dX10_readProduct_4 (by decide) (fun hf => ?_) (fun hf => ?_)
  · exact w_X10_readProduct_9 B xfu _ _ _ _ _ k_p0 hf hR hS hl
  · refine lv_iconst (v := 0) B.1.1 B.1.2.1 dX10_readProduct_7 (by decide) ?_
    exact y_zretK B hR hS hf rfl dX10_readProduct_8
