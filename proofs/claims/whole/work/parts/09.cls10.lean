abbrev xr_X9_remember : Room := { frames := 4, cells := 0, slots := 0, locals := 100 }
def f_X9_remember (T : xT) (S : xS) (p0 : Nat) : Option (xS) := xgr T S p0 5 25 (fun a1 => xar T S a1 ((S.1 p0 7)) 5 (fun a2 => xgr T S p0 4 5 (fun a3 => xcv (f_X5_copyState T S a2 a3) (fun S4 => xgd (xn0 (12 : Int32)) (xpi S4 p0 7 ((((S4.1 p0 7) + (1 : Int32)) - ((S4.1 p0 7) + (1 : Int32)) / (12 : Int32) * (12 : Int32))) (fun S5 => xpi S5 p0 6 ((xmin (((S5.1 p0 6) + (1 : Int32))) ((12 : Int32)))) (fun S6 => some S6)))))))
set_option maxRecDepth 100000 in
set_option maxHeartbeats 4000000 in
theorem c_X9_remember {l : Launch} {z : Nat} {D : va_G} {dA : Nat → ClassId} {T : xT} {S : xS} {p0 : Nat} (k_p0 : xlk T p0 9 = true) {q : xS} (hf : f_X9_remember T S p0 = some q) : Met l yX9_remember (xws yX9_remember cX9_remember 1 none) xr_X9_remember (xPc z D dA T S [.ref (z + p0)]) (xQv z D dA T q) 0 0 (xA z) := by
  refine x_met RX9 (by decide) rfl (Nat.le_of_ble_eq_true rfl) ?_
  intro p e s m below meth c ls _ X hr hlk hml _ hR hS hl
  have B : xB p s m _ meth c cX9_remember RX9 1 none D dA := ⟨X, hr, hlk, hml⟩
  have hl : xL ls 1 [_] := hl
  unfold f_X9_remember at hf
  refine lv_aload_n B.1.1 B.1.2.1 dX9_remember_0 rfl (hl.at 0 rfl) ?_
  refine y_getR B hR hf k_p0 fl_X9_52 dX9_remember_1 (fun a1 k_a1 hf => ?_)
  refine lv_aload_n B.1.1 B.1.2.1 dX9_remember_4 rfl (hl.at 0 rfl) ?_
  refine y_getI B hR k_p0 fl_X9_291 dX9_remember_5 ?_
  refine y_aald B hR hf k_a1 dX9_remember_8 (fun a2 k_a2 hf => ?_)
  refine lv_aload_n B.1.1 B.1.2.1 dX9_remember_9 rfl (hl.at 0 rfl) ?_
  refine y_getR B hR hf k_p0 fl_X9_48 dX9_remember_10 (fun a3 k_a3 hf => ?_)
  refine y_cv hf (fun q hq => x_runV (ci := 5) (C := RX5) B.1 B.2.2.2 hl hR hS cm_X9_294 ⟨rfl, rfl, Nat.le_of_ble_eq_true rfl, Nat.le_of_ble_eq_true rfl⟩ (by decide) rfl k_a2 (c_X5_copyState k_a2 k_a3 hq) rfl rfl (Nat.le_of_ble_eq_true rfl) dX9_remember_13 ⟨Nat.le_of_ble_eq_true rfl, Nat.le_of_ble_eq_true rfl⟩) hS (fun S4 H locs hf hR hS => ?_)
  refine lv_aload_n B.1.1 B.1.2.1 dX9_remember_16 rfl (hl.at 0 rfl) ?_
  refine lv_aload_n B.1.1 B.1.2.1 dX9_remember_17 rfl (hl.at 0 rfl) ?_
  refine y_getI B hR k_p0 fl_X9_291 dX9_remember_18 ?_
  refine lv_iconst (v := 1) B.1.1 B.1.2.1 dX9_remember_21 (by decide) ?_
  refine lv_iadd B.1.1 B.1.2.1 dX9_remember_22 ?_
  refine lv_bipush (v := 12) B.1.1 B.1.2.1 dX9_remember_23 (by decide) ?_
  refine y_irem B hf dX9_remember_25 (fun hf => ?_)
  refine y_putI B hR hS hf k_p0 fp_X9_291 dX9_remember_26 (fun S5 H locs hf hR hS => ?_)
  refine lv_aload_n B.1.1 B.1.2.1 dX9_remember_29 rfl (hl.at 0 rfl) ?_
  refine lv_aload_n B.1.1 B.1.2.1 dX9_remember_30 rfl (hl.at 0 rfl) ?_
  refine y_getI B hR k_p0 fl_X9_167 dX9_remember_31 ?_
  refine lv_iconst (v := 1) B.1.1 B.1.2.1 dX9_remember_34 (by decide) ?_
  refine lv_iadd B.1.1 B.1.2.1 dX9_remember_35 ?_
  refine lv_bipush (v := 12) B.1.1 B.1.2.1 dX9_remember_36 (by decide) ?_
  refine y_mmin B hl ma_X9_358 ⟨Nat.le_of_ble_eq_true rfl, Nat.le_of_ble_eq_true rfl⟩ ⟨Nat.le_of_ble_eq_true rfl, Nat.le_of_ble_eq_true rfl⟩ dX9_remember_38 ?_
  refine y_putI B hR hS hf k_p0 fp_X9_167 dX9_remember_41 (fun S6 H locs hf hR hS => ?_)
  exact y_vret B hR hS hf dX9_remember_44
abbrev xr_X9_begins : Room := { frames := 5, cells := 0, slots := 0, locals := 120 }
def f_X9_begins (T : xT) (S : xS) (p0 : Nat) (p1 : Int32) (p2 : Int32) (p3 : Int32) : Option (Int32 × xS) := xc (f_X9_isAllowed T S p0 p1 p2 p3) (fun r2 S1 => if r2 = (0 : Int32) then some ((0 : Int32), S1) else xcv (f_X9_remember T S1 p0) (fun S3 => some ((1 : Int32), S3)))
set_option maxRecDepth 100000 in
set_option maxHeartbeats 4000000 in
theorem c_X9_begins {l : Launch} {z : Nat} {D : va_G} {dA : Nat → ClassId} {T : xT} {S : xS} {p0 : Nat} {p1 : Int32} {p2 : Int32} {p3 : Int32} (k_p0 : xlk T p0 9 = true) {q : Int32 × xS} (hf : f_X9_begins T S p0 p1 p2 p3 = some q) : Met l yX9_begins (xws yX9_begins cX9_begins 4 (some .boolean)) xr_X9_begins (xPc z D dA T S [.ref (z + p0), .int p1, .int p2, .int p3]) (xQi z D dA T q) 0 0 (xA z) := by
  refine x_met RX9 (by decide) rfl (Nat.le_of_ble_eq_true rfl) ?_
  intro p e s m below meth c ls _ X hr hlk hml _ hR hS hl
  have B : xB p s m _ meth c cX9_begins RX9 4 (some .boolean) D dA := ⟨X, hr, hlk, hml⟩
  have hl : xL ls 4 [_, _, _, _] := hl
  unfold f_X9_begins at hf
  refine lv_aload_n B.1.1 B.1.2.1 dX9_begins_0 rfl (hl.at 0 rfl) ?_
  refine lv_iload_n B.1.1 B.1.2.1 dX9_begins_1 rfl (hl.at 1 rfl) ?_
  refine lv_iload_n B.1.1 B.1.2.1 dX9_begins_2 rfl (hl.at 2 rfl) ?_
  refine lv_iload_n B.1.1 B.1.2.1 dX9_begins_3 rfl (hl.at 3 rfl) ?_
  refine y_ci hf (fun q hq => x_runV (ci := 9) (C := RX9) B.1 B.2.2.2 hl hR hS cm_X9_325 ⟨rfl, rfl, Nat.le_of_ble_eq_true rfl, Nat.le_of_ble_eq_true rfl⟩ (by decide) rfl k_p0 (c_X9_isAllowed k_p0 hq) rfl rfl (Nat.le_of_ble_eq_true rfl) dX9_begins_4 ⟨Nat.le_of_ble_eq_true rfl, Nat.le_of_ble_eq_true rfl⟩) hS (fun r2 S1 H locs hf hR hS => ?_)
  refine y_if_ne (tgt := 12) B hf dX9_begins_7 (by decide) (fun hf => ?_) (fun hf => ?_)
  · refine lv_aload_n B.1.1 B.1.2.1 dX9_begins_12 rfl (hl.at 0 rfl) ?_
    refine y_cv hf (fun q hq => x_runV (ci := 9) (C := RX9) B.1 B.2.2.2 hl hR hS cm_X9_99 ⟨rfl, rfl, Nat.le_of_ble_eq_true rfl, Nat.le_of_ble_eq_true rfl⟩ (by decide) rfl k_p0 (c_X9_remember k_p0 hq) rfl rfl (Nat.le_of_ble_eq_true rfl) dX9_begins_13 ⟨Nat.le_of_ble_eq_true rfl, Nat.le_of_ble_eq_true rfl⟩) hS (fun S3 H locs hf hR hS => ?_)
    refine lv_iconst (v := 1) B.1.1 B.1.2.1 dX9_begins_16 (by decide) ?_
    exact y_zretK B hR hS hf rfl dX9_begins_17
  · refine lv_iconst (v := 0) B.1.1 B.1.2.1 dX9_begins_10 (by decide) ?_
    exact y_zretK B hR hS hf rfl dX9_begins_11
abbrev xr_X9_replace : Room := { frames := 1, cells := 0, slots := 0, locals := 12 }
def f_X9_replace (T : xT) (S : xS) (p0 : Nat) (p1 : Int32) (p2 : Int32) : Option (Int32 × xS) := xai T S p0 p1 (fun v1 => xl v1 (fun v2 => xst T S p0 p1 p2 (fun S3 => some (v2, S3))))
set_option maxRecDepth 100000 in
set_option maxHeartbeats 4000000 in
theorem c_X9_replace {l : Launch} {z : Nat} {D : va_G} {dA : Nat → ClassId} {T : xT} {S : xS} {p0 : Nat} {p1 : Int32} {p2 : Int32} (k_p0 : xlk T p0 20 = true) {q : Int32 × xS} (hf : f_X9_replace T S p0 p1 p2 = some q) : Met l yX9_replace (xws yX9_replace cX9_replace 4 (some .int)) xr_X9_replace (xPc z D dA T S [.ref (z + p0), .int p1, .int p2]) (xQi z D dA T q) 0 0 (xA z) := by
  refine x_met RX9 (by decide) rfl (Nat.le_of_ble_eq_true rfl) ?_
  intro p e s m below meth c ls _ X hr hlk hml _ hR hS hl
  have B : xB p s m _ meth c cX9_replace RX9 4 (some .int) D dA := ⟨X, hr, hlk, hml⟩
  have hl : xL ls 4 [_, _, _, _] := hl
  unfold f_X9_replace at hf
  refine lv_aload_n B.1.1 B.1.2.1 dX9_replace_0 rfl (hl.at 0 rfl) ?_
  refine lv_iload_n B.1.1 B.1.2.1 dX9_replace_1 rfl (hl.at 1 rfl) ?_
  refine y_iald B hR hf k_p0 dX9_replace_2 (fun v1 hf => ?_)
  refine y_istore_n B hl hf dX9_replace_3 rfl (by decide) rfl (fun v2 ls hf hl => ?_)
  have hl : xL ls 4 [_, _, _, _] := hl
  refine lv_aload_n B.1.1 B.1.2.1 dX9_replace_4 rfl (hl.at 0 rfl) ?_
  refine lv_iload_n B.1.1 B.1.2.1 dX9_replace_5 rfl (hl.at 1 rfl) ?_
  refine lv_iload_n B.1.1 B.1.2.1 dX9_replace_6 rfl (hl.at 2 rfl) ?_
  refine y_iast B hR hS hf k_p0 dX9_replace_7 (fun S3 H locs hf hR hS => ?_)
  refine lv_iload_n B.1.1 B.1.2.1 dX9_replace_8 rfl (hl.at 3 rfl) ?_
  exact y_iret B hR hS hf dX9_replace_9
abbrev xr_X9_perform : Room := { frames := 7, cells := 0, slots := 0, locals := 164 }
def f_X9_perform (T : xT) (S : xS) (p0 : Nat) (p1 : Int32) (p2 : Int32) (p3 : Int32) : Option (Int32 × xS) := xgr T S p0 4 5 (fun a1 => xgr T S a1 0 1 (fun a2 => if p1 = (0 : Int32) then xgr T S p0 1 2 (fun a4 => xgr T S p0 4 5 (fun a5 => xgr T S a5 2 8 (fun a6 => xgr T S p0 4 5 (fun a7 => xgr T S a7 3 4 (fun a8 => xgr T S p0 4 5 (fun a9 => xgr T S a9 1 7 (fun a10 => xc (f_X2_closeYear T S a4 a2 a6 a8 a10) (fun r12 S11 => some (r12, S11))))))))) else if p1 = (1 : Int32) then xc (f_X1_earnMore T S a2 p3) (fun r15 S14 => some (r15, S14)) else if p1 = (2 : Int32) then xc (f_X1_writeOff T S a2 p2 p3) (fun r18 S17 => some (r18, S17)) else if p1 = (3 : Int32) then xc (f_X1_changeDebt T S a2 p2 p3) (fun r21 S20 => some (r21, S20)) else if p1 = (4 : Int32) then xc (f_X1_changeDebt T S a2 p2 ((-p3))) (fun r24 S23 => some (r24, S23)) else if p1 = (5 : Int32) then xgr T S a2 12 20 (fun a26 => xc (f_X9_replace T S a26 p2 p3) (fun r28 S27 => some (r28, S27))) else if p1 = (6 : Int32) then xc (f_X1_payIn T S a2 p2 p3) (fun r31 S30 => some (r31, S30)) else if p1 = (7 : Int32) then xc (f_X1_payIn T S a2 p2 ((-p3))) (fun r34 S33 => some (r34, S33)) else if p1 = (8 : Int32) then xgr T S p0 1 2 (fun a36 => xgr T S p0 4 5 (fun a37 => xgr T S a37 2 8 (fun a38 => xgr T S p0 4 5 (fun a39 => xgr T S a39 1 7 (fun a40 => xc (f_X2_valueAnew T S a36 a2 a38 a40) (fun r42 S41 => xc (f_X1_letIn T S41 a2 p2 p3 r42) (fun r44 S43 => some (r44, S43)))))))) else if p1 = (9 : Int32) then xgr T S p0 1 2 (fun a46 => xgr T S p0 4 5 (fun a47 => xgr T S a47 2 8 (fun a48 => xgr T S p0 4 5 (fun a49 => xgr T S a49 1 7 (fun a50 => xc (f_X2_valueAnew T S a46 a2 a48 a50) (fun r52 S51 => xgr T S51 p0 1 2 (fun a53 => xc (f_X2_letOut T S51 a53 p2 a2) (fun r55 S54 => some (r55, S54))))))))) else if p1 = (10 : Int32) then xgr T S a2 7 20 (fun a57 => xc (f_X9_replace T S a57 p2 p3) (fun r59 S58 => some (r59, S58))) else if p1 = (11 : Int32) then xgr T S a2 8 20 (fun a61 => xc (f_X9_replace T S a61 p2 p3) (fun r63 S62 => some (r63, S62))) else if p1 = (12 : Int32) then xc (f_X1_sellAsset T S a2 p2) (fun r66 S65 => some (r66, S65)) else some ((-1000000000 : Int32), S)))
set_option maxRecDepth 100000 in
set_option maxHeartbeats 4000000 in
theorem c_X9_perform {l : Launch} {z : Nat} {D : va_G} {dA : Nat → ClassId} {T : xT} {S : xS} {p0 : Nat} {p1 : Int32} {p2 : Int32} {p3 : Int32} (k_p0 : xlk T p0 9 = true) {q : Int32 × xS} (hf : f_X9_perform T S p0 p1 p2 p3 = some q) : Met l yX9_perform (xws yX9_perform cX9_perform 5 (some .int)) xr_X9_perform (xPc z D dA T S [.ref (z + p0), .int p1, .int p2, .int p3]) (xQi z D dA T q) 0 0 (xA z) := by
  refine x_met RX9 (by decide) rfl (Nat.le_of_ble_eq_true rfl) ?_
  intro p e s m below meth c ls _ X hr hlk hml _ hR hS hl
  have B : xB p s m _ meth c cX9_perform RX9 5 (some .int) D dA := ⟨X, hr, hlk, hml⟩
  have hl : xL ls 5 [_, _, _, _, _] := hl
  unfold f_X9_perform at hf
  refine lv_aload_n B.1.1 B.1.2.1 dX9_perform_0 rfl (hl.at 0 rfl) ?_
  refine y_getR B hR hf k_p0 fl_X9_48 dX9_perform_1 (fun a1 k_a1 hf => ?_)
  refine y_getR B hR hf k_a1 fl_X9_114 dX9_perform_4 (fun a2 k_a2 hf => ?_)
  refine y_astore B hl dX9_perform_7 (by decide) rfl (fun ls hl => ?_)
  have hl : xL ls 5 [_, _, _, _, _] := hl
  refine lv_iload_n B.1.1 B.1.2.1 dX9_perform_9 rfl (hl.at 1 rfl) ?_
  refine x_if hf (fun c3 hf => ?_) (fun c3 hf => ?_)
  · refine y_tcase (k := 0) (off := 66) (tgt := 76) B c3 dX9_perform_10 (by decide) (by decide) (by decide) (by decide) ?_
    refine lv_aload_n B.1.1 B.1.2.1 dX9_perform_76 rfl (hl.at 0 rfl) ?_
    refine y_getR B hR hf k_p0 fl_X9_19 dX9_perform_77 (fun a4 k_a4 hf => ?_)
    refine lv_aload B.1.1 B.1.2.1 dX9_perform_80 (hl.at 4 rfl) ?_
    refine lv_aload_n B.1.1 B.1.2.1 dX9_perform_82 rfl (hl.at 0 rfl) ?_
    refine y_getR B hR hf k_p0 fl_X9_48 dX9_perform_83 (fun a5 k_a5 hf => ?_)
    refine y_getR B hR hf k_a5 fl_X9_56 dX9_perform_86 (fun a6 k_a6 hf => ?_)
    refine lv_aload_n B.1.1 B.1.2.1 dX9_perform_89 rfl (hl.at 0 rfl) ?_
    refine y_getR B hR hf k_p0 fl_X9_48 dX9_perform_90 (fun a7 k_a7 hf => ?_)
    refine y_getR B hR hf k_a7 fl_X9_60 dX9_perform_93 (fun a8 k_a8 hf => ?_)
    refine lv_aload_n B.1.1 B.1.2.1 dX9_perform_96 rfl (hl.at 0 rfl) ?_
    refine y_getR B hR hf k_p0 fl_X9_48 dX9_perform_97 (fun a9 k_a9 hf => ?_)
    refine y_getR B hR hf k_a9 fl_X9_217 dX9_perform_100 (fun a10 k_a10 hf => ?_)
    refine y_ci hf (fun q hq => x_runV (ci := 2) (C := RX2) B.1 B.2.2.2 hl hR hS cm_X9_329 ⟨rfl, rfl, Nat.le_of_ble_eq_true rfl, Nat.le_of_ble_eq_true rfl⟩ (by decide) rfl k_a4 (c_X2_closeYear k_a4 k_a2 k_a6 k_a8 k_a10 hq) rfl rfl (Nat.le_of_ble_eq_true rfl) dX9_perform_103 ⟨Nat.le_of_ble_eq_true rfl, Nat.le_of_ble_eq_true rfl⟩) hS (fun r12 S11 H locs hf hR hS => ?_)
    exact y_iret B hR hS hf dX9_perform_106
  refine x_if hf (fun c13 hf => ?_) (fun c13 hf => ?_)
  · refine y_tcase (k := 1) (off := 97) (tgt := 107) B c13 dX9_perform_10 (by decide) (by decide) (by decide) (by decide) ?_
    refine lv_aload B.1.1 B.1.2.1 dX9_perform_107 (hl.at 4 rfl) ?_
    refine lv_iload_n B.1.1 B.1.2.1 dX9_perform_109 rfl (hl.at 3 rfl) ?_
    refine y_ci hf (fun q hq => x_runV (ci := 1) (C := RX1) B.1 B.2.2.2 hl hR hS cm_X9_333 ⟨rfl, rfl, Nat.le_of_ble_eq_true rfl, Nat.le_of_ble_eq_true rfl⟩ (by decide) rfl k_a2 (c_X1_earnMore k_a2 hq) rfl rfl (Nat.le_of_ble_eq_true rfl) dX9_perform_110 ⟨Nat.le_of_ble_eq_true rfl, Nat.le_of_ble_eq_true rfl⟩) hS (fun r15 S14 H locs hf hR hS => ?_)
    exact y_iret B hR hS hf dX9_perform_113
  refine x_if hf (fun c16 hf => ?_) (fun c16 hf => ?_)
  · refine y_tcase (k := 2) (off := 104) (tgt := 114) B c16 dX9_perform_10 (by decide) (by decide) (by decide) (by decide) ?_
    refine lv_aload B.1.1 B.1.2.1 dX9_perform_114 (hl.at 4 rfl) ?_
    refine lv_iload_n B.1.1 B.1.2.1 dX9_perform_116 rfl (hl.at 2 rfl) ?_
    refine lv_iload_n B.1.1 B.1.2.1 dX9_perform_117 rfl (hl.at 3 rfl) ?_
    refine y_ci hf (fun q hq => x_runV (ci := 1) (C := RX1) B.1 B.2.2.2 hl hR hS cm_X9_336 ⟨rfl, rfl, Nat.le_of_ble_eq_true rfl, Nat.le_of_ble_eq_true rfl⟩ (by decide) rfl k_a2 (c_X1_writeOff k_a2 hq) rfl rfl (Nat.le_of_ble_eq_true rfl) dX9_perform_118 ⟨Nat.le_of_ble_eq_true rfl, Nat.le_of_ble_eq_true rfl⟩) hS (fun r18 S17 H locs hf hR hS => ?_)
    exact y_iret B hR hS hf dX9_perform_121
  refine x_if hf (fun c19 hf => ?_) (fun c19 hf => ?_)
  · refine y_tcase (k := 3) (off := 112) (tgt := 122) B c19 dX9_perform_10 (by decide) (by decide) (by decide) (by decide) ?_
    refine lv_aload B.1.1 B.1.2.1 dX9_perform_122 (hl.at 4 rfl) ?_
    refine lv_iload_n B.1.1 B.1.2.1 dX9_perform_124 rfl (hl.at 2 rfl) ?_
    refine lv_iload_n B.1.1 B.1.2.1 dX9_perform_125 rfl (hl.at 3 rfl) ?_
    refine y_ci hf (fun q hq => x_runV (ci := 1) (C := RX1) B.1 B.2.2.2 hl hR hS cm_X9_339 ⟨rfl, rfl, Nat.le_of_ble_eq_true rfl, Nat.le_of_ble_eq_true rfl⟩ (by decide) rfl k_a2 (c_X1_changeDebt k_a2 hq) rfl rfl (Nat.le_of_ble_eq_true rfl) dX9_perform_126 ⟨Nat.le_of_ble_eq_true rfl, Nat.le_of_ble_eq_true rfl⟩) hS (fun r21 S20 H locs hf hR hS => ?_)
    exact y_iret B hR hS hf dX9_perform_129
  refine x_if hf (fun c22 hf => ?_) (fun c22 hf => ?_)
  · refine y_tcase (k := 4) (off := 120) (tgt := 130) B c22 dX9_perform_10 (by decide) (by decide) (by decide) (by decide) ?_
    refine lv_aload B.1.1 B.1.2.1 dX9_perform_130 (hl.at 4 rfl) ?_
    refine lv_iload_n B.1.1 B.1.2.1 dX9_perform_132 rfl (hl.at 2 rfl) ?_
    refine lv_iload_n B.1.1 B.1.2.1 dX9_perform_133 rfl (hl.at 3 rfl) ?_
    refine lv_ineg B.1.1 B.1.2.1 dX9_perform_134 ?_
    refine y_ci hf (fun q hq => x_runV (ci := 1) (C := RX1) B.1 B.2.2.2 hl hR hS cm_X9_339 ⟨rfl, rfl, Nat.le_of_ble_eq_true rfl, Nat.le_of_ble_eq_true rfl⟩ (by decide) rfl k_a2 (c_X1_changeDebt k_a2 hq) rfl rfl (Nat.le_of_ble_eq_true rfl) dX9_perform_135 ⟨Nat.le_of_ble_eq_true rfl, Nat.le_of_ble_eq_true rfl⟩) hS (fun r24 S23 H locs hf hR hS => ?_)
    exact y_iret B hR hS hf dX9_perform_138
  refine x_if hf (fun c25 hf => ?_) (fun c25 hf => ?_)
  · refine y_tcase (k := 5) (off := 129) (tgt := 139) B c25 dX9_perform_10 (by decide) (by decide) (by decide) (by decide) ?_
    refine lv_aload B.1.1 B.1.2.1 dX9_perform_139 (hl.at 4 rfl) ?_
    refine y_getR B hR hf k_a2 fl_X9_193 dX9_perform_141 (fun a26 k_a26 hf => ?_)
    refine lv_iload_n B.1.1 B.1.2.1 dX9_perform_144 rfl (hl.at 2 rfl) ?_
    refine lv_iload_n B.1.1 B.1.2.1 dX9_perform_145 rfl (hl.at 3 rfl) ?_
    refine y_ci hf (fun q hq => y_runS B.1 B.2.2.2 hl hR hS cm_X9_342 ⟨rfl, rfl, Nat.le_of_ble_eq_true rfl, Nat.le_of_ble_eq_true rfl⟩ (c_X9_replace k_a26 hq) rfl rfl (Nat.le_of_ble_eq_true rfl) dX9_perform_146 ⟨Nat.le_of_ble_eq_true rfl, Nat.le_of_ble_eq_true rfl⟩) hS (fun r28 S27 H locs hf hR hS => ?_)
    exact y_iret B hR hS hf dX9_perform_149
  refine x_if hf (fun c29 hf => ?_) (fun c29 hf => ?_)
  · refine y_tcase (k := 6) (off := 140) (tgt := 150) B c29 dX9_perform_10 (by decide) (by decide) (by decide) (by decide) ?_
    refine lv_aload B.1.1 B.1.2.1 dX9_perform_150 (hl.at 4 rfl) ?_
    refine lv_iload_n B.1.1 B.1.2.1 dX9_perform_152 rfl (hl.at 2 rfl) ?_
    refine lv_iload_n B.1.1 B.1.2.1 dX9_perform_153 rfl (hl.at 3 rfl) ?_
    refine y_ci hf (fun q hq => x_runV (ci := 1) (C := RX1) B.1 B.2.2.2 hl hR hS cm_X9_346 ⟨rfl, rfl, Nat.le_of_ble_eq_true rfl, Nat.le_of_ble_eq_true rfl⟩ (by decide) rfl k_a2 (c_X1_payIn k_a2 hq) rfl rfl (Nat.le_of_ble_eq_true rfl) dX9_perform_154 ⟨Nat.le_of_ble_eq_true rfl, Nat.le_of_ble_eq_true rfl⟩) hS (fun r31 S30 H locs hf hR hS => ?_)
    exact y_iret B hR hS hf dX9_perform_157
  refine x_if hf (fun c32 hf => ?_) (fun c32 hf => ?_)
  · refine y_tcase (k := 7) (off := 148) (tgt := 158) B c32 dX9_perform_10 (by decide) (by decide) (by decide) (by decide) ?_
    refine lv_aload B.1.1 B.1.2.1 dX9_perform_158 (hl.at 4 rfl) ?_
    refine lv_iload_n B.1.1 B.1.2.1 dX9_perform_160 rfl (hl.at 2 rfl) ?_
    refine lv_iload_n B.1.1 B.1.2.1 dX9_perform_161 rfl (hl.at 3 rfl) ?_
    refine lv_ineg B.1.1 B.1.2.1 dX9_perform_162 ?_
    refine y_ci hf (fun q hq => x_runV (ci := 1) (C := RX1) B.1 B.2.2.2 hl hR hS cm_X9_346 ⟨rfl, rfl, Nat.le_of_ble_eq_true rfl, Nat.le_of_ble_eq_true rfl⟩ (by decide) rfl k_a2 (c_X1_payIn k_a2 hq) rfl rfl (Nat.le_of_ble_eq_true rfl) dX9_perform_163 ⟨Nat.le_of_ble_eq_true rfl, Nat.le_of_ble_eq_true rfl⟩) hS (fun r34 S33 H locs hf hR hS => ?_)
    exact y_iret B hR hS hf dX9_perform_166
  refine x_if hf (fun c35 hf => ?_) (fun c35 hf => ?_)
  · refine y_tcase (k := 8) (off := 157) (tgt := 167) B c35 dX9_perform_10 (by decide) (by decide) (by decide) (by decide) ?_
    refine lv_aload B.1.1 B.1.2.1 dX9_perform_167 (hl.at 4 rfl) ?_
    refine lv_iload_n B.1.1 B.1.2.1 dX9_perform_169 rfl (hl.at 2 rfl) ?_
    refine lv_iload_n B.1.1 B.1.2.1 dX9_perform_170 rfl (hl.at 3 rfl) ?_
    refine lv_aload_n B.1.1 B.1.2.1 dX9_perform_171 rfl (hl.at 0 rfl) ?_
    refine y_getR B hR hf k_p0 fl_X9_19 dX9_perform_172 (fun a36 k_a36 hf => ?_)
    refine lv_aload B.1.1 B.1.2.1 dX9_perform_175 (hl.at 4 rfl) ?_
    refine lv_aload_n B.1.1 B.1.2.1 dX9_perform_177 rfl (hl.at 0 rfl) ?_
    refine y_getR B hR hf k_p0 fl_X9_48 dX9_perform_178 (fun a37 k_a37 hf => ?_)
    refine y_getR B hR hf k_a37 fl_X9_56 dX9_perform_181 (fun a38 k_a38 hf => ?_)
    refine lv_aload_n B.1.1 B.1.2.1 dX9_perform_184 rfl (hl.at 0 rfl) ?_
    refine y_getR B hR hf k_p0 fl_X9_48 dX9_perform_185 (fun a39 k_a39 hf => ?_)
    refine y_getR B hR hf k_a39 fl_X9_217 dX9_perform_188 (fun a40 k_a40 hf => ?_)
    refine y_ci hf (fun q hq => x_runV (ci := 2) (C := RX2) B.1 B.2.2.2 hl hR hS cm_X9_304 ⟨rfl, rfl, Nat.le_of_ble_eq_true rfl, Nat.le_of_ble_eq_true rfl⟩ (by decide) rfl k_a36 (c_X2_valueAnew k_a36 k_a2 k_a38 k_a40 hq) rfl rfl (Nat.le_of_ble_eq_true rfl) dX9_perform_191 ⟨Nat.le_of_ble_eq_true rfl, Nat.le_of_ble_eq_true rfl⟩) hS (fun r42 S41 H locs hf hR hS => ?_)
    refine y_ci hf (fun q hq => x_runV (ci := 1) (C := RX1) B.1 B.2.2.2 hl hR hS cm_X9_349 ⟨rfl, rfl, Nat.le_of_ble_eq_true rfl, Nat.le_of_ble_eq_true rfl⟩ (by decide) rfl k_a2 (c_X1_letIn k_a2 hq) rfl rfl (Nat.le_of_ble_eq_true rfl) dX9_perform_194 ⟨Nat.le_of_ble_eq_true rfl, Nat.le_of_ble_eq_true rfl⟩) hS (fun r44 S43 H locs hf hR hS => ?_)
    exact y_iret B hR hS hf dX9_perform_197
  refine x_if hf (fun c45 hf => ?_) (fun c45 hf => ?_)
  · refine y_tcase (k := 9) (off := 188) (tgt := 198) B c45 dX9_perform_10 (by decide) (by decide) (by decide) (by decide) ?_
    refine lv_aload_n B.1.1 B.1.2.1 dX9_perform_198 rfl (hl.at 0 rfl) ?_
    refine y_getR B hR hf k_p0 fl_X9_19 dX9_perform_199 (fun a46 k_a46 hf => ?_)
    refine lv_aload B.1.1 B.1.2.1 dX9_perform_202 (hl.at 4 rfl) ?_
    refine lv_aload_n B.1.1 B.1.2.1 dX9_perform_204 rfl (hl.at 0 rfl) ?_
    refine y_getR B hR hf k_p0 fl_X9_48 dX9_perform_205 (fun a47 k_a47 hf => ?_)
    refine y_getR B hR hf k_a47 fl_X9_56 dX9_perform_208 (fun a48 k_a48 hf => ?_)
    refine lv_aload_n B.1.1 B.1.2.1 dX9_perform_211 rfl (hl.at 0 rfl) ?_
    refine y_getR B hR hf k_p0 fl_X9_48 dX9_perform_212 (fun a49 k_a49 hf => ?_)
    refine y_getR B hR hf k_a49 fl_X9_217 dX9_perform_215 (fun a50 k_a50 hf => ?_)
    refine y_ci hf (fun q hq => x_runV (ci := 2) (C := RX2) B.1 B.2.2.2 hl hR hS cm_X9_304 ⟨rfl, rfl, Nat.le_of_ble_eq_true rfl, Nat.le_of_ble_eq_true rfl⟩ (by decide) rfl k_a46 (c_X2_valueAnew k_a46 k_a2 k_a48 k_a50 hq) rfl rfl (Nat.le_of_ble_eq_true rfl) dX9_perform_218 ⟨Nat.le_of_ble_eq_true rfl, Nat.le_of_ble_eq_true rfl⟩) hS (fun r52 S51 H locs hf hR hS => ?_)
    refine lv_pop B.1.1 B.1.2.1 dX9_perform_221 rfl ?_
    refine lv_aload_n B.1.1 B.1.2.1 dX9_perform_222 rfl (hl.at 0 rfl) ?_
    refine y_getR B hR hf k_p0 fl_X9_19 dX9_perform_223 (fun a53 k_a53 hf => ?_)
    refine lv_iload_n B.1.1 B.1.2.1 dX9_perform_226 rfl (hl.at 2 rfl) ?_
    refine lv_aload B.1.1 B.1.2.1 dX9_perform_227 (hl.at 4 rfl) ?_
    refine y_ci hf (fun q hq => x_runV (ci := 2) (C := RX2) B.1 B.2.2.2 hl hR hS cm_X9_352 ⟨rfl, rfl, Nat.le_of_ble_eq_true rfl, Nat.le_of_ble_eq_true rfl⟩ (by decide) rfl k_a53 (c_X2_letOut k_a53 k_a2 hq) rfl rfl (Nat.le_of_ble_eq_true rfl) dX9_perform_229 ⟨Nat.le_of_ble_eq_true rfl, Nat.le_of_ble_eq_true rfl⟩) hS (fun r55 S54 H locs hf hR hS => ?_)
    exact y_iret B hR hS hf dX9_perform_232
  refine x_if hf (fun c56 hf => ?_) (fun c56 hf => ?_)
  · refine y_tcase (k := 10) (off := 223) (tgt := 233) B c56 dX9_perform_10 (by decide) (by decide) (by decide) (by decide) ?_
    refine lv_aload B.1.1 B.1.2.1 dX9_perform_233 (hl.at 4 rfl) ?_
    refine y_getR B hR hf k_a2 fl_X9_170 dX9_perform_235 (fun a57 k_a57 hf => ?_)
    refine lv_iload_n B.1.1 B.1.2.1 dX9_perform_238 rfl (hl.at 2 rfl) ?_
    refine lv_iload_n B.1.1 B.1.2.1 dX9_perform_239 rfl (hl.at 3 rfl) ?_
    refine y_ci hf (fun q hq => y_runS B.1 B.2.2.2 hl hR hS cm_X9_342 ⟨rfl, rfl, Nat.le_of_ble_eq_true rfl, Nat.le_of_ble_eq_true rfl⟩ (c_X9_replace k_a57 hq) rfl rfl (Nat.le_of_ble_eq_true rfl) dX9_perform_240 ⟨Nat.le_of_ble_eq_true rfl, Nat.le_of_ble_eq_true rfl⟩) hS (fun r59 S58 H locs hf hR hS => ?_)
    exact y_iret B hR hS hf dX9_perform_243
  refine x_if hf (fun c60 hf => ?_) (fun c60 hf => ?_)
  · refine y_tcase (k := 11) (off := 234) (tgt := 244) B c60 dX9_perform_10 (by decide) (by decide) (by decide) (by decide) ?_
    refine lv_aload B.1.1 B.1.2.1 dX9_perform_244 (hl.at 4 rfl) ?_
    refine y_getR B hR hf k_a2 fl_X9_173 dX9_perform_246 (fun a61 k_a61 hf => ?_)
    refine lv_iload_n B.1.1 B.1.2.1 dX9_perform_249 rfl (hl.at 2 rfl) ?_
    refine lv_iload_n B.1.1 B.1.2.1 dX9_perform_250 rfl (hl.at 3 rfl) ?_
    refine y_ci hf (fun q hq => y_runS B.1 B.2.2.2 hl hR hS cm_X9_342 ⟨rfl, rfl, Nat.le_of_ble_eq_true rfl, Nat.le_of_ble_eq_true rfl⟩ (c_X9_replace k_a61 hq) rfl rfl (Nat.le_of_ble_eq_true rfl) dX9_perform_251 ⟨Nat.le_of_ble_eq_true rfl, Nat.le_of_ble_eq_true rfl⟩) hS (fun r63 S62 H locs hf hR hS => ?_)
    exact y_iret B hR hS hf dX9_perform_254
  refine x_if hf (fun c64 hf => ?_) (fun c64 hf => ?_)
  · refine y_tcase (k := 12) (off := 245) (tgt := 255) B c64 dX9_perform_10 (by decide) (by decide) (by decide) (by decide) ?_
    refine lv_aload B.1.1 B.1.2.1 dX9_perform_255 (hl.at 4 rfl) ?_
    refine lv_iload_n B.1.1 B.1.2.1 dX9_perform_257 rfl (hl.at 2 rfl) ?_
    refine y_ci hf (fun q hq => x_runV (ci := 1) (C := RX1) B.1 B.2.2.2 hl hR hS cm_X9_355 ⟨rfl, rfl, Nat.le_of_ble_eq_true rfl, Nat.le_of_ble_eq_true rfl⟩ (by decide) rfl k_a2 (c_X1_sellAsset k_a2 hq) rfl rfl (Nat.le_of_ble_eq_true rfl) dX9_perform_258 ⟨Nat.le_of_ble_eq_true rfl, Nat.le_of_ble_eq_true rfl⟩) hS (fun r66 S65 H locs hf hR hS => ?_)
    exact y_iret B hR hS hf dX9_perform_261
  have n0 := lv_neT c3 (a := 0) (by decide)
  have n1 := lv_neT c13 (a := 1) (by decide)
  have n2 := lv_neT c16 (a := 2) (by decide)
  have n3 := lv_neT c19 (a := 3) (by decide)
  have n4 := lv_neT c22 (a := 4) (by decide)
  have n5 := lv_neT c25 (a := 5) (by decide)
  have n6 := lv_neT c29 (a := 6) (by decide)
  have n7 := lv_neT c32 (a := 7) (by decide)
  have n8 := lv_neT c35 (a := 8) (by decide)
  have n9 := lv_neT c45 (a := 9) (by decide)
  have n10 := lv_neT c56 (a := 10) (by decide)
  have n11 := lv_neT c60 (a := 11) (by decide)
  have n12 := lv_neT c64 (a := 12) (by decide)
  refine y_tdef (tgt := 262) B dX9_perform_10 (by omega) (by decide) ?_
  refine lv_ldc (v := -1000000000) B.1.1 B.1.2.1 B.1.2.2.1 (B.1.2.2.2.1 _ tw_555) dX9_perform_262 ?_
  exact y_iret B hR hS hf dX9_perform_264
abbrev xr_X9_come : Room := { frames := 8, cells := 0, slots := 0, locals := 188 }
def f_X9_come (T : xT) (S : xS) (p0 : Nat) (p1 : Int32) (p2 : Int32) : Option (Int32 × xS) := xc (f_X9_begins T S p0 ((8 : Int32)) p1 p2) (fun r2 S1 => if r2 = (0 : Int32) then some ((-1 : Int32), S1) else xc (f_X9_perform T S1 p0 ((8 : Int32)) p1 p2) (fun r4 S3 => some (r4, S3)))
set_option maxRecDepth 100000 in
set_option maxHeartbeats 4000000 in
theorem c_X9_come {l : Launch} {z : Nat} {D : va_G} {dA : Nat → ClassId} {T : xT} {S : xS} {p0 : Nat} {p1 : Int32} {p2 : Int32} (k_p0 : xlk T p0 9 = true) {q : Int32 × xS} (hf : f_X9_come T S p0 p1 p2 = some q) : Met l yX9_come (xws yX9_come cX9_come 3 (some .int)) xr_X9_come (xPc z D dA T S [.ref (z + p0), .int p1, .int p2]) (xQi z D dA T q) 0 0 (xA z) := by
  refine x_met RX9 (by decide) rfl (Nat.le_of_ble_eq_true rfl) ?_
  intro p e s m below meth c ls _ X hr hlk hml _ hR hS hl
  have B : xB p s m _ meth c cX9_come RX9 3 (some .int) D dA := ⟨X, hr, hlk, hml⟩
  have hl : xL ls 3 [_, _, _] := hl
  unfold f_X9_come at hf
  refine lv_aload_n B.1.1 B.1.2.1 dX9_come_0 rfl (hl.at 0 rfl) ?_
  refine lv_bipush (v := 8) B.1.1 B.1.2.1 dX9_come_1 (by decide) ?_
  refine lv_iload_n B.1.1 B.1.2.1 dX9_come_3 rfl (hl.at 1 rfl) ?_
  refine lv_iload_n B.1.1 B.1.2.1 dX9_come_4 rfl (hl.at 2 rfl) ?_
  refine y_ci hf (fun q hq => x_runV (ci := 9) (C := RX9) B.1 B.2.2.2 hl hR hS cm_X9_199 ⟨rfl, rfl, Nat.le_of_ble_eq_true rfl, Nat.le_of_ble_eq_true rfl⟩ (by decide) rfl k_p0 (c_X9_begins k_p0 hq) rfl rfl (Nat.le_of_ble_eq_true rfl) dX9_come_5 ⟨Nat.le_of_ble_eq_true rfl, Nat.le_of_ble_eq_true rfl⟩) hS (fun r2 S1 H locs hf hR hS => ?_)
  refine y_if_eq (tgt := 22) B hf dX9_come_8 (by decide) (fun hf => ?_) (fun hf => ?_)
  · refine lv_iconst (v := -1) B.1.1 B.1.2.1 dX9_come_22 (by decide) ?_
    exact y_iret B hR hS hf dX9_come_23
  · refine lv_aload_n B.1.1 B.1.2.1 dX9_come_11 rfl (hl.at 0 rfl) ?_
    refine lv_bipush (v := 8) B.1.1 B.1.2.1 dX9_come_12 (by decide) ?_
    refine lv_iload_n B.1.1 B.1.2.1 dX9_come_14 rfl (hl.at 1 rfl) ?_
    refine lv_iload_n B.1.1 B.1.2.1 dX9_come_15 rfl (hl.at 2 rfl) ?_
    refine y_ci hf (fun q hq => x_runV (ci := 9) (C := RX9) B.1 B.2.2.2 hl hR hS cm_X9_203 ⟨rfl, rfl, Nat.le_of_ble_eq_true rfl, Nat.le_of_ble_eq_true rfl⟩ (by decide) rfl k_p0 (c_X9_perform k_p0 hq) rfl rfl (Nat.le_of_ble_eq_true rfl) dX9_come_16 ⟨Nat.le_of_ble_eq_true rfl, Nat.le_of_ble_eq_true rfl⟩) hS (fun r4 S3 H locs hf hR hS => ?_)
    refine lv_goto (tgt := 23) B.1.1 B.1.2.1 dX9_come_19 (by decide) ?_
    exact y_iret B hR hS hf dX9_come_23
abbrev xr_X9_go : Room := { frames := 8, cells := 0, slots := 0, locals := 188 }
def f_X9_go (T : xT) (S : xS) (p0 : Nat) (p1 : Int32) : Option (Int32 × xS) := xc (f_X9_begins T S p0 ((9 : Int32)) p1 ((0 : Int32))) (fun r2 S1 => if r2 = (0 : Int32) then some ((-1000000000 : Int32), S1) else xc (f_X9_perform T S1 p0 ((9 : Int32)) p1 ((0 : Int32))) (fun r4 S3 => some (r4, S3)))
set_option maxRecDepth 100000 in
set_option maxHeartbeats 4000000 in
theorem c_X9_go {l : Launch} {z : Nat} {D : va_G} {dA : Nat → ClassId} {T : xT} {S : xS} {p0 : Nat} {p1 : Int32} (k_p0 : xlk T p0 9 = true) {q : Int32 × xS} (hf : f_X9_go T S p0 p1 = some q) : Met l yX9_go (xws yX9_go cX9_go 2 (some .int)) xr_X9_go (xPc z D dA T S [.ref (z + p0), .int p1]) (xQi z D dA T q) 0 0 (xA z) := by
  refine x_met RX9 (by decide) rfl (Nat.le_of_ble_eq_true rfl) ?_
  intro p e s m below meth c ls _ X hr hlk hml _ hR hS hl
  have B : xB p s m _ meth c cX9_go RX9 2 (some .int) D dA := ⟨X, hr, hlk, hml⟩
  have hl : xL ls 2 [_, _] := hl
  unfold f_X9_go at hf
  refine lv_aload_n B.1.1 B.1.2.1 dX9_go_0 rfl (hl.at 0 rfl) ?_
  refine lv_bipush (v := 9) B.1.1 B.1.2.1 dX9_go_1 (by decide) ?_
  refine lv_iload_n B.1.1 B.1.2.1 dX9_go_3 rfl (hl.at 1 rfl) ?_
  refine lv_iconst (v := 0) B.1.1 B.1.2.1 dX9_go_4 (by decide) ?_
  refine y_ci hf (fun q hq => x_runV (ci := 9) (C := RX9) B.1 B.2.2.2 hl hR hS cm_X9_199 ⟨rfl, rfl, Nat.le_of_ble_eq_true rfl, Nat.le_of_ble_eq_true rfl⟩ (by decide) rfl k_p0 (c_X9_begins k_p0 hq) rfl rfl (Nat.le_of_ble_eq_true rfl) dX9_go_5 ⟨Nat.le_of_ble_eq_true rfl, Nat.le_of_ble_eq_true rfl⟩) hS (fun r2 S1 H locs hf hR hS => ?_)
  refine y_if_eq (tgt := 22) B hf dX9_go_8 (by decide) (fun hf => ?_) (fun hf => ?_)
  · refine lv_ldc (v := -1000000000) B.1.1 B.1.2.1 B.1.2.2.1 (B.1.2.2.2.1 _ tw_555) dX9_go_22 ?_
    exact y_iret B hR hS hf dX9_go_24
  · refine lv_aload_n B.1.1 B.1.2.1 dX9_go_11 rfl (hl.at 0 rfl) ?_
    refine lv_bipush (v := 9) B.1.1 B.1.2.1 dX9_go_12 (by decide) ?_
    refine lv_iload_n B.1.1 B.1.2.1 dX9_go_14 rfl (hl.at 1 rfl) ?_
    refine lv_iconst (v := 0) B.1.1 B.1.2.1 dX9_go_15 (by decide) ?_
    refine y_ci hf (fun q hq => x_runV (ci := 9) (C := RX9) B.1 B.2.2.2 hl hR hS cm_X9_203 ⟨rfl, rfl, Nat.le_of_ble_eq_true rfl, Nat.le_of_ble_eq_true rfl⟩ (by decide) rfl k_p0 (c_X9_perform k_p0 hq) rfl rfl (Nat.le_of_ble_eq_true rfl) dX9_go_16 ⟨Nat.le_of_ble_eq_true rfl, Nat.le_of_ble_eq_true rfl⟩) hS (fun r4 S3 H locs hf hR hS => ?_)
    refine lv_goto (tgt := 24) B.1.1 B.1.2.1 dX9_go_19 (by decide) ?_
    exact y_iret B hR hS hf dX9_go_24
abbrev xr_X9_duty : Room := { frames := 8, cells := 0, slots := 0, locals := 188 }
def f_X9_duty (T : xT) (S : xS) (p0 : Nat) (p1 : Int32) (p2 : Int32) : Option (Int32 × xS) := xc (f_X9_begins T S p0 ((10 : Int32)) p1 p2) (fun r2 S1 => if r2 = (0 : Int32) then some ((-1 : Int32), S1) else xc (f_X9_perform T S1 p0 ((10 : Int32)) p1 p2) (fun r4 S3 => some (r4, S3)))
set_option maxRecDepth 100000 in
set_option maxHeartbeats 4000000 in
theorem c_X9_duty {l : Launch} {z : Nat} {D : va_G} {dA : Nat → ClassId} {T : xT} {S : xS} {p0 : Nat} {p1 : Int32} {p2 : Int32} (k_p0 : xlk T p0 9 = true) {q : Int32 × xS} (hf : f_X9_duty T S p0 p1 p2 = some q) : Met l yX9_duty (xws yX9_duty cX9_duty 3 (some .int)) xr_X9_duty (xPc z D dA T S [.ref (z + p0), .int p1, .int p2]) (xQi z D dA T q) 0 0 (xA z) := by
  refine x_met RX9 (by decide) rfl (Nat.le_of_ble_eq_true rfl) ?_
  intro p e s m below meth c ls _ X hr hlk hml _ hR hS hl
  have B : xB p s m _ meth c cX9_duty RX9 3 (some .int) D dA := ⟨X, hr, hlk, hml⟩
  have hl : xL ls 3 [_, _, _] := hl
  unfold f_X9_duty at hf
  refine lv_aload_n B.1.1 B.1.2.1 dX9_duty_0 rfl (hl.at 0 rfl) ?_
  refine lv_bipush (v := 10) B.1.1 B.1.2.1 dX9_duty_1 (by decide) ?_
  refine lv_iload_n B.1.1 B.1.2.1 dX9_duty_3 rfl (hl.at 1 rfl) ?_
  refine lv_iload_n B.1.1 B.1.2.1 dX9_duty_4 rfl (hl.at 2 rfl) ?_
  refine y_ci hf (fun q hq => x_runV (ci := 9) (C := RX9) B.1 B.2.2.2 hl hR hS cm_X9_199 ⟨rfl, rfl, Nat.le_of_ble_eq_true rfl, Nat.le_of_ble_eq_true rfl⟩ (by decide) rfl k_p0 (c_X9_begins k_p0 hq) rfl rfl (Nat.le_of_ble_eq_true rfl) dX9_duty_5 ⟨Nat.le_of_ble_eq_true rfl, Nat.le_of_ble_eq_true rfl⟩) hS (fun r2 S1 H locs hf hR hS => ?_)
  refine y_if_eq (tgt := 22) B hf dX9_duty_8 (by decide) (fun hf => ?_) (fun hf => ?_)
  · refine lv_iconst (v := -1) B.1.1 B.1.2.1 dX9_duty_22 (by decide) ?_
    exact y_iret B hR hS hf dX9_duty_23
  · refine lv_aload_n B.1.1 B.1.2.1 dX9_duty_11 rfl (hl.at 0 rfl) ?_
    refine lv_bipush (v := 10) B.1.1 B.1.2.1 dX9_duty_12 (by decide) ?_
    refine lv_iload_n B.1.1 B.1.2.1 dX9_duty_14 rfl (hl.at 1 rfl) ?_
    refine lv_iload_n B.1.1 B.1.2.1 dX9_duty_15 rfl (hl.at 2 rfl) ?_
    refine y_ci hf (fun q hq => x_runV (ci := 9) (C := RX9) B.1 B.2.2.2 hl hR hS cm_X9_203 ⟨rfl, rfl, Nat.le_of_ble_eq_true rfl, Nat.le_of_ble_eq_true rfl⟩ (by decide) rfl k_p0 (c_X9_perform k_p0 hq) rfl rfl (Nat.le_of_ble_eq_true rfl) dX9_duty_16 ⟨Nat.le_of_ble_eq_true rfl, Nat.le_of_ble_eq_true rfl⟩) hS (fun r4 S3 H locs hf hR hS => ?_)
    refine lv_goto (tgt := 23) B.1.1 B.1.2.1 dX9_duty_19 (by decide) ?_
    exact y_iret B hR hS hf dX9_duty_23
abbrev xr_X9_ratio : Room := { frames := 8, cells := 0, slots := 0, locals := 188 }
def f_X9_ratio (T : xT) (S : xS) (p0 : Nat) (p1 : Int32) (p2 : Int32) : Option (Int32 × xS) := xc (f_X9_begins T S p0 ((11 : Int32)) p1 p2) (fun r2 S1 => if r2 = (0 : Int32) then some ((-1 : Int32), S1) else xc (f_X9_perform T S1 p0 ((11 : Int32)) p1 p2) (fun r4 S3 => some (r4, S3)))
set_option maxRecDepth 100000 in
set_option maxHeartbeats 4000000 in
theorem c_X9_ratio {l : Launch} {z : Nat} {D : va_G} {dA : Nat → ClassId} {T : xT} {S : xS} {p0 : Nat} {p1 : Int32} {p2 : Int32} (k_p0 : xlk T p0 9 = true) {q : Int32 × xS} (hf : f_X9_ratio T S p0 p1 p2 = some q) : Met l yX9_ratio (xws yX9_ratio cX9_ratio 3 (some .int)) xr_X9_ratio (xPc z D dA T S [.ref (z + p0), .int p1, .int p2]) (xQi z D dA T q) 0 0 (xA z) := by
  refine x_met RX9 (by decide) rfl (Nat.le_of_ble_eq_true rfl) ?_
  intro p e s m below meth c ls _ X hr hlk hml _ hR hS hl
  have B : xB p s m _ meth c cX9_ratio RX9 3 (some .int) D dA := ⟨X, hr, hlk, hml⟩
  have hl : xL ls 3 [_, _, _] := hl
  unfold f_X9_ratio at hf
  refine lv_aload_n B.1.1 B.1.2.1 dX9_ratio_0 rfl (hl.at 0 rfl) ?_
  refine lv_bipush (v := 11) B.1.1 B.1.2.1 dX9_ratio_1 (by decide) ?_
  refine lv_iload_n B.1.1 B.1.2.1 dX9_ratio_3 rfl (hl.at 1 rfl) ?_
  refine lv_iload_n B.1.1 B.1.2.1 dX9_ratio_4 rfl (hl.at 2 rfl) ?_
  refine y_ci hf (fun q hq => x_runV (ci := 9) (C := RX9) B.1 B.2.2.2 hl hR hS cm_X9_199 ⟨rfl, rfl, Nat.le_of_ble_eq_true rfl, Nat.le_of_ble_eq_true rfl⟩ (by decide) rfl k_p0 (c_X9_begins k_p0 hq) rfl rfl (Nat.le_of_ble_eq_true rfl) dX9_ratio_5 ⟨Nat.le_of_ble_eq_true rfl, Nat.le_of_ble_eq_true rfl⟩) hS (fun r2 S1 H locs hf hR hS => ?_)
  refine y_if_eq (tgt := 22) B hf dX9_ratio_8 (by decide) (fun hf => ?_) (fun hf => ?_)
  · refine lv_iconst (v := -1) B.1.1 B.1.2.1 dX9_ratio_22 (by decide) ?_
    exact y_iret B hR hS hf dX9_ratio_23
  · refine lv_aload_n B.1.1 B.1.2.1 dX9_ratio_11 rfl (hl.at 0 rfl) ?_
    refine lv_bipush (v := 11) B.1.1 B.1.2.1 dX9_ratio_12 (by decide) ?_
    refine lv_iload_n B.1.1 B.1.2.1 dX9_ratio_14 rfl (hl.at 1 rfl) ?_
    refine lv_iload_n B.1.1 B.1.2.1 dX9_ratio_15 rfl (hl.at 2 rfl) ?_
    refine y_ci hf (fun q hq => x_runV (ci := 9) (C := RX9) B.1 B.2.2.2 hl hR hS cm_X9_203 ⟨rfl, rfl, Nat.le_of_ble_eq_true rfl, Nat.le_of_ble_eq_true rfl⟩ (by decide) rfl k_p0 (c_X9_perform k_p0 hq) rfl rfl (Nat.le_of_ble_eq_true rfl) dX9_ratio_16 ⟨Nat.le_of_ble_eq_true rfl, Nat.le_of_ble_eq_true rfl⟩) hS (fun r4 S3 H locs hf hR hS => ?_)
    refine lv_goto (tgt := 23) B.1.1 B.1.2.1 dX9_ratio_19 (by decide) ?_
    exact y_iret B hR hS hf dX9_ratio_23
abbrev xr_X9_pay : Room := { frames := 8, cells := 0, slots := 0, locals := 188 }
def f_X9_pay (T : xT) (S : xS) (p0 : Nat) (p1 : Int32) (p2 : Int32) : Option (Int32 × xS) := xc (f_X9_begins T S p0 ((6 : Int32)) p1 p2) (fun r2 S1 => if r2 = (0 : Int32) then some ((-1000000000 : Int32), S1) else xc (f_X9_perform T S1 p0 ((6 : Int32)) p1 p2) (fun r4 S3 => some (r4, S3)))
set_option maxRecDepth 100000 in
set_option maxHeartbeats 4000000 in
theorem c_X9_pay {l : Launch} {z : Nat} {D : va_G} {dA : Nat → ClassId} {T : xT} {S : xS} {p0 : Nat} {p1 : Int32} {p2 : Int32} (k_p0 : xlk T p0 9 = true) {q : Int32 × xS} (hf : f_X9_pay T S p0 p1 p2 = some q) : Met l yX9_pay (xws yX9_pay cX9_pay 3 (some .int)) xr_X9_pay (xPc z D dA T S [.ref (z + p0), .int p1, .int p2]) (xQi z D dA T q) 0 0 (xA z) := by
  refine x_met RX9 (by decide) rfl (Nat.le_of_ble_eq_true rfl) ?_
  intro p e s m below meth c ls _ X hr hlk hml _ hR hS hl
  have B : xB p s m _ meth c cX9_pay RX9 3 (some .int) D dA := ⟨X, hr, hlk, hml⟩
  have hl : xL ls 3 [_, _, _] := hl
  unfold f_X9_pay at hf
  refine lv_aload_n B.1.1 B.1.2.1 dX9_pay_0 rfl (hl.at 0 rfl) ?_
  refine lv_bipush (v := 6) B.1.1 B.1.2.1 dX9_pay_1 (by decide) ?_
  refine lv_iload_n B.1.1 B.1.2.1 dX9_pay_3 rfl (hl.at 1 rfl) ?_
  refine lv_iload_n B.1.1 B.1.2.1 dX9_pay_4 rfl (hl.at 2 rfl) ?_
  refine y_ci hf (fun q hq => x_runV (ci := 9) (C := RX9) B.1 B.2.2.2 hl hR hS cm_X9_199 ⟨rfl, rfl, Nat.le_of_ble_eq_true rfl, Nat.le_of_ble_eq_true rfl⟩ (by decide) rfl k_p0 (c_X9_begins k_p0 hq) rfl rfl (Nat.le_of_ble_eq_true rfl) dX9_pay_5 ⟨Nat.le_of_ble_eq_true rfl, Nat.le_of_ble_eq_true rfl⟩) hS (fun r2 S1 H locs hf hR hS => ?_)
  refine y_if_eq (tgt := 22) B hf dX9_pay_8 (by decide) (fun hf => ?_) (fun hf => ?_)
  · refine lv_ldc (v := -1000000000) B.1.1 B.1.2.1 B.1.2.2.1 (B.1.2.2.2.1 _ tw_555) dX9_pay_22 ?_
    exact y_iret B hR hS hf dX9_pay_24
  · refine lv_aload_n B.1.1 B.1.2.1 dX9_pay_11 rfl (hl.at 0 rfl) ?_
    refine lv_bipush (v := 6) B.1.1 B.1.2.1 dX9_pay_12 (by decide) ?_
    refine lv_iload_n B.1.1 B.1.2.1 dX9_pay_14 rfl (hl.at 1 rfl) ?_
    refine lv_iload_n B.1.1 B.1.2.1 dX9_pay_15 rfl (hl.at 2 rfl) ?_
    refine y_ci hf (fun q hq => x_runV (ci := 9) (C := RX9) B.1 B.2.2.2 hl hR hS cm_X9_203 ⟨rfl, rfl, Nat.le_of_ble_eq_true rfl, Nat.le_of_ble_eq_true rfl⟩ (by decide) rfl k_p0 (c_X9_perform k_p0 hq) rfl rfl (Nat.le_of_ble_eq_true rfl) dX9_pay_16 ⟨Nat.le_of_ble_eq_true rfl, Nat.le_of_ble_eq_true rfl⟩) hS (fun r4 S3 H locs hf hR hS => ?_)
    refine lv_goto (tgt := 24) B.1.1 B.1.2.1 dX9_pay_19 (by decide) ?_
    exact y_iret B hR hS hf dX9_pay_24
abbrev xr_X9_draw : Room := { frames := 8, cells := 0, slots := 0, locals := 188 }
def f_X9_draw (T : xT) (S : xS) (p0 : Nat) (p1 : Int32) (p2 : Int32) : Option (Int32 × xS) := xc (f_X9_begins T S p0 ((7 : Int32)) p1 p2) (fun r2 S1 => if r2 = (0 : Int32) then some ((-1000000000 : Int32), S1) else xc (f_X9_perform T S1 p0 ((7 : Int32)) p1 p2) (fun r4 S3 => some (r4, S3)))
set_option maxRecDepth 100000 in
set_option maxHeartbeats 4000000 in
theorem c_X9_draw {l : Launch} {z : Nat} {D : va_G} {dA : Nat → ClassId} {T : xT} {S : xS} {p0 : Nat} {p1 : Int32} {p2 : Int32} (k_p0 : xlk T p0 9 = true) {q : Int32 × xS} (hf : f_X9_draw T S p0 p1 p2 = some q) : Met l yX9_draw (xws yX9_draw cX9_draw 3 (some .int)) xr_X9_draw (xPc z D dA T S [.ref (z + p0), .int p1, .int p2]) (xQi z D dA T q) 0 0 (xA z) := by
  refine x_met RX9 (by decide) rfl (Nat.le_of_ble_eq_true rfl) ?_
  intro p e s m below meth c ls _ X hr hlk hml _ hR hS hl
  have B : xB p s m _ meth c cX9_draw RX9 3 (some .int) D dA := ⟨X, hr, hlk, hml⟩
  have hl : xL ls 3 [_, _, _] := hl
  unfold f_X9_draw at hf
  refine lv_aload_n B.1.1 B.1.2.1 dX9_draw_0 rfl (hl.at 0 rfl) ?_
  refine lv_bipush (v := 7) B.1.1 B.1.2.1 dX9_draw_1 (by decide) ?_
  refine lv_iload_n B.1.1 B.1.2.1 dX9_draw_3 rfl (hl.at 1 rfl) ?_
  refine lv_iload_n B.1.1 B.1.2.1 dX9_draw_4 rfl (hl.at 2 rfl) ?_
  refine y_ci hf (fun q hq => x_runV (ci := 9) (C := RX9) B.1 B.2.2.2 hl hR hS cm_X9_199 ⟨rfl, rfl, Nat.le_of_ble_eq_true rfl, Nat.le_of_ble_eq_true rfl⟩ (by decide) rfl k_p0 (c_X9_begins k_p0 hq) rfl rfl (Nat.le_of_ble_eq_true rfl) dX9_draw_5 ⟨Nat.le_of_ble_eq_true rfl, Nat.le_of_ble_eq_true rfl⟩) hS (fun r2 S1 H locs hf hR hS => ?_)
  refine y_if_eq (tgt := 22) B hf dX9_draw_8 (by decide) (fun hf => ?_) (fun hf => ?_)
  · refine lv_ldc (v := -1000000000) B.1.1 B.1.2.1 B.1.2.2.1 (B.1.2.2.2.1 _ tw_555) dX9_draw_22 ?_
    exact y_iret B hR hS hf dX9_draw_24
  · refine lv_aload_n B.1.1 B.1.2.1 dX9_draw_11 rfl (hl.at 0 rfl) ?_
    refine lv_bipush (v := 7) B.1.1 B.1.2.1 dX9_draw_12 (by decide) ?_
    refine lv_iload_n B.1.1 B.1.2.1 dX9_draw_14 rfl (hl.at 1 rfl) ?_
    refine lv_iload_n B.1.1 B.1.2.1 dX9_draw_15 rfl (hl.at 2 rfl) ?_
    refine y_ci hf (fun q hq => x_runV (ci := 9) (C := RX9) B.1 B.2.2.2 hl hR hS cm_X9_203 ⟨rfl, rfl, Nat.le_of_ble_eq_true rfl, Nat.le_of_ble_eq_true rfl⟩ (by decide) rfl k_p0 (c_X9_perform k_p0 hq) rfl rfl (Nat.le_of_ble_eq_true rfl) dX9_draw_16 ⟨Nat.le_of_ble_eq_true rfl, Nat.le_of_ble_eq_true rfl⟩) hS (fun r4 S3 H locs hf hR hS => ?_)
    refine lv_goto (tgt := 24) B.1.1 B.1.2.1 dX9_draw_19 (by decide) ?_
    exact y_iret B hR hS hf dX9_draw_24
abbrev xr_X9_buy : Room := { frames := 5, cells := 0, slots := 0, locals := 120 }
def f_X9_buy (T : xT) (S : xS) (p0 : Nat) (p1 : Int32) (p2 : Int32) (p3 : Int32) : Option (Int32 × xS) := xgr T S p0 4 5 (fun a1 => xgr T S a1 0 1 (fun a2 => xc (f_X1_freeAsset T S a2) (fun r4 S3 => xl r4 (fun v5 => if v5 = (-1 : Int32) then some ((-1 : Int32), S3) else xc (f_X9_isSum T S3 p1) (fun r7 S6 => if r7 = (0 : Int32) then some ((-1 : Int32), S6) else xc (f_X9_isSum T S6 p2) (fun r9 S8 => if r9 = (0 : Int32) then some ((-1 : Int32), S8) else xc (f_X9_isSum T S8 p3) (fun r11 S10 => if r11 = (0 : Int32) then some ((-1 : Int32), S10) else xcv (f_X9_remember T S10 p0) (fun S12 => xgr T S12 p0 4 5 (fun a13 => xgr T S12 a13 0 1 (fun a14 => xcv (f_X1_addAsset T S12 a14 v5 p1 p2 p3) (fun S15 => some (v5, S15))))))))))))
set_option maxRecDepth 100000 in
set_option maxHeartbeats 4000000 in
theorem c_X9_buy {l : Launch} {z : Nat} {D : va_G} {dA : Nat → ClassId} {T : xT} {S : xS} {p0 : Nat} {p1 : Int32} {p2 : Int32} {p3 : Int32} (k_p0 : xlk T p0 9 = true) {q : Int32 × xS} (hf : f_X9_buy T S p0 p1 p2 p3 = some q) : Met l yX9_buy (xws yX9_buy cX9_buy 5 (some .int)) xr_X9_buy (xPc z D dA T S [.ref (z + p0), .int p1, .int p2, .int p3]) (xQi z D dA T q) 0 0 (xA z) := by
  refine x_met RX9 (by decide) rfl (Nat.le_of_ble_eq_true rfl) ?_
  intro p e s m below meth c ls _ X hr hlk hml _ hR hS hl
  have B : xB p s m _ meth c cX9_buy RX9 5 (some .int) D dA := ⟨X, hr, hlk, hml⟩
  have hl : xL ls 5 [_, _, _, _, _] := hl
  unfold f_X9_buy at hf
  refine lv_aload_n B.1.1 B.1.2.1 dX9_buy_0 rfl (hl.at 0 rfl) ?_
  refine y_getR B hR hf k_p0 fl_X9_48 dX9_buy_1 (fun a1 k_a1 hf => ?_)
  refine y_getR B hR hf k_a1 fl_X9_114 dX9_buy_4 (fun a2 k_a2 hf => ?_)
  refine y_ci hf (fun q hq => x_runV (ci := 1) (C := RX1) B.1 B.2.2.2 hl hR hS cm_X9_207 ⟨rfl, rfl, Nat.le_of_ble_eq_true rfl, Nat.le_of_ble_eq_true rfl⟩ (by decide) rfl k_a2 (c_X1_freeAsset k_a2 hq) rfl rfl (Nat.le_of_ble_eq_true rfl) dX9_buy_7 ⟨Nat.le_of_ble_eq_true rfl, Nat.le_of_ble_eq_true rfl⟩) hS (fun r4 S3 H locs hf hR hS => ?_)
  refine y_istore B hl hf dX9_buy_10 (by decide) rfl (fun v5 ls hf hl => ?_)
  have hl : xL ls 5 [_, _, _, _, _] := hl
  refine lv_iload B.1.1 B.1.2.1 dX9_buy_12 (hl.at 4 rfl) ?_
  refine lv_iconst (v := -1) B.1.1 B.1.2.1 dX9_buy_14 (by decide) ?_
  refine y_icmp_eq (tgt := 39) B hf dX9_buy_15 (by decide) (fun hf => ?_) (fun hf => ?_)
  · refine lv_iconst (v := -1) B.1.1 B.1.2.1 dX9_buy_39 (by decide) ?_
    exact y_iret B hR hS hf dX9_buy_40
  · refine lv_iload_n B.1.1 B.1.2.1 dX9_buy_18 rfl (hl.at 1 rfl) ?_
    refine y_ci hf (fun q hq => y_runS B.1 B.2.2.2 hl hR hS cm_X9_210 ⟨rfl, rfl, Nat.le_of_ble_eq_true rfl, Nat.le_of_ble_eq_true rfl⟩ (c_X9_isSum hq) rfl rfl (Nat.le_of_ble_eq_true rfl) dX9_buy_19 ⟨Nat.le_of_ble_eq_true rfl, Nat.le_of_ble_eq_true rfl⟩) hS (fun r7 S6 H locs hf hR hS => ?_)
    refine y_if_eq (tgt := 39) B hf dX9_buy_22 (by decide) (fun hf => ?_) (fun hf => ?_)
    · refine lv_iconst (v := -1) B.1.1 B.1.2.1 dX9_buy_39 (by decide) ?_
      exact y_iret B hR hS hf dX9_buy_40
    · refine lv_iload_n B.1.1 B.1.2.1 dX9_buy_25 rfl (hl.at 2 rfl) ?_
      refine y_ci hf (fun q hq => y_runS B.1 B.2.2.2 hl hR hS cm_X9_210 ⟨rfl, rfl, Nat.le_of_ble_eq_true rfl, Nat.le_of_ble_eq_true rfl⟩ (c_X9_isSum hq) rfl rfl (Nat.le_of_ble_eq_true rfl) dX9_buy_26 ⟨Nat.le_of_ble_eq_true rfl, Nat.le_of_ble_eq_true rfl⟩) hS (fun r9 S8 H locs hf hR hS => ?_)
      refine y_if_eq (tgt := 39) B hf dX9_buy_29 (by decide) (fun hf => ?_) (fun hf => ?_)
      · refine lv_iconst (v := -1) B.1.1 B.1.2.1 dX9_buy_39 (by decide) ?_
        exact y_iret B hR hS hf dX9_buy_40
      · refine lv_iload_n B.1.1 B.1.2.1 dX9_buy_32 rfl (hl.at 3 rfl) ?_
        refine y_ci hf (fun q hq => y_runS B.1 B.2.2.2 hl hR hS cm_X9_210 ⟨rfl, rfl, Nat.le_of_ble_eq_true rfl, Nat.le_of_ble_eq_true rfl⟩ (c_X9_isSum hq) rfl rfl (Nat.le_of_ble_eq_true rfl) dX9_buy_33 ⟨Nat.le_of_ble_eq_true rfl, Nat.le_of_ble_eq_true rfl⟩) hS (fun r11 S10 H locs hf hR hS => ?_)
        refine y_if_ne (tgt := 41) B hf dX9_buy_36 (by decide) (fun hf => ?_) (fun hf => ?_)
        · refine lv_aload_n B.1.1 B.1.2.1 dX9_buy_41 rfl (hl.at 0 rfl) ?_
          refine y_cv hf (fun q hq => x_runV (ci := 9) (C := RX9) B.1 B.2.2.2 hl hR hS cm_X9_99 ⟨rfl, rfl, Nat.le_of_ble_eq_true rfl, Nat.le_of_ble_eq_true rfl⟩ (by decide) rfl k_p0 (c_X9_remember k_p0 hq) rfl rfl (Nat.le_of_ble_eq_true rfl) dX9_buy_42 ⟨Nat.le_of_ble_eq_true rfl, Nat.le_of_ble_eq_true rfl⟩) hS (fun S12 H locs hf hR hS => ?_)
          refine lv_aload_n B.1.1 B.1.2.1 dX9_buy_45 rfl (hl.at 0 rfl) ?_
          refine y_getR B hR hf k_p0 fl_X9_48 dX9_buy_46 (fun a13 k_a13 hf => ?_)
          refine y_getR B hR hf k_a13 fl_X9_114 dX9_buy_49 (fun a14 k_a14 hf => ?_)
          refine lv_iload B.1.1 B.1.2.1 dX9_buy_52 (hl.at 4 rfl) ?_
          refine lv_iload_n B.1.1 B.1.2.1 dX9_buy_54 rfl (hl.at 1 rfl) ?_
          refine lv_iload_n B.1.1 B.1.2.1 dX9_buy_55 rfl (hl.at 2 rfl) ?_
          refine lv_iload_n B.1.1 B.1.2.1 dX9_buy_56 rfl (hl.at 3 rfl) ?_
          refine y_cv hf (fun q hq => x_runV (ci := 1) (C := RX1) B.1 B.2.2.2 hl hR hS cm_X9_213 ⟨rfl, rfl, Nat.le_of_ble_eq_true rfl, Nat.le_of_ble_eq_true rfl⟩ (by decide) rfl k_a14 (c_X1_addAsset k_a14 hq) rfl rfl (Nat.le_of_ble_eq_true rfl) dX9_buy_57 ⟨Nat.le_of_ble_eq_true rfl, Nat.le_of_ble_eq_true rfl⟩) hS (fun S15 H locs hf hR hS => ?_)
          refine lv_iload B.1.1 B.1.2.1 dX9_buy_60 (hl.at 4 rfl) ?_
          exact y_iret B hR hS hf dX9_buy_62
        · refine lv_iconst (v := -1) B.1.1 B.1.2.1 dX9_buy_39 (by decide) ?_
          exact y_iret B hR hS hf dX9_buy_40
abbrev xr_X9_sell : Room := { frames := 8, cells := 0, slots := 0, locals := 188 }
def f_X9_sell (T : xT) (S : xS) (p0 : Nat) (p1 : Int32) : Option (Int32 × xS) := xc (f_X9_begins T S p0 ((12 : Int32)) p1 ((0 : Int32))) (fun r2 S1 => if r2 = (0 : Int32) then some ((-1000000000 : Int32), S1) else xc (f_X9_perform T S1 p0 ((12 : Int32)) p1 ((0 : Int32))) (fun r4 S3 => some (r4, S3)))
set_option maxRecDepth 100000 in
set_option maxHeartbeats 4000000 in
theorem c_X9_sell {l : Launch} {z : Nat} {D : va_G} {dA : Nat → ClassId} {T : xT} {S : xS} {p0 : Nat} {p1 : Int32} (k_p0 : xlk T p0 9 = true) {q : Int32 × xS} (hf : f_X9_sell T S p0 p1 = some q) : Met l yX9_sell (xws yX9_sell cX9_sell 2 (some .int)) xr_X9_sell (xPc z D dA T S [.ref (z + p0), .int p1]) (xQi z D dA T q) 0 0 (xA z) := by
  refine x_met RX9 (by decide) rfl (Nat.le_of_ble_eq_true rfl) ?_
  intro p e s m below meth c ls _ X hr hlk hml _ hR hS hl
  have B : xB p s m _ meth c cX9_sell RX9 2 (some .int) D dA := ⟨X, hr, hlk, hml⟩
  have hl : xL ls 2 [_, _] := hl
  unfold f_X9_sell at hf
  refine lv_aload_n B.1.1 B.1.2.1 dX9_sell_0 rfl (hl.at 0 rfl) ?_
  refine lv_bipush (v := 12) B.1.1 B.1.2.1 dX9_sell_1 (by decide) ?_
  refine lv_iload_n B.1.1 B.1.2.1 dX9_sell_3 rfl (hl.at 1 rfl) ?_
  refine lv_iconst (v := 0) B.1.1 B.1.2.1 dX9_sell_4 (by decide) ?_
  refine y_ci hf (fun q hq => x_runV (ci := 9) (C := RX9) B.1 B.2.2.2 hl hR hS cm_X9_199 ⟨rfl, rfl, Nat.le_of_ble_eq_true rfl, Nat.le_of_ble_eq_true rfl⟩ (by decide) rfl k_p0 (c_X9_begins k_p0 hq) rfl rfl (Nat.le_of_ble_eq_true rfl) dX9_sell_5 ⟨Nat.le_of_ble_eq_true rfl, Nat.le_of_ble_eq_true rfl⟩) hS (fun r2 S1 H locs hf hR hS => ?_)
  refine y_if_eq (tgt := 22) B hf dX9_sell_8 (by decide) (fun hf => ?_) (fun hf => ?_)
  · refine lv_ldc (v := -1000000000) B.1.1 B.1.2.1 B.1.2.2.1 (B.1.2.2.2.1 _ tw_555) dX9_sell_22 ?_
    exact y_iret B hR hS hf dX9_sell_24
  · refine lv_aload_n B.1.1 B.1.2.1 dX9_sell_11 rfl (hl.at 0 rfl) ?_
    refine lv_bipush (v := 12) B.1.1 B.1.2.1 dX9_sell_12 (by decide) ?_
    refine lv_iload_n B.1.1 B.1.2.1 dX9_sell_14 rfl (hl.at 1 rfl) ?_
    refine lv_iconst (v := 0) B.1.1 B.1.2.1 dX9_sell_15 (by decide) ?_
    refine y_ci hf (fun q hq => x_runV (ci := 9) (C := RX9) B.1 B.2.2.2 hl hR hS cm_X9_203 ⟨rfl, rfl, Nat.le_of_ble_eq_true rfl, Nat.le_of_ble_eq_true rfl⟩ (by decide) rfl k_p0 (c_X9_perform k_p0 hq) rfl rfl (Nat.le_of_ble_eq_true rfl) dX9_sell_16 ⟨Nat.le_of_ble_eq_true rfl, Nat.le_of_ble_eq_true rfl⟩) hS (fun r4 S3 H locs hf hR hS => ?_)
    refine lv_goto (tgt := 24) B.1.1 B.1.2.1 dX9_sell_19 (by decide) ?_
    exact y_iret B hR hS hf dX9_sell_24
abbrev xr_X9_market : Room := { frames := 8, cells := 0, slots := 0, locals := 188 }
def f_X9_market (T : xT) (S : xS) (p0 : Nat) (p1 : Int32) (p2 : Int32) : Option (Int32 × xS) := xc (f_X9_begins T S p0 ((5 : Int32)) p1 p2) (fun r2 S1 => if r2 = (0 : Int32) then some ((-1 : Int32), S1) else xc (f_X9_perform T S1 p0 ((5 : Int32)) p1 p2) (fun r4 S3 => some (r4, S3)))
set_option maxRecDepth 100000 in
set_option maxHeartbeats 4000000 in
theorem c_X9_market {l : Launch} {z : Nat} {D : va_G} {dA : Nat → ClassId} {T : xT} {S : xS} {p0 : Nat} {p1 : Int32} {p2 : Int32} (k_p0 : xlk T p0 9 = true) {q : Int32 × xS} (hf : f_X9_market T S p0 p1 p2 = some q) : Met l yX9_market (xws yX9_market cX9_market 3 (some .int)) xr_X9_market (xPc z D dA T S [.ref (z + p0), .int p1, .int p2]) (xQi z D dA T q) 0 0 (xA z) := by
  refine x_met RX9 (by decide) rfl (Nat.le_of_ble_eq_true rfl) ?_
  intro p e s m below meth c ls _ X hr hlk hml _ hR hS hl
  have B : xB p s m _ meth c cX9_market RX9 3 (some .int) D dA := ⟨X, hr, hlk, hml⟩
  have hl : xL ls 3 [_, _, _] := hl
  unfold f_X9_market at hf
  refine lv_aload_n B.1.1 B.1.2.1 dX9_market_0 rfl (hl.at 0 rfl) ?_
  refine lv_iconst (v := 5) B.1.1 B.1.2.1 dX9_market_1 (by decide) ?_
  refine lv_iload_n B.1.1 B.1.2.1 dX9_market_2 rfl (hl.at 1 rfl) ?_
  refine lv_iload_n B.1.1 B.1.2.1 dX9_market_3 rfl (hl.at 2 rfl) ?_
  refine y_ci hf (fun q hq => x_runV (ci := 9) (C := RX9) B.1 B.2.2.2 hl hR hS cm_X9_199 ⟨rfl, rfl, Nat.le_of_ble_eq_true rfl, Nat.le_of_ble_eq_true rfl⟩ (by decide) rfl k_p0 (c_X9_begins k_p0 hq) rfl rfl (Nat.le_of_ble_eq_true rfl) dX9_market_4 ⟨Nat.le_of_ble_eq_true rfl, Nat.le_of_ble_eq_true rfl⟩) hS (fun r2 S1 H locs hf hR hS => ?_)
  refine y_if_eq (tgt := 20) B hf dX9_market_7 (by decide) (fun hf => ?_) (fun hf => ?_)
  · refine lv_iconst (v := -1) B.1.1 B.1.2.1 dX9_market_20 (by decide) ?_
    exact y_iret B hR hS hf dX9_market_21
  · refine lv_aload_n B.1.1 B.1.2.1 dX9_market_10 rfl (hl.at 0 rfl) ?_
    refine lv_iconst (v := 5) B.1.1 B.1.2.1 dX9_market_11 (by decide) ?_
    refine lv_iload_n B.1.1 B.1.2.1 dX9_market_12 rfl (hl.at 1 rfl) ?_
    refine lv_iload_n B.1.1 B.1.2.1 dX9_market_13 rfl (hl.at 2 rfl) ?_
    refine y_ci hf (fun q hq => x_runV (ci := 9) (C := RX9) B.1 B.2.2.2 hl hR hS cm_X9_203 ⟨rfl, rfl, Nat.le_of_ble_eq_true rfl, Nat.le_of_ble_eq_true rfl⟩ (by decide) rfl k_p0 (c_X9_perform k_p0 hq) rfl rfl (Nat.le_of_ble_eq_true rfl) dX9_market_14 ⟨Nat.le_of_ble_eq_true rfl, Nat.le_of_ble_eq_true rfl⟩) hS (fun r4 S3 H locs hf hR hS => ?_)
    refine lv_goto (tgt := 21) B.1.1 B.1.2.1 dX9_market_17 (by decide) ?_
    exact y_iret B hR hS hf dX9_market_21
abbrev xr_X9_lose : Room := { frames := 8, cells := 0, slots := 0, locals := 188 }
def f_X9_lose (T : xT) (S : xS) (p0 : Nat) (p1 : Int32) (p2 : Int32) : Option (Int32 × xS) := xc (f_X9_begins T S p0 ((2 : Int32)) p1 p2) (fun r2 S1 => if r2 = (0 : Int32) then some ((-1 : Int32), S1) else xc (f_X9_perform T S1 p0 ((2 : Int32)) p1 p2) (fun r4 S3 => some (r4, S3)))
set_option maxRecDepth 100000 in
set_option maxHeartbeats 4000000 in
theorem c_X9_lose {l : Launch} {z : Nat} {D : va_G} {dA : Nat → ClassId} {T : xT} {S : xS} {p0 : Nat} {p1 : Int32} {p2 : Int32} (k_p0 : xlk T p0 9 = true) {q : Int32 × xS} (hf : f_X9_lose T S p0 p1 p2 = some q) : Met l yX9_lose (xws yX9_lose cX9_lose 3 (some .int)) xr_X9_lose (xPc z D dA T S [.ref (z + p0), .int p1, .int p2]) (xQi z D dA T q) 0 0 (xA z) := by
  refine x_met RX9 (by decide) rfl (Nat.le_of_ble_eq_true rfl) ?_
  intro p e s m below meth c ls _ X hr hlk hml _ hR hS hl
  have B : xB p s m _ meth c cX9_lose RX9 3 (some .int) D dA := ⟨X, hr, hlk, hml⟩
  have hl : xL ls 3 [_, _, _] := hl
  unfold f_X9_lose at hf
  refine lv_aload_n B.1.1 B.1.2.1 dX9_lose_0 rfl (hl.at 0 rfl) ?_
  refine lv_iconst (v := 2) B.1.1 B.1.2.1 dX9_lose_1 (by decide) ?_
  refine lv_iload_n B.1.1 B.1.2.1 dX9_lose_2 rfl (hl.at 1 rfl) ?_
  refine lv_iload_n B.1.1 B.1.2.1 dX9_lose_3 rfl (hl.at 2 rfl) ?_
  refine y_ci hf (fun q hq => x_runV (ci := 9) (C := RX9) B.1 B.2.2.2 hl hR hS cm_X9_199 ⟨rfl, rfl, Nat.le_of_ble_eq_true rfl, Nat.le_of_ble_eq_true rfl⟩ (by decide) rfl k_p0 (c_X9_begins k_p0 hq) rfl rfl (Nat.le_of_ble_eq_true rfl) dX9_lose_4 ⟨Nat.le_of_ble_eq_true rfl, Nat.le_of_ble_eq_true rfl⟩) hS (fun r2 S1 H locs hf hR hS => ?_)
  refine y_if_eq (tgt := 20) B hf dX9_lose_7 (by decide) (fun hf => ?_) (fun hf => ?_)
  · refine lv_iconst (v := -1) B.1.1 B.1.2.1 dX9_lose_20 (by decide) ?_
    exact y_iret B hR hS hf dX9_lose_21
  · refine lv_aload_n B.1.1 B.1.2.1 dX9_lose_10 rfl (hl.at 0 rfl) ?_
    refine lv_iconst (v := 2) B.1.1 B.1.2.1 dX9_lose_11 (by decide) ?_
    refine lv_iload_n B.1.1 B.1.2.1 dX9_lose_12 rfl (hl.at 1 rfl) ?_
    refine lv_iload_n B.1.1 B.1.2.1 dX9_lose_13 rfl (hl.at 2 rfl) ?_
    refine y_ci hf (fun q hq => x_runV (ci := 9) (C := RX9) B.1 B.2.2.2 hl hR hS cm_X9_203 ⟨rfl, rfl, Nat.le_of_ble_eq_true rfl, Nat.le_of_ble_eq_true rfl⟩ (by decide) rfl k_p0 (c_X9_perform k_p0 hq) rfl rfl (Nat.le_of_ble_eq_true rfl) dX9_lose_14 ⟨Nat.le_of_ble_eq_true rfl, Nat.le_of_ble_eq_true rfl⟩) hS (fun r4 S3 H locs hf hR hS => ?_)
    refine lv_goto (tgt := 21) B.1.1 B.1.2.1 dX9_lose_17 (by decide) ?_
    exact y_iret B hR hS hf dX9_lose_21
abbrev xr_X9_borrow : Room := { frames := 8, cells := 0, slots := 0, locals := 188 }
def f_X9_borrow (T : xT) (S : xS) (p0 : Nat) (p1 : Int32) (p2 : Int32) : Option (Int32 × xS) := xc (f_X9_begins T S p0 ((3 : Int32)) p1 p2) (fun r2 S1 => if r2 = (0 : Int32) then some ((-1 : Int32), S1) else xc (f_X9_perform T S1 p0 ((3 : Int32)) p1 p2) (fun r4 S3 => some (r4, S3)))
set_option maxRecDepth 100000 in
set_option maxHeartbeats 4000000 in
theorem c_X9_borrow {l : Launch} {z : Nat} {D : va_G} {dA : Nat → ClassId} {T : xT} {S : xS} {p0 : Nat} {p1 : Int32} {p2 : Int32} (k_p0 : xlk T p0 9 = true) {q : Int32 × xS} (hf : f_X9_borrow T S p0 p1 p2 = some q) : Met l yX9_borrow (xws yX9_borrow cX9_borrow 3 (some .int)) xr_X9_borrow (xPc z D dA T S [.ref (z + p0), .int p1, .int p2]) (xQi z D dA T q) 0 0 (xA z) := by
  refine x_met RX9 (by decide) rfl (Nat.le_of_ble_eq_true rfl) ?_
  intro p e s m below meth c ls _ X hr hlk hml _ hR hS hl
  have B : xB p s m _ meth c cX9_borrow RX9 3 (some .int) D dA := ⟨X, hr, hlk, hml⟩
  have hl : xL ls 3 [_, _, _] := hl
  unfold f_X9_borrow at hf
  refine lv_aload_n B.1.1 B.1.2.1 dX9_borrow_0 rfl (hl.at 0 rfl) ?_
  refine lv_iconst (v := 3) B.1.1 B.1.2.1 dX9_borrow_1 (by decide) ?_
  refine lv_iload_n B.1.1 B.1.2.1 dX9_borrow_2 rfl (hl.at 1 rfl) ?_
  refine lv_iload_n B.1.1 B.1.2.1 dX9_borrow_3 rfl (hl.at 2 rfl) ?_
  refine y_ci hf (fun q hq => x_runV (ci := 9) (C := RX9) B.1 B.2.2.2 hl hR hS cm_X9_199 ⟨rfl, rfl, Nat.le_of_ble_eq_true rfl, Nat.le_of_ble_eq_true rfl⟩ (by decide) rfl k_p0 (c_X9_begins k_p0 hq) rfl rfl (Nat.le_of_ble_eq_true rfl) dX9_borrow_4 ⟨Nat.le_of_ble_eq_true rfl, Nat.le_of_ble_eq_true rfl⟩) hS (fun r2 S1 H locs hf hR hS => ?_)
  refine y_if_eq (tgt := 20) B hf dX9_borrow_7 (by decide) (fun hf => ?_) (fun hf => ?_)
  · refine lv_iconst (v := -1) B.1.1 B.1.2.1 dX9_borrow_20 (by decide) ?_
    exact y_iret B hR hS hf dX9_borrow_21
  · refine lv_aload_n B.1.1 B.1.2.1 dX9_borrow_10 rfl (hl.at 0 rfl) ?_
    refine lv_iconst (v := 3) B.1.1 B.1.2.1 dX9_borrow_11 (by decide) ?_
    refine lv_iload_n B.1.1 B.1.2.1 dX9_borrow_12 rfl (hl.at 1 rfl) ?_
    refine lv_iload_n B.1.1 B.1.2.1 dX9_borrow_13 rfl (hl.at 2 rfl) ?_
    refine y_ci hf (fun q hq => x_runV (ci := 9) (C := RX9) B.1 B.2.2.2 hl hR hS cm_X9_203 ⟨rfl, rfl, Nat.le_of_ble_eq_true rfl, Nat.le_of_ble_eq_true rfl⟩ (by decide) rfl k_p0 (c_X9_perform k_p0 hq) rfl rfl (Nat.le_of_ble_eq_true rfl) dX9_borrow_14 ⟨Nat.le_of_ble_eq_true rfl, Nat.le_of_ble_eq_true rfl⟩) hS (fun r4 S3 H locs hf hR hS => ?_)
    refine lv_goto (tgt := 21) B.1.1 B.1.2.1 dX9_borrow_17 (by decide) ?_
    exact y_iret B hR hS hf dX9_borrow_21
abbrev xr_X9_repay : Room := { frames := 8, cells := 0, slots := 0, locals := 188 }
def f_X9_repay (T : xT) (S : xS) (p0 : Nat) (p1 : Int32) (p2 : Int32) : Option (Int32 × xS) := xc (f_X9_begins T S p0 ((4 : Int32)) p1 p2) (fun r2 S1 => if r2 = (0 : Int32) then some ((-1 : Int32), S1) else xc (f_X9_perform T S1 p0 ((4 : Int32)) p1 p2) (fun r4 S3 => some (r4, S3)))
set_option maxRecDepth 100000 in
set_option maxHeartbeats 4000000 in
theorem c_X9_repay {l : Launch} {z : Nat} {D : va_G} {dA : Nat → ClassId} {T : xT} {S : xS} {p0 : Nat} {p1 : Int32} {p2 : Int32} (k_p0 : xlk T p0 9 = true) {q : Int32 × xS} (hf : f_X9_repay T S p0 p1 p2 = some q) : Met l yX9_repay (xws yX9_repay cX9_repay 3 (some .int)) xr_X9_repay (xPc z D dA T S [.ref (z + p0), .int p1, .int p2]) (xQi z D dA T q) 0 0 (xA z) := by
  refine x_met RX9 (by decide) rfl (Nat.le_of_ble_eq_true rfl) ?_
  intro p e s m below meth c ls _ X hr hlk hml _ hR hS hl
  have B : xB p s m _ meth c cX9_repay RX9 3 (some .int) D dA := ⟨X, hr, hlk, hml⟩
  have hl : xL ls 3 [_, _, _] := hl
  unfold f_X9_repay at hf
  refine lv_aload_n B.1.1 B.1.2.1 dX9_repay_0 rfl (hl.at 0 rfl) ?_
  refine lv_iconst (v := 4) B.1.1 B.1.2.1 dX9_repay_1 (by decide) ?_
  refine lv_iload_n B.1.1 B.1.2.1 dX9_repay_2 rfl (hl.at 1 rfl) ?_
  refine lv_iload_n B.1.1 B.1.2.1 dX9_repay_3 rfl (hl.at 2 rfl) ?_
  refine y_ci hf (fun q hq => x_runV (ci := 9) (C := RX9) B.1 B.2.2.2 hl hR hS cm_X9_199 ⟨rfl, rfl, Nat.le_of_ble_eq_true rfl, Nat.le_of_ble_eq_true rfl⟩ (by decide) rfl k_p0 (c_X9_begins k_p0 hq) rfl rfl (Nat.le_of_ble_eq_true rfl) dX9_repay_4 ⟨Nat.le_of_ble_eq_true rfl, Nat.le_of_ble_eq_true rfl⟩) hS (fun r2 S1 H locs hf hR hS => ?_)
  refine y_if_eq (tgt := 20) B hf dX9_repay_7 (by decide) (fun hf => ?_) (fun hf => ?_)
  · refine lv_iconst (v := -1) B.1.1 B.1.2.1 dX9_repay_20 (by decide) ?_
    exact y_iret B hR hS hf dX9_repay_21
  · refine lv_aload_n B.1.1 B.1.2.1 dX9_repay_10 rfl (hl.at 0 rfl) ?_
    refine lv_iconst (v := 4) B.1.1 B.1.2.1 dX9_repay_11 (by decide) ?_
    refine lv_iload_n B.1.1 B.1.2.1 dX9_repay_12 rfl (hl.at 1 rfl) ?_
    refine lv_iload_n B.1.1 B.1.2.1 dX9_repay_13 rfl (hl.at 2 rfl) ?_
    refine y_ci hf (fun q hq => x_runV (ci := 9) (C := RX9) B.1 B.2.2.2 hl hR hS cm_X9_203 ⟨rfl, rfl, Nat.le_of_ble_eq_true rfl, Nat.le_of_ble_eq_true rfl⟩ (by decide) rfl k_p0 (c_X9_perform k_p0 hq) rfl rfl (Nat.le_of_ble_eq_true rfl) dX9_repay_14 ⟨Nat.le_of_ble_eq_true rfl, Nat.le_of_ble_eq_true rfl⟩) hS (fun r4 S3 H locs hf hR hS => ?_)
    refine lv_goto (tgt := 21) B.1.1 B.1.2.1 dX9_repay_17 (by decide) ?_
    exact y_iret B hR hS hf dX9_repay_21
