abbrev xr_X9_sale : Room := { frames := 4, cells := 0, slots := 0, locals := 89 }
def f_X9_sale (T : xT) (S : xS) (p0 : Nat) (p1 : Int32) (p2 : Int32) : Option (Int32 × xS) := if p1 < (-100000000 : Int32) then some ((-1000000000 : Int32), S) else if (100000000 : Int32) < p1 then some ((-1000000000 : Int32), S) else xgr T S p0 4 5 (fun a1 => xgr T S a1 0 1 (fun a2 => xc (f_X1_hasPartner T S a2 p2) (fun r4 S3 => if r4 = (0 : Int32) then some ((-1000000000 : Int32), S3) else xgr T S3 p0 1 2 (fun a5 => xgr T S3 p0 4 5 (fun a6 => xgr T S3 a6 0 1 (fun a7 => xgr T S3 p0 4 5 (fun a8 => xgr T S3 a8 2 8 (fun a9 => xcv (f_X2_sellAll T S3 a5 p1 a7 a9) (fun S10 => xgr T S10 p0 1 2 (fun a11 => xgr T S10 a11 0 20 (fun a12 => xai T S10 a12 p2 (fun v13 => some (v13, S10)))))))))))))
set_option maxRecDepth 100000 in
set_option maxHeartbeats 4000000 in
theorem c_X9_sale {l : Launch} {z : Nat} {D : va_G} {dA : Nat → ClassId} {T : xT} {S : xS} {p0 : Nat} {p1 : Int32} {p2 : Int32} (k_p0 : xlk T p0 9 = true) {q : Int32 × xS} (hf : f_X9_sale T S p0 p1 p2 = some q) : Met l yX9_sale (xws yX9_sale cX9_sale 3 (some .int)) xr_X9_sale (xPc z D dA T S [.ref (z + p0), .int p1, .int p2]) (xQi z D dA T q) 0 0 (xA z) := by
  refine x_met RX9 (by decide) rfl (Nat.le_of_ble_eq_true rfl) ?_
  intro p e s m below meth c ls _ X hr hlk hml _ hR hS hl
  have B : xB p s m _ meth c cX9_sale RX9 3 (some .int) D dA := ⟨X, hr, hlk, hml⟩
  have hl : xL ls 3 [_, _, _] := hl
  unfold f_X9_sale at hf
  refine lv_iload_n B.1.1 B.1.2.1 dX9_sale_0 rfl (hl.at 1 rfl) ?_
  refine lv_ldc (v := -100000000) B.1.1 B.1.2.1 B.1.2.2.1 (B.1.2.2.2.1 _ tw_549) dX9_sale_1 ?_
  refine y_icmp_lt (tgt := 26) B hf dX9_sale_3 (by decide) (fun hf => ?_) (fun hf => ?_)
  · refine lv_ldc (v := -1000000000) B.1.1 B.1.2.1 B.1.2.2.1 (B.1.2.2.2.1 _ tw_555) dX9_sale_26 ?_
    exact y_iret B hR hS hf dX9_sale_28
  · refine lv_iload_n B.1.1 B.1.2.1 dX9_sale_6 rfl (hl.at 1 rfl) ?_
    refine lv_ldc (v := 100000000) B.1.1 B.1.2.1 B.1.2.2.1 (B.1.2.2.2.1 _ tw_550) dX9_sale_7 ?_
    refine y_icmp_gt (tgt := 26) B hf dX9_sale_9 (by decide) (fun hf => ?_) (fun hf => ?_)
    · refine lv_ldc (v := -1000000000) B.1.1 B.1.2.1 B.1.2.2.1 (B.1.2.2.2.1 _ tw_555) dX9_sale_26 ?_
      exact y_iret B hR hS hf dX9_sale_28
    · refine lv_aload_n B.1.1 B.1.2.1 dX9_sale_12 rfl (hl.at 0 rfl) ?_
      refine y_getR B hR hf k_p0 fl_X9_48 dX9_sale_13 (fun a1 k_a1 hf => ?_)
      refine y_getR B hR hf k_a1 fl_X9_114 dX9_sale_16 (fun a2 k_a2 hf => ?_)
      refine lv_iload_n B.1.1 B.1.2.1 dX9_sale_19 rfl (hl.at 2 rfl) ?_
      refine y_ci hf (fun q hq => x_runV (ci := 1) (C := RX1) B.1 B.2.2.2 hl hR hS cm_X9_117 ⟨rfl, rfl, Nat.le_of_ble_eq_true rfl, Nat.le_of_ble_eq_true rfl⟩ (by decide) rfl k_a2 (c_X1_hasPartner k_a2 hq) rfl rfl (Nat.le_of_ble_eq_true rfl) dX9_sale_20 ⟨Nat.le_of_ble_eq_true rfl, Nat.le_of_ble_eq_true rfl⟩) hS (fun r4 S3 H locs hf hR hS => ?_)
      refine y_if_ne (tgt := 29) B hf dX9_sale_23 (by decide) (fun hf => ?_) (fun hf => ?_)
      · refine lv_aload_n B.1.1 B.1.2.1 dX9_sale_29 rfl (hl.at 0 rfl) ?_
        refine y_getR B hR hf k_p0 fl_X9_19 dX9_sale_30 (fun a5 k_a5 hf => ?_)
        refine lv_iload_n B.1.1 B.1.2.1 dX9_sale_33 rfl (hl.at 1 rfl) ?_
        refine lv_aload_n B.1.1 B.1.2.1 dX9_sale_34 rfl (hl.at 0 rfl) ?_
        refine y_getR B hR hf k_p0 fl_X9_48 dX9_sale_35 (fun a6 k_a6 hf => ?_)
        refine y_getR B hR hf k_a6 fl_X9_114 dX9_sale_38 (fun a7 k_a7 hf => ?_)
        refine lv_aload_n B.1.1 B.1.2.1 dX9_sale_41 rfl (hl.at 0 rfl) ?_
        refine y_getR B hR hf k_p0 fl_X9_48 dX9_sale_42 (fun a8 k_a8 hf => ?_)
        refine y_getR B hR hf k_a8 fl_X9_56 dX9_sale_45 (fun a9 k_a9 hf => ?_)
        refine y_cv hf (fun q hq => x_runV (ci := 2) (C := RX2) B.1 B.2.2.2 hl hR hS cm_X9_122 ⟨rfl, rfl, Nat.le_of_ble_eq_true rfl, Nat.le_of_ble_eq_true rfl⟩ (by decide) rfl k_a5 (c_X2_sellAll k_a5 k_a7 k_a9 hq) rfl rfl (Nat.le_of_ble_eq_true rfl) dX9_sale_48 ⟨Nat.le_of_ble_eq_true rfl, Nat.le_of_ble_eq_true rfl⟩) hS (fun S10 H locs hf hR hS => ?_)
        refine lv_aload_n B.1.1 B.1.2.1 dX9_sale_51 rfl (hl.at 0 rfl) ?_
        refine y_getR B hR hf k_p0 fl_X9_19 dX9_sale_52 (fun a11 k_a11 hf => ?_)
        refine y_getR B hR hf k_a11 fl_X9_126 dX9_sale_55 (fun a12 k_a12 hf => ?_)
        refine lv_iload_n B.1.1 B.1.2.1 dX9_sale_58 rfl (hl.at 2 rfl) ?_
        refine y_iald B hR hf k_a12 dX9_sale_59 (fun v13 hf => ?_)
        exact y_iret B hR hS hf dX9_sale_60
      · refine lv_ldc (v := -1000000000) B.1.1 B.1.2.1 B.1.2.2.1 (B.1.2.2.2.1 _ tw_555) dX9_sale_26 ?_
        exact y_iret B hR hS hf dX9_sale_28
abbrev xr_X9_is : Room := { frames := 2, cells := 0, slots := 0, locals := 34 }
def f_X9_is (T : xT) (S : xS) (p0 : Nat) (p1 : Int32) : Option (Int32 × xS) := xgr T S p0 4 5 (fun a1 => xgr T S a1 0 1 (fun a2 => if p1 = (0 : Int32) then some ((S.1 a2 4), S) else if p1 = (1 : Int32) then some ((S.1 a2 3), S) else if p1 = (2 : Int32) then some ((S.1 a2 2), S) else if p1 = (3 : Int32) then xc (f_X1_net T S a2) (fun r8 S7 => some (r8, S7)) else if p1 = (4 : Int32) then xc (f_X1_held T S a2) (fun r11 S10 => some (r11, S10)) else if p1 = (5 : Int32) then some ((S.1 a2 5), S) else if p1 = (6 : Int32) then some ((S.1 a2 0), S) else if p1 = (7 : Int32) then some ((S.1 a2 1), S) else if p1 = (8 : Int32) then xgr T S a2 6 20 (fun a16 => xc (f_X9_total T S a16) (fun r18 S17 => some (r18, S17))) else if p1 = (9 : Int32) then xgr T S a2 9 20 (fun a20 => xc (f_X9_total T S a20) (fun r22 S21 => some (r22, S21))) else if p1 = (10 : Int32) then xgr T S a2 10 20 (fun a24 => xc (f_X9_total T S a24) (fun r26 S25 => some (r26, S25))) else if p1 = (11 : Int32) then some ((S.1 p0 6), S) else if p1 = (12 : Int32) then xgr T S p0 0 3 (fun a29 => some ((S.1 a29 1), S)) else some ((-1000000000 : Int32), S)))
set_option maxRecDepth 100000 in
set_option maxHeartbeats 4000000 in
theorem c_X9_is {l : Launch} {z : Nat} {D : va_G} {dA : Nat → ClassId} {T : xT} {S : xS} {p0 : Nat} {p1 : Int32} (k_p0 : xlk T p0 9 = true) {q : Int32 × xS} (hf : f_X9_is T S p0 p1 = some q) : Met l yX9_is (xws yX9_is cX9_is 3 (some .int)) xr_X9_is (xPc z D dA T S [.ref (z + p0), .int p1]) (xQi z D dA T q) 0 0 (xA z) := by
  refine x_met RX9 (by decide) rfl (Nat.le_of_ble_eq_true rfl) ?_
  intro p e s m below meth c ls _ X hr hlk hml _ hR hS hl
  have B : xB p s m _ meth c cX9_is RX9 3 (some .int) D dA := ⟨X, hr, hlk, hml⟩
  have hl : xL ls 3 [_, _, _] := hl
  unfold f_X9_is at hf
  refine lv_aload_n B.1.1 B.1.2.1 dX9_is_0 rfl (hl.at 0 rfl) ?_
  refine y_getR B hR hf k_p0 fl_X9_48 dX9_is_1 (fun a1 k_a1 hf => ?_)
  refine y_getR B hR hf k_a1 fl_X9_114 dX9_is_4 (fun a2 k_a2 hf => ?_)
  refine y_astore_n B hl dX9_is_7 rfl (by decide) rfl (fun ls hl => ?_)
  have hl : xL ls 3 [_, _, _] := hl
  refine lv_iload_n B.1.1 B.1.2.1 dX9_is_8 rfl (hl.at 1 rfl) ?_
  refine x_if hf (fun c3 hf => ?_) (fun c3 hf => ?_)
  · refine y_tcase (k := 0) (off := 67) (tgt := 76) B c3 dX9_is_9 (by decide) (by decide) (by decide) (by decide) ?_
    refine lv_aload_n B.1.1 B.1.2.1 dX9_is_76 rfl (hl.at 2 rfl) ?_
    refine y_getI B hR k_a2 fl_X9_129 dX9_is_77 ?_
    exact y_iret B hR hS hf dX9_is_80
  refine x_if hf (fun c4 hf => ?_) (fun c4 hf => ?_)
  · refine y_tcase (k := 1) (off := 72) (tgt := 81) B c4 dX9_is_9 (by decide) (by decide) (by decide) (by decide) ?_
    refine lv_aload_n B.1.1 B.1.2.1 dX9_is_81 rfl (hl.at 2 rfl) ?_
    refine y_getI B hR k_a2 fl_X9_132 dX9_is_82 ?_
    exact y_iret B hR hS hf dX9_is_85
  refine x_if hf (fun c5 hf => ?_) (fun c5 hf => ?_)
  · refine y_tcase (k := 2) (off := 77) (tgt := 86) B c5 dX9_is_9 (by decide) (by decide) (by decide) (by decide) ?_
    refine lv_aload_n B.1.1 B.1.2.1 dX9_is_86 rfl (hl.at 2 rfl) ?_
    refine y_getI B hR k_a2 fl_X9_135 dX9_is_87 ?_
    exact y_iret B hR hS hf dX9_is_90
  refine x_if hf (fun c6 hf => ?_) (fun c6 hf => ?_)
  · refine y_tcase (k := 3) (off := 82) (tgt := 91) B c6 dX9_is_9 (by decide) (by decide) (by decide) (by decide) ?_
    refine lv_aload_n B.1.1 B.1.2.1 dX9_is_91 rfl (hl.at 2 rfl) ?_
    refine y_ci hf (fun q hq => x_runV (ci := 1) (C := RX1) B.1 B.2.2.2 hl hR hS cm_X9_138 ⟨rfl, rfl, Nat.le_of_ble_eq_true rfl, Nat.le_of_ble_eq_true rfl⟩ (by decide) rfl k_a2 (c_X1_net k_a2 hq) rfl rfl (Nat.le_of_ble_eq_true rfl) dX9_is_92 ⟨Nat.le_of_ble_eq_true rfl, Nat.le_of_ble_eq_true rfl⟩) hS (fun r8 S7 H locs hf hR hS => ?_)
    exact y_iret B hR hS hf dX9_is_95
  refine x_if hf (fun c9 hf => ?_) (fun c9 hf => ?_)
  · refine y_tcase (k := 4) (off := 87) (tgt := 96) B c9 dX9_is_9 (by decide) (by decide) (by decide) (by decide) ?_
    refine lv_aload_n B.1.1 B.1.2.1 dX9_is_96 rfl (hl.at 2 rfl) ?_
    refine y_ci hf (fun q hq => x_runV (ci := 1) (C := RX1) B.1 B.2.2.2 hl hR hS cm_X9_142 ⟨rfl, rfl, Nat.le_of_ble_eq_true rfl, Nat.le_of_ble_eq_true rfl⟩ (by decide) rfl k_a2 (c_X1_held k_a2 hq) rfl rfl (Nat.le_of_ble_eq_true rfl) dX9_is_97 ⟨Nat.le_of_ble_eq_true rfl, Nat.le_of_ble_eq_true rfl⟩) hS (fun r11 S10 H locs hf hR hS => ?_)
    exact y_iret B hR hS hf dX9_is_100
  refine x_if hf (fun c12 hf => ?_) (fun c12 hf => ?_)
  · refine y_tcase (k := 5) (off := 92) (tgt := 101) B c12 dX9_is_9 (by decide) (by decide) (by decide) (by decide) ?_
    refine lv_aload_n B.1.1 B.1.2.1 dX9_is_101 rfl (hl.at 2 rfl) ?_
    refine y_getI B hR k_a2 fl_X9_145 dX9_is_102 ?_
    exact y_iret B hR hS hf dX9_is_105
  refine x_if hf (fun c13 hf => ?_) (fun c13 hf => ?_)
  · refine y_tcase (k := 6) (off := 97) (tgt := 106) B c13 dX9_is_9 (by decide) (by decide) (by decide) (by decide) ?_
    refine lv_aload_n B.1.1 B.1.2.1 dX9_is_106 rfl (hl.at 2 rfl) ?_
    refine y_getI B hR k_a2 fl_X9_148 dX9_is_107 ?_
    exact y_iret B hR hS hf dX9_is_110
  refine x_if hf (fun c14 hf => ?_) (fun c14 hf => ?_)
  · refine y_tcase (k := 7) (off := 102) (tgt := 111) B c14 dX9_is_9 (by decide) (by decide) (by decide) (by decide) ?_
    refine lv_aload_n B.1.1 B.1.2.1 dX9_is_111 rfl (hl.at 2 rfl) ?_
    refine y_getI B hR k_a2 fl_X9_151 dX9_is_112 ?_
    exact y_iret B hR hS hf dX9_is_115
  refine x_if hf (fun c15 hf => ?_) (fun c15 hf => ?_)
  · refine y_tcase (k := 8) (off := 107) (tgt := 116) B c15 dX9_is_9 (by decide) (by decide) (by decide) (by decide) ?_
    refine lv_aload_n B.1.1 B.1.2.1 dX9_is_116 rfl (hl.at 2 rfl) ?_
    refine y_getR B hR hf k_a2 fl_X9_154 dX9_is_117 (fun a16 k_a16 hf => ?_)
    refine y_ci hf (fun q hq => y_runS B.1 B.2.2.2 hl hR hS cm_X9_157 ⟨rfl, rfl, Nat.le_of_ble_eq_true rfl, Nat.le_of_ble_eq_true rfl⟩ (c_X9_total k_a16 hq) rfl rfl (Nat.le_of_ble_eq_true rfl) dX9_is_120 ⟨Nat.le_of_ble_eq_true rfl, Nat.le_of_ble_eq_true rfl⟩) hS (fun r18 S17 H locs hf hR hS => ?_)
    exact y_iret B hR hS hf dX9_is_123
  refine x_if hf (fun c19 hf => ?_) (fun c19 hf => ?_)
  · refine y_tcase (k := 9) (off := 115) (tgt := 124) B c19 dX9_is_9 (by decide) (by decide) (by decide) (by decide) ?_
    refine lv_aload_n B.1.1 B.1.2.1 dX9_is_124 rfl (hl.at 2 rfl) ?_
    refine y_getR B hR hf k_a2 fl_X9_161 dX9_is_125 (fun a20 k_a20 hf => ?_)
    refine y_ci hf (fun q hq => y_runS B.1 B.2.2.2 hl hR hS cm_X9_157 ⟨rfl, rfl, Nat.le_of_ble_eq_true rfl, Nat.le_of_ble_eq_true rfl⟩ (c_X9_total k_a20 hq) rfl rfl (Nat.le_of_ble_eq_true rfl) dX9_is_128 ⟨Nat.le_of_ble_eq_true rfl, Nat.le_of_ble_eq_true rfl⟩) hS (fun r22 S21 H locs hf hR hS => ?_)
    exact y_iret B hR hS hf dX9_is_131
  refine x_if hf (fun c23 hf => ?_) (fun c23 hf => ?_)
  · refine y_tcase (k := 10) (off := 123) (tgt := 132) B c23 dX9_is_9 (by decide) (by decide) (by decide) (by decide) ?_
    refine lv_aload_n B.1.1 B.1.2.1 dX9_is_132 rfl (hl.at 2 rfl) ?_
    refine y_getR B hR hf k_a2 fl_X9_164 dX9_is_133 (fun a24 k_a24 hf => ?_)
    refine y_ci hf (fun q hq => y_runS B.1 B.2.2.2 hl hR hS cm_X9_157 ⟨rfl, rfl, Nat.le_of_ble_eq_true rfl, Nat.le_of_ble_eq_true rfl⟩ (c_X9_total k_a24 hq) rfl rfl (Nat.le_of_ble_eq_true rfl) dX9_is_136 ⟨Nat.le_of_ble_eq_true rfl, Nat.le_of_ble_eq_true rfl⟩) hS (fun r26 S25 H locs hf hR hS => ?_)
    exact y_iret B hR hS hf dX9_is_139
  refine x_if hf (fun c27 hf => ?_) (fun c27 hf => ?_)
  · refine y_tcase (k := 11) (off := 131) (tgt := 140) B c27 dX9_is_9 (by decide) (by decide) (by decide) (by decide) ?_
    refine lv_aload_n B.1.1 B.1.2.1 dX9_is_140 rfl (hl.at 0 rfl) ?_
    refine y_getI B hR k_p0 fl_X9_167 dX9_is_141 ?_
    exact y_iret B hR hS hf dX9_is_144
  refine x_if hf (fun c28 hf => ?_) (fun c28 hf => ?_)
  · refine y_tcase (k := 12) (off := 136) (tgt := 145) B c28 dX9_is_9 (by decide) (by decide) (by decide) (by decide) ?_
    refine lv_aload_n B.1.1 B.1.2.1 dX9_is_145 rfl (hl.at 0 rfl) ?_
    refine y_getR B hR hf k_p0 fl_X9_10 dX9_is_146 (fun a29 k_a29 hf => ?_)
    refine y_getI B hR k_a29 fl_X9_85 dX9_is_149 ?_
    exact y_iret B hR hS hf dX9_is_152
  have n0 := lv_neT c3 (a := 0) (by decide)
  have n1 := lv_neT c4 (a := 1) (by decide)
  have n2 := lv_neT c5 (a := 2) (by decide)
  have n3 := lv_neT c6 (a := 3) (by decide)
  have n4 := lv_neT c9 (a := 4) (by decide)
  have n5 := lv_neT c12 (a := 5) (by decide)
  have n6 := lv_neT c13 (a := 6) (by decide)
  have n7 := lv_neT c14 (a := 7) (by decide)
  have n8 := lv_neT c15 (a := 8) (by decide)
  have n9 := lv_neT c19 (a := 9) (by decide)
  have n10 := lv_neT c23 (a := 10) (by decide)
  have n11 := lv_neT c27 (a := 11) (by decide)
  have n12 := lv_neT c28 (a := 12) (by decide)
  refine y_tdef (tgt := 153) B dX9_is_9 (by omega) (by decide) ?_
  refine lv_ldc (v := -1000000000) B.1.1 B.1.2.1 B.1.2.2.1 (B.1.2.2.2.1 _ tw_555) dX9_is_153 ?_
  exact y_iret B hR hS hf dX9_is_155
abbrev xr_X9_partner : Room := { frames := 5, cells := 0, slots := 0, locals := 113 }
def f_X9_partner (T : xT) (S : xS) (p0 : Nat) (p1 : Int32) (p2 : Int32) : Option (Int32 × xS) := xgr T S p0 4 5 (fun a1 => xgr T S a1 0 1 (fun a2 => xc (f_X1_hasPartner T S a2 p1) (fun r4 S3 => if r4 = (0 : Int32) then some ((-1000000000 : Int32), S3) else if p2 = (0 : Int32) then xgr T S3 a2 6 20 (fun a6 => xai T S3 a6 p1 (fun v7 => some (v7, S3))) else if p2 = (1 : Int32) then xgr T S3 a2 7 20 (fun a9 => xai T S3 a9 p1 (fun v10 => some (v10, S3))) else if p2 = (2 : Int32) then xgr T S3 a2 8 20 (fun a12 => xai T S3 a12 p1 (fun v13 => some (v13, S3))) else if p2 = (3 : Int32) then xgr T S3 a2 9 20 (fun a15 => xai T S3 a15 p1 (fun v16 => some (v16, S3))) else if p2 = (4 : Int32) then xgr T S3 a2 10 20 (fun a18 => xai T S3 a18 p1 (fun v19 => some (v19, S3))) else if p2 = (5 : Int32) then xc (f_X1_floorOf T S3 a2 p1) (fun r22 S21 => some (r22, S21)) else if p2 = (6 : Int32) then xgr T S3 p0 1 2 (fun a24 => xgr T S3 p0 4 5 (fun a25 => xgr T S3 a25 2 8 (fun a26 => xcv (f_X2_measureGaps T S3 a24 a2 a26 ((S3.1 a2 3))) (fun S27 => xgr T S27 p0 1 2 (fun a28 => xgr T S27 a28 1 20 (fun a29 => xai T S27 a29 p1 (fun v30 => some (v30, S27)))))))) else some ((-1000000000 : Int32), S3))))
set_option maxRecDepth 100000 in
set_option maxHeartbeats 4000000 in
theorem c_X9_partner {l : Launch} {z : Nat} {D : va_G} {dA : Nat → ClassId} {T : xT} {S : xS} {p0 : Nat} {p1 : Int32} {p2 : Int32} (k_p0 : xlk T p0 9 = true) {q : Int32 × xS} (hf : f_X9_partner T S p0 p1 p2 = some q) : Met l yX9_partner (xws yX9_partner cX9_partner 4 (some .int)) xr_X9_partner (xPc z D dA T S [.ref (z + p0), .int p1, .int p2]) (xQi z D dA T q) 0 0 (xA z) := by
  refine x_met RX9 (by decide) rfl (Nat.le_of_ble_eq_true rfl) ?_
  intro p e s m below meth c ls _ X hr hlk hml _ hR hS hl
  have B : xB p s m _ meth c cX9_partner RX9 4 (some .int) D dA := ⟨X, hr, hlk, hml⟩
  have hl : xL ls 4 [_, _, _, _] := hl
  unfold f_X9_partner at hf
  refine lv_aload_n B.1.1 B.1.2.1 dX9_partner_0 rfl (hl.at 0 rfl) ?_
  refine y_getR B hR hf k_p0 fl_X9_48 dX9_partner_1 (fun a1 k_a1 hf => ?_)
  refine y_getR B hR hf k_a1 fl_X9_114 dX9_partner_4 (fun a2 k_a2 hf => ?_)
  refine y_astore_n B hl dX9_partner_7 rfl (by decide) rfl (fun ls hl => ?_)
  have hl : xL ls 4 [_, _, _, _] := hl
  refine lv_aload_n B.1.1 B.1.2.1 dX9_partner_8 rfl (hl.at 3 rfl) ?_
  refine lv_iload_n B.1.1 B.1.2.1 dX9_partner_9 rfl (hl.at 1 rfl) ?_
  refine y_ci hf (fun q hq => x_runV (ci := 1) (C := RX1) B.1 B.2.2.2 hl hR hS cm_X9_117 ⟨rfl, rfl, Nat.le_of_ble_eq_true rfl, Nat.le_of_ble_eq_true rfl⟩ (by decide) rfl k_a2 (c_X1_hasPartner k_a2 hq) rfl rfl (Nat.le_of_ble_eq_true rfl) dX9_partner_10 ⟨Nat.le_of_ble_eq_true rfl, Nat.le_of_ble_eq_true rfl⟩) hS (fun r4 S3 H locs hf hR hS => ?_)
  refine y_if_ne (tgt := 19) B hf dX9_partner_13 (by decide) (fun hf => ?_) (fun hf => ?_)
  · refine lv_iload_n B.1.1 B.1.2.1 dX9_partner_19 rfl (hl.at 2 rfl) ?_
    refine x_if hf (fun c5 hf => ?_) (fun c5 hf => ?_)
    · refine y_tcase (k := 0) (off := 44) (tgt := 64) B c5 dX9_partner_20 (by decide) (by decide) (by decide) (by decide) ?_
      refine lv_aload_n B.1.1 B.1.2.1 dX9_partner_64 rfl (hl.at 3 rfl) ?_
      refine y_getR B hR hf k_a2 fl_X9_154 dX9_partner_65 (fun a6 k_a6 hf => ?_)
      refine lv_iload_n B.1.1 B.1.2.1 dX9_partner_68 rfl (hl.at 1 rfl) ?_
      refine y_iald B hR hf k_a6 dX9_partner_69 (fun v7 hf => ?_)
      exact y_iret B hR hS hf dX9_partner_70
    refine x_if hf (fun c8 hf => ?_) (fun c8 hf => ?_)
    · refine y_tcase (k := 1) (off := 51) (tgt := 71) B c8 dX9_partner_20 (by decide) (by decide) (by decide) (by decide) ?_
      refine lv_aload_n B.1.1 B.1.2.1 dX9_partner_71 rfl (hl.at 3 rfl) ?_
      refine y_getR B hR hf k_a2 fl_X9_170 dX9_partner_72 (fun a9 k_a9 hf => ?_)
      refine lv_iload_n B.1.1 B.1.2.1 dX9_partner_75 rfl (hl.at 1 rfl) ?_
      refine y_iald B hR hf k_a9 dX9_partner_76 (fun v10 hf => ?_)
      exact y_iret B hR hS hf dX9_partner_77
    refine x_if hf (fun c11 hf => ?_) (fun c11 hf => ?_)
    · refine y_tcase (k := 2) (off := 58) (tgt := 78) B c11 dX9_partner_20 (by decide) (by decide) (by decide) (by decide) ?_
      refine lv_aload_n B.1.1 B.1.2.1 dX9_partner_78 rfl (hl.at 3 rfl) ?_
      refine y_getR B hR hf k_a2 fl_X9_173 dX9_partner_79 (fun a12 k_a12 hf => ?_)
      refine lv_iload_n B.1.1 B.1.2.1 dX9_partner_82 rfl (hl.at 1 rfl) ?_
      refine y_iald B hR hf k_a12 dX9_partner_83 (fun v13 hf => ?_)
      exact y_iret B hR hS hf dX9_partner_84
    refine x_if hf (fun c14 hf => ?_) (fun c14 hf => ?_)
    · refine y_tcase (k := 3) (off := 65) (tgt := 85) B c14 dX9_partner_20 (by decide) (by decide) (by decide) (by decide) ?_
      refine lv_aload_n B.1.1 B.1.2.1 dX9_partner_85 rfl (hl.at 3 rfl) ?_
      refine y_getR B hR hf k_a2 fl_X9_161 dX9_partner_86 (fun a15 k_a15 hf => ?_)
      refine lv_iload_n B.1.1 B.1.2.1 dX9_partner_89 rfl (hl.at 1 rfl) ?_
      refine y_iald B hR hf k_a15 dX9_partner_90 (fun v16 hf => ?_)
      exact y_iret B hR hS hf dX9_partner_91
    refine x_if hf (fun c17 hf => ?_) (fun c17 hf => ?_)
    · refine y_tcase (k := 4) (off := 72) (tgt := 92) B c17 dX9_partner_20 (by decide) (by decide) (by decide) (by decide) ?_
      refine lv_aload_n B.1.1 B.1.2.1 dX9_partner_92 rfl (hl.at 3 rfl) ?_
      refine y_getR B hR hf k_a2 fl_X9_164 dX9_partner_93 (fun a18 k_a18 hf => ?_)
      refine lv_iload_n B.1.1 B.1.2.1 dX9_partner_96 rfl (hl.at 1 rfl) ?_
      refine y_iald B hR hf k_a18 dX9_partner_97 (fun v19 hf => ?_)
      exact y_iret B hR hS hf dX9_partner_98
    refine x_if hf (fun c20 hf => ?_) (fun c20 hf => ?_)
    · refine y_tcase (k := 5) (off := 79) (tgt := 99) B c20 dX9_partner_20 (by decide) (by decide) (by decide) (by decide) ?_
      refine lv_aload_n B.1.1 B.1.2.1 dX9_partner_99 rfl (hl.at 3 rfl) ?_
      refine lv_iload_n B.1.1 B.1.2.1 dX9_partner_100 rfl (hl.at 1 rfl) ?_
      refine y_ci hf (fun q hq => x_runV (ci := 1) (C := RX1) B.1 B.2.2.2 hl hR hS cm_X9_176 ⟨rfl, rfl, Nat.le_of_ble_eq_true rfl, Nat.le_of_ble_eq_true rfl⟩ (by decide) rfl k_a2 (c_X1_floorOf k_a2 hq) rfl rfl (Nat.le_of_ble_eq_true rfl) dX9_partner_101 ⟨Nat.le_of_ble_eq_true rfl, Nat.le_of_ble_eq_true rfl⟩) hS (fun r22 S21 H locs hf hR hS => ?_)
      exact y_iret B hR hS hf dX9_partner_104
    refine x_if hf (fun c23 hf => ?_) (fun c23 hf => ?_)
    · refine y_tcase (k := 6) (off := 85) (tgt := 105) B c23 dX9_partner_20 (by decide) (by decide) (by decide) (by decide) ?_
      refine lv_aload_n B.1.1 B.1.2.1 dX9_partner_105 rfl (hl.at 0 rfl) ?_
      refine y_getR B hR hf k_p0 fl_X9_19 dX9_partner_106 (fun a24 k_a24 hf => ?_)
      refine lv_aload_n B.1.1 B.1.2.1 dX9_partner_109 rfl (hl.at 3 rfl) ?_
      refine lv_aload_n B.1.1 B.1.2.1 dX9_partner_110 rfl (hl.at 0 rfl) ?_
      refine y_getR B hR hf k_p0 fl_X9_48 dX9_partner_111 (fun a25 k_a25 hf => ?_)
      refine y_getR B hR hf k_a25 fl_X9_56 dX9_partner_114 (fun a26 k_a26 hf => ?_)
      refine lv_aload_n B.1.1 B.1.2.1 dX9_partner_117 rfl (hl.at 3 rfl) ?_
      refine y_getI B hR k_a2 fl_X9_132 dX9_partner_118 ?_
      refine y_cv hf (fun q hq => x_runV (ci := 2) (C := RX2) B.1 B.2.2.2 hl hR hS cm_X9_180 ⟨rfl, rfl, Nat.le_of_ble_eq_true rfl, Nat.le_of_ble_eq_true rfl⟩ (by decide) rfl k_a24 (c_X2_measureGaps k_a24 k_a2 k_a26 hq) rfl rfl (Nat.le_of_ble_eq_true rfl) dX9_partner_121 ⟨Nat.le_of_ble_eq_true rfl, Nat.le_of_ble_eq_true rfl⟩) hS (fun S27 H locs hf hR hS => ?_)
      refine lv_aload_n B.1.1 B.1.2.1 dX9_partner_124 rfl (hl.at 0 rfl) ?_
      refine y_getR B hR hf k_p0 fl_X9_19 dX9_partner_125 (fun a28 k_a28 hf => ?_)
      refine y_getR B hR hf k_a28 fl_X9_184 dX9_partner_128 (fun a29 k_a29 hf => ?_)
      refine lv_iload_n B.1.1 B.1.2.1 dX9_partner_131 rfl (hl.at 1 rfl) ?_
      refine y_iald B hR hf k_a29 dX9_partner_132 (fun v30 hf => ?_)
      exact y_iret B hR hS hf dX9_partner_133
    have n0 := lv_neT c5 (a := 0) (by decide)
    have n1 := lv_neT c8 (a := 1) (by decide)
    have n2 := lv_neT c11 (a := 2) (by decide)
    have n3 := lv_neT c14 (a := 3) (by decide)
    have n4 := lv_neT c17 (a := 4) (by decide)
    have n5 := lv_neT c20 (a := 5) (by decide)
    have n6 := lv_neT c23 (a := 6) (by decide)
    refine y_tdef (tgt := 134) B dX9_partner_20 (by omega) (by decide) ?_
    refine lv_ldc (v := -1000000000) B.1.1 B.1.2.1 B.1.2.2.1 (B.1.2.2.2.1 _ tw_555) dX9_partner_134 ?_
    exact y_iret B hR hS hf dX9_partner_136
  · refine lv_ldc (v := -1000000000) B.1.1 B.1.2.1 B.1.2.2.1 (B.1.2.2.2.1 _ tw_555) dX9_partner_16 ?_
    exact y_iret B hR hS hf dX9_partner_18
abbrev xr_X9_asset : Room := { frames := 2, cells := 0, slots := 0, locals := 33 }
def f_X9_asset (T : xT) (S : xS) (p0 : Nat) (p1 : Int32) (p2 : Int32) : Option (Int32 × xS) := xgr T S p0 4 5 (fun a1 => xgr T S a1 0 1 (fun a2 => xc (f_X1_hasAsset T S a2 p1) (fun r4 S3 => if r4 = (0 : Int32) then some ((-1 : Int32), S3) else if p2 = (0 : Int32) then xgr T S3 a2 11 20 (fun a6 => xai T S3 a6 p1 (fun v7 => some (v7, S3))) else if p2 = (1 : Int32) then xgr T S3 a2 12 20 (fun a9 => xai T S3 a9 p1 (fun v10 => some (v10, S3))) else if p2 = (2 : Int32) then xgr T S3 a2 13 20 (fun a12 => xai T S3 a12 p1 (fun v13 => some (v13, S3))) else some ((-1 : Int32), S3))))
set_option maxRecDepth 100000 in
set_option maxHeartbeats 4000000 in
theorem c_X9_asset {l : Launch} {z : Nat} {D : va_G} {dA : Nat → ClassId} {T : xT} {S : xS} {p0 : Nat} {p1 : Int32} {p2 : Int32} (k_p0 : xlk T p0 9 = true) {q : Int32 × xS} (hf : f_X9_asset T S p0 p1 p2 = some q) : Met l yX9_asset (xws yX9_asset cX9_asset 4 (some .int)) xr_X9_asset (xPc z D dA T S [.ref (z + p0), .int p1, .int p2]) (xQi z D dA T q) 0 0 (xA z) := by
  refine x_met RX9 (by decide) rfl (Nat.le_of_ble_eq_true rfl) ?_
  intro p e s m below meth c ls _ X hr hlk hml _ hR hS hl
  have B : xB p s m _ meth c cX9_asset RX9 4 (some .int) D dA := ⟨X, hr, hlk, hml⟩
  have hl : xL ls 4 [_, _, _, _] := hl
  unfold f_X9_asset at hf
  refine lv_aload_n B.1.1 B.1.2.1 dX9_asset_0 rfl (hl.at 0 rfl) ?_
  refine y_getR B hR hf k_p0 fl_X9_48 dX9_asset_1 (fun a1 k_a1 hf => ?_)
  refine y_getR B hR hf k_a1 fl_X9_114 dX9_asset_4 (fun a2 k_a2 hf => ?_)
  refine y_astore_n B hl dX9_asset_7 rfl (by decide) rfl (fun ls hl => ?_)
  have hl : xL ls 4 [_, _, _, _] := hl
  refine lv_aload_n B.1.1 B.1.2.1 dX9_asset_8 rfl (hl.at 3 rfl) ?_
  refine lv_iload_n B.1.1 B.1.2.1 dX9_asset_9 rfl (hl.at 1 rfl) ?_
  refine y_ci hf (fun q hq => x_runV (ci := 1) (C := RX1) B.1 B.2.2.2 hl hR hS cm_X9_187 ⟨rfl, rfl, Nat.le_of_ble_eq_true rfl, Nat.le_of_ble_eq_true rfl⟩ (by decide) rfl k_a2 (c_X1_hasAsset k_a2 hq) rfl rfl (Nat.le_of_ble_eq_true rfl) dX9_asset_10 ⟨Nat.le_of_ble_eq_true rfl, Nat.le_of_ble_eq_true rfl⟩) hS (fun r4 S3 H locs hf hR hS => ?_)
  refine y_if_ne (tgt := 18) B hf dX9_asset_13 (by decide) (fun hf => ?_) (fun hf => ?_)
  · refine lv_iload_n B.1.1 B.1.2.1 dX9_asset_18 rfl (hl.at 2 rfl) ?_
    refine x_if hf (fun c5 hf => ?_) (fun c5 hf => ?_)
    · refine y_tcase (k := 0) (off := 25) (tgt := 44) B c5 dX9_asset_19 (by decide) (by decide) (by decide) (by decide) ?_
      refine lv_aload_n B.1.1 B.1.2.1 dX9_asset_44 rfl (hl.at 3 rfl) ?_
      refine y_getR B hR hf k_a2 fl_X9_190 dX9_asset_45 (fun a6 k_a6 hf => ?_)
      refine lv_iload_n B.1.1 B.1.2.1 dX9_asset_48 rfl (hl.at 1 rfl) ?_
      refine y_iald B hR hf k_a6 dX9_asset_49 (fun v7 hf => ?_)
      exact y_iret B hR hS hf dX9_asset_50
    refine x_if hf (fun c8 hf => ?_) (fun c8 hf => ?_)
    · refine y_tcase (k := 1) (off := 32) (tgt := 51) B c8 dX9_asset_19 (by decide) (by decide) (by decide) (by decide) ?_
      refine lv_aload_n B.1.1 B.1.2.1 dX9_asset_51 rfl (hl.at 3 rfl) ?_
      refine y_getR B hR hf k_a2 fl_X9_193 dX9_asset_52 (fun a9 k_a9 hf => ?_)
      refine lv_iload_n B.1.1 B.1.2.1 dX9_asset_55 rfl (hl.at 1 rfl) ?_
      refine y_iald B hR hf k_a9 dX9_asset_56 (fun v10 hf => ?_)
      exact y_iret B hR hS hf dX9_asset_57
    refine x_if hf (fun c11 hf => ?_) (fun c11 hf => ?_)
    · refine y_tcase (k := 2) (off := 39) (tgt := 58) B c11 dX9_asset_19 (by decide) (by decide) (by decide) (by decide) ?_
      refine lv_aload_n B.1.1 B.1.2.1 dX9_asset_58 rfl (hl.at 3 rfl) ?_
      refine y_getR B hR hf k_a2 fl_X9_196 dX9_asset_59 (fun a12 k_a12 hf => ?_)
      refine lv_iload_n B.1.1 B.1.2.1 dX9_asset_62 rfl (hl.at 1 rfl) ?_
      refine y_iald B hR hf k_a12 dX9_asset_63 (fun v13 hf => ?_)
      exact y_iret B hR hS hf dX9_asset_64
    have n0 := lv_neT c5 (a := 0) (by decide)
    have n1 := lv_neT c8 (a := 1) (by decide)
    have n2 := lv_neT c11 (a := 2) (by decide)
    refine y_tdef (tgt := 65) B dX9_asset_19 (by omega) (by decide) ?_
    refine lv_iconst (v := -1) B.1.1 B.1.2.1 dX9_asset_65 (by decide) ?_
    exact y_iret B hR hS hf dX9_asset_66
  · refine lv_iconst (v := -1) B.1.1 B.1.2.1 dX9_asset_16 (by decide) ?_
    exact y_iret B hR hS hf dX9_asset_17
abbrev xr_X9_isSum : Room := { frames := 1, cells := 0, slots := 0, locals := 12 }
def f_X9_isSum (T : xT) (S : xS) (p0 : Int32) : Option (Int32 × xS) := if p0 < (0 : Int32) then some ((0 : Int32), S) else if (1000000 : Int32) < p0 then some ((0 : Int32), S) else some ((1 : Int32), S)
set_option maxRecDepth 100000 in
set_option maxHeartbeats 4000000 in
theorem c_X9_isSum {l : Launch} {z : Nat} {D : va_G} {dA : Nat → ClassId} {T : xT} {S : xS} {p0 : Int32} {q : Int32 × xS} (hf : f_X9_isSum T S p0 = some q) : Met l yX9_isSum (xws yX9_isSum cX9_isSum 1 (some .boolean)) xr_X9_isSum (xPc z D dA T S [.int p0]) (xQi z D dA T q) 0 0 (xA z) := by
  refine x_met RX9 (by decide) rfl (Nat.le_of_ble_eq_true rfl) ?_
  intro p e s m below meth c ls _ X hr hlk hml _ hR hS hl
  have B : xB p s m _ meth c cX9_isSum RX9 1 (some .boolean) D dA := ⟨X, hr, hlk, hml⟩
  have hl : xL ls 1 [_] := hl
  unfold f_X9_isSum at hf
  refine lv_iload_n B.1.1 B.1.2.1 dX9_isSum_0 rfl (hl.at 0 rfl) ?_
  refine y_if_lt (tgt := 15) B hf dX9_isSum_1 (by decide) (fun hf => ?_) (fun hf => ?_)
  · refine lv_iconst (v := 0) B.1.1 B.1.2.1 dX9_isSum_15 (by decide) ?_
    exact y_zretK B hR hS hf rfl dX9_isSum_16
  · refine lv_iload_n B.1.1 B.1.2.1 dX9_isSum_4 rfl (hl.at 0 rfl) ?_
    refine lv_ldcw (v := 1000000) B.1.1 B.1.2.1 B.1.2.2.1 (B.1.2.2.2.1 _ tw_635) dX9_isSum_5 ?_
    refine y_icmp_gt (tgt := 15) B hf dX9_isSum_8 (by decide) (fun hf => ?_) (fun hf => ?_)
    · refine lv_iconst (v := 0) B.1.1 B.1.2.1 dX9_isSum_15 (by decide) ?_
      exact y_zretK B hR hS hf rfl dX9_isSum_16
    · refine lv_iconst (v := 1) B.1.1 B.1.2.1 dX9_isSum_11 (by decide) ?_
      refine lv_goto (tgt := 16) B.1.1 B.1.2.1 dX9_isSum_12 (by decide) ?_
      exact y_zretK B hR hS hf rfl dX9_isSum_16
abbrev xr_X9_isAllowed : Room := { frames := 2, cells := 0, slots := 0, locals := 33 }
def f_X9_isAllowed (T : xT) (S : xS) (p0 : Nat) (p1 : Int32) (p2 : Int32) (p3 : Int32) : Option (Int32 × xS) := xgr T S p0 4 5 (fun a1 => xgr T S a1 0 1 (fun a2 => if p1 = (0 : Int32) then if (S.1 a2 0) = (0 : Int32) then some ((0 : Int32), S) else some ((1 : Int32), S) else if p1 = (1 : Int32) then if p3 < (-1000000 : Int32) then some ((0 : Int32), S) else if (1000000 : Int32) < p3 then some ((0 : Int32), S) else some ((1 : Int32), S) else if p1 = (2 : Int32) then xc (f_X1_hasAsset T S a2 p2) (fun r7 S6 => if r7 = (0 : Int32) then some ((0 : Int32), S6) else if p3 < (1 : Int32) then some ((0 : Int32), S6) else xgr T S6 a2 11 20 (fun a8 => xai T S6 a8 p2 (fun v9 => if v9 < p3 then some ((0 : Int32), S6) else some ((1 : Int32), S6)))) else if p1 = (3 : Int32) then xc (f_X1_hasAsset T S a2 p2) (fun r12 S11 => if r12 = (0 : Int32) then some ((0 : Int32), S11) else if p3 < (1 : Int32) then some ((0 : Int32), S11) else xgr T S11 a2 13 20 (fun a13 => xai T S11 a13 p2 (fun v14 => if ((1000000 : Int32) - v14) < p3 then some ((0 : Int32), S11) else some ((1 : Int32), S11)))) else if p1 = (4 : Int32) then xc (f_X1_hasAsset T S a2 p2) (fun r17 S16 => if r17 = (0 : Int32) then some ((0 : Int32), S16) else if p3 < (1 : Int32) then some ((0 : Int32), S16) else xgr T S16 a2 13 20 (fun a18 => xai T S16 a18 p2 (fun v19 => if v19 < p3 then some ((0 : Int32), S16) else some ((1 : Int32), S16)))) else if p1 = (5 : Int32) then xc (f_X1_hasAsset T S a2 p2) (fun r22 S21 => if r22 = (0 : Int32) then some ((0 : Int32), S21) else xc (f_X9_isSum T S21 p3) (fun r24 S23 => if r24 = (0 : Int32) then some ((0 : Int32), S23) else some ((1 : Int32), S23))) else if p1 = (6 : Int32) then xc (f_X1_hasPartner T S a2 p2) (fun r27 S26 => if r27 = (0 : Int32) then some ((0 : Int32), S26) else if p3 = (0 : Int32) then some ((0 : Int32), S26) else xc (f_X9_isSum T S26 p3) (fun r29 S28 => if r29 = (0 : Int32) then some ((0 : Int32), S28) else some ((1 : Int32), S28))) else if p1 = (7 : Int32) then xc (f_X1_hasPartner T S a2 p2) (fun r32 S31 => if r32 = (0 : Int32) then some ((0 : Int32), S31) else if p3 = (0 : Int32) then some ((0 : Int32), S31) else xc (f_X9_isSum T S31 p3) (fun r34 S33 => if r34 = (0 : Int32) then some ((0 : Int32), S33) else some ((1 : Int32), S33))) else if p1 = (8 : Int32) then if p2 < (0 : Int32) then some ((0 : Int32), S) else if (8 : Int32) ≤ p2 then some ((0 : Int32), S) else xc (f_X1_hasPartner T S a2 p2) (fun r37 S36 => if r37 = (0 : Int32) then xc (f_X9_isSum T S36 p3) (fun r39 S38 => if r39 = (0 : Int32) then some ((0 : Int32), S38) else if (S38.1 a2 3) = (0 : Int32) then some ((1 : Int32), S38) else some ((0 : Int32), S38)) else some ((0 : Int32), S36)) else if p1 = (9 : Int32) then xc (f_X1_hasPartner T S a2 p2) (fun r42 S41 => if r42 = (0 : Int32) then some ((0 : Int32), S41) else if (S41.1 a2 0) = ((1 : Int32) <<< (p2 &&& 31)) then some ((0 : Int32), S41) else if (S41.1 a2 3) = (0 : Int32) then some ((1 : Int32), S41) else some ((0 : Int32), S41)) else if p1 = (10 : Int32) then xc (f_X1_hasPartner T S a2 p2) (fun r45 S44 => if r45 = (0 : Int32) then some ((0 : Int32), S44) else if p3 < (0 : Int32) then some ((0 : Int32), S44) else if (100000 : Int32) < p3 then some ((0 : Int32), S44) else some ((1 : Int32), S44)) else if p1 = (11 : Int32) then xc (f_X1_hasPartner T S a2 p2) (fun r48 S47 => if r48 = (0 : Int32) then some ((0 : Int32), S47) else if p3 < (0 : Int32) then some ((0 : Int32), S47) else if (99 : Int32) < p3 then some ((0 : Int32), S47) else some ((1 : Int32), S47)) else if p1 = (12 : Int32) then xc (f_X1_hasAsset T S a2 p2) (fun r51 S50 => xgd (xnz r51) (some (r51, S50))) else some ((0 : Int32), S)))
set_option maxRecDepth 100000 in
set_option maxHeartbeats 4000000 in
theorem c_X9_isAllowed {l : Launch} {z : Nat} {D : va_G} {dA : Nat → ClassId} {T : xT} {S : xS} {p0 : Nat} {p1 : Int32} {p2 : Int32} {p3 : Int32} (k_p0 : xlk T p0 9 = true) {q : Int32 × xS} (hf : f_X9_isAllowed T S p0 p1 p2 p3 = some q) : Met l yX9_isAllowed (xws yX9_isAllowed cX9_isAllowed 5 (some .boolean)) xr_X9_isAllowed (xPc z D dA T S [.ref (z + p0), .int p1, .int p2, .int p3]) (xQi z D dA T q) 0 0 (xA z) := by
  refine x_met RX9 (by decide) rfl (Nat.le_of_ble_eq_true rfl) ?_
  intro p e s m below meth c ls _ X hr hlk hml _ hR hS hl
  have B : xB p s m _ meth c cX9_isAllowed RX9 5 (some .boolean) D dA := ⟨X, hr, hlk, hml⟩
  have hl : xL ls 5 [_, _, _, _, _] := hl
  unfold f_X9_isAllowed at hf
  refine lv_aload_n B.1.1 B.1.2.1 dX9_isAllowed_0 rfl (hl.at 0 rfl) ?_
  refine y_getR B hR hf k_p0 fl_X9_48 dX9_isAllowed_1 (fun a1 k_a1 hf => ?_)
  refine y_getR B hR hf k_a1 fl_X9_114 dX9_isAllowed_4 (fun a2 k_a2 hf => ?_)
  refine y_astore B hl dX9_isAllowed_7 (by decide) rfl (fun ls hl => ?_)
  have hl : xL ls 5 [_, _, _, _, _] := hl
  refine lv_iload_n B.1.1 B.1.2.1 dX9_isAllowed_9 rfl (hl.at 1 rfl) ?_
  refine x_if hf (fun c3 hf => ?_) (fun c3 hf => ?_)
  · refine y_tcase (k := 0) (off := 66) (tgt := 76) B c3 dX9_isAllowed_10 (by decide) (by decide) (by decide) (by decide) ?_
    refine lv_aload B.1.1 B.1.2.1 dX9_isAllowed_76 (hl.at 4 rfl) ?_
    refine y_getI B hR k_a2 fl_X9_148 dX9_isAllowed_78 ?_
    refine y_if_eq (tgt := 88) B hf dX9_isAllowed_81 (by decide) (fun hf => ?_) (fun hf => ?_)
    · refine lv_iconst (v := 0) B.1.1 B.1.2.1 dX9_isAllowed_88 (by decide) ?_
      exact y_zretK B hR hS hf rfl dX9_isAllowed_89
    · refine lv_iconst (v := 1) B.1.1 B.1.2.1 dX9_isAllowed_84 (by decide) ?_
      refine lv_goto (tgt := 89) B.1.1 B.1.2.1 dX9_isAllowed_85 (by decide) ?_
      exact y_zretK B hR hS hf rfl dX9_isAllowed_89
  refine x_if hf (fun c4 hf => ?_) (fun c4 hf => ?_)
  · refine y_tcase (k := 1) (off := 80) (tgt := 90) B c4 dX9_isAllowed_10 (by decide) (by decide) (by decide) (by decide) ?_
    refine lv_iload_n B.1.1 B.1.2.1 dX9_isAllowed_90 rfl (hl.at 3 rfl) ?_
    refine lv_ldcw (v := -1000000) B.1.1 B.1.2.1 B.1.2.2.1 (B.1.2.2.2.1 _ tw_634) dX9_isAllowed_91 ?_
    refine y_icmp_lt (tgt := 108) B hf dX9_isAllowed_94 (by decide) (fun hf => ?_) (fun hf => ?_)
    · refine lv_iconst (v := 0) B.1.1 B.1.2.1 dX9_isAllowed_108 (by decide) ?_
      exact y_zretK B hR hS hf rfl dX9_isAllowed_109
    · refine lv_iload_n B.1.1 B.1.2.1 dX9_isAllowed_97 rfl (hl.at 3 rfl) ?_
      refine lv_ldcw (v := 1000000) B.1.1 B.1.2.1 B.1.2.2.1 (B.1.2.2.2.1 _ tw_635) dX9_isAllowed_98 ?_
      refine y_icmp_gt (tgt := 108) B hf dX9_isAllowed_101 (by decide) (fun hf => ?_) (fun hf => ?_)
      · refine lv_iconst (v := 0) B.1.1 B.1.2.1 dX9_isAllowed_108 (by decide) ?_
        exact y_zretK B hR hS hf rfl dX9_isAllowed_109
      · refine lv_iconst (v := 1) B.1.1 B.1.2.1 dX9_isAllowed_104 (by decide) ?_
        refine lv_goto (tgt := 109) B.1.1 B.1.2.1 dX9_isAllowed_105 (by decide) ?_
        exact y_zretK B hR hS hf rfl dX9_isAllowed_109
  refine x_if hf (fun c5 hf => ?_) (fun c5 hf => ?_)
  · refine y_tcase (k := 2) (off := 100) (tgt := 110) B c5 dX9_isAllowed_10 (by decide) (by decide) (by decide) (by decide) ?_
    refine lv_aload B.1.1 B.1.2.1 dX9_isAllowed_110 (hl.at 4 rfl) ?_
    refine lv_iload_n B.1.1 B.1.2.1 dX9_isAllowed_112 rfl (hl.at 2 rfl) ?_
    refine y_ci hf (fun q hq => x_runV (ci := 1) (C := RX1) B.1 B.2.2.2 hl hR hS cm_X9_187 ⟨rfl, rfl, Nat.le_of_ble_eq_true rfl, Nat.le_of_ble_eq_true rfl⟩ (by decide) rfl k_a2 (c_X1_hasAsset k_a2 hq) rfl rfl (Nat.le_of_ble_eq_true rfl) dX9_isAllowed_113 ⟨Nat.le_of_ble_eq_true rfl, Nat.le_of_ble_eq_true rfl⟩) hS (fun r7 S6 H locs hf hR hS => ?_)
    refine y_if_eq (tgt := 139) B hf dX9_isAllowed_116 (by decide) (fun hf => ?_) (fun hf => ?_)
    · refine lv_iconst (v := 0) B.1.1 B.1.2.1 dX9_isAllowed_139 (by decide) ?_
      exact y_zretK B hR hS hf rfl dX9_isAllowed_140
    · refine lv_iload_n B.1.1 B.1.2.1 dX9_isAllowed_119 rfl (hl.at 3 rfl) ?_
      refine lv_iconst (v := 1) B.1.1 B.1.2.1 dX9_isAllowed_120 (by decide) ?_
      refine y_icmp_lt (tgt := 139) B hf dX9_isAllowed_121 (by decide) (fun hf => ?_) (fun hf => ?_)
      · refine lv_iconst (v := 0) B.1.1 B.1.2.1 dX9_isAllowed_139 (by decide) ?_
        exact y_zretK B hR hS hf rfl dX9_isAllowed_140
      · refine lv_iload_n B.1.1 B.1.2.1 dX9_isAllowed_124 rfl (hl.at 3 rfl) ?_
        refine lv_aload B.1.1 B.1.2.1 dX9_isAllowed_125 (hl.at 4 rfl) ?_
        refine y_getR B hR hf k_a2 fl_X9_190 dX9_isAllowed_127 (fun a8 k_a8 hf => ?_)
        refine lv_iload_n B.1.1 B.1.2.1 dX9_isAllowed_130 rfl (hl.at 2 rfl) ?_
        refine y_iald B hR hf k_a8 dX9_isAllowed_131 (fun v9 hf => ?_)
        refine y_icmp_gt (tgt := 139) B hf dX9_isAllowed_132 (by decide) (fun hf => ?_) (fun hf => ?_)
        · refine lv_iconst (v := 0) B.1.1 B.1.2.1 dX9_isAllowed_139 (by decide) ?_
          exact y_zretK B hR hS hf rfl dX9_isAllowed_140
        · refine lv_iconst (v := 1) B.1.1 B.1.2.1 dX9_isAllowed_135 (by decide) ?_
          refine lv_goto (tgt := 140) B.1.1 B.1.2.1 dX9_isAllowed_136 (by decide) ?_
          exact y_zretK B hR hS hf rfl dX9_isAllowed_140
  refine x_if hf (fun c10 hf => ?_) (fun c10 hf => ?_)
  · refine y_tcase (k := 3) (off := 131) (tgt := 141) B c10 dX9_isAllowed_10 (by decide) (by decide) (by decide) (by decide) ?_
    refine lv_aload B.1.1 B.1.2.1 dX9_isAllowed_141 (hl.at 4 rfl) ?_
    refine lv_iload_n B.1.1 B.1.2.1 dX9_isAllowed_143 rfl (hl.at 2 rfl) ?_
    refine y_ci hf (fun q hq => x_runV (ci := 1) (C := RX1) B.1 B.2.2.2 hl hR hS cm_X9_187 ⟨rfl, rfl, Nat.le_of_ble_eq_true rfl, Nat.le_of_ble_eq_true rfl⟩ (by decide) rfl k_a2 (c_X1_hasAsset k_a2 hq) rfl rfl (Nat.le_of_ble_eq_true rfl) dX9_isAllowed_144 ⟨Nat.le_of_ble_eq_true rfl, Nat.le_of_ble_eq_true rfl⟩) hS (fun r12 S11 H locs hf hR hS => ?_)
    refine y_if_eq (tgt := 174) B hf dX9_isAllowed_147 (by decide) (fun hf => ?_) (fun hf => ?_)
    · refine lv_iconst (v := 0) B.1.1 B.1.2.1 dX9_isAllowed_174 (by decide) ?_
      exact y_zretK B hR hS hf rfl dX9_isAllowed_175
    · refine lv_iload_n B.1.1 B.1.2.1 dX9_isAllowed_150 rfl (hl.at 3 rfl) ?_
      refine lv_iconst (v := 1) B.1.1 B.1.2.1 dX9_isAllowed_151 (by decide) ?_
      refine y_icmp_lt (tgt := 174) B hf dX9_isAllowed_152 (by decide) (fun hf => ?_) (fun hf => ?_)
      · refine lv_iconst (v := 0) B.1.1 B.1.2.1 dX9_isAllowed_174 (by decide) ?_
        exact y_zretK B hR hS hf rfl dX9_isAllowed_175
      · refine lv_iload_n B.1.1 B.1.2.1 dX9_isAllowed_155 rfl (hl.at 3 rfl) ?_
        refine lv_ldcw (v := 1000000) B.1.1 B.1.2.1 B.1.2.2.1 (B.1.2.2.2.1 _ tw_635) dX9_isAllowed_156 ?_
        refine lv_aload B.1.1 B.1.2.1 dX9_isAllowed_159 (hl.at 4 rfl) ?_
        refine y_getR B hR hf k_a2 fl_X9_196 dX9_isAllowed_161 (fun a13 k_a13 hf => ?_)
        refine lv_iload_n B.1.1 B.1.2.1 dX9_isAllowed_164 rfl (hl.at 2 rfl) ?_
        refine y_iald B hR hf k_a13 dX9_isAllowed_165 (fun v14 hf => ?_)
        refine lv_isub B.1.1 B.1.2.1 dX9_isAllowed_166 ?_
        refine y_icmp_gt (tgt := 174) B hf dX9_isAllowed_167 (by decide) (fun hf => ?_) (fun hf => ?_)
        · refine lv_iconst (v := 0) B.1.1 B.1.2.1 dX9_isAllowed_174 (by decide) ?_
          exact y_zretK B hR hS hf rfl dX9_isAllowed_175
        · refine lv_iconst (v := 1) B.1.1 B.1.2.1 dX9_isAllowed_170 (by decide) ?_
          refine lv_goto (tgt := 175) B.1.1 B.1.2.1 dX9_isAllowed_171 (by decide) ?_
          exact y_zretK B hR hS hf rfl dX9_isAllowed_175
  refine x_if hf (fun c15 hf => ?_) (fun c15 hf => ?_)
  · refine y_tcase (k := 4) (off := 166) (tgt := 176) B c15 dX9_isAllowed_10 (by decide) (by decide) (by decide) (by decide) ?_
    refine lv_aload B.1.1 B.1.2.1 dX9_isAllowed_176 (hl.at 4 rfl) ?_
    refine lv_iload_n B.1.1 B.1.2.1 dX9_isAllowed_178 rfl (hl.at 2 rfl) ?_
    refine y_ci hf (fun q hq => x_runV (ci := 1) (C := RX1) B.1 B.2.2.2 hl hR hS cm_X9_187 ⟨rfl, rfl, Nat.le_of_ble_eq_true rfl, Nat.le_of_ble_eq_true rfl⟩ (by decide) rfl k_a2 (c_X1_hasAsset k_a2 hq) rfl rfl (Nat.le_of_ble_eq_true rfl) dX9_isAllowed_179 ⟨Nat.le_of_ble_eq_true rfl, Nat.le_of_ble_eq_true rfl⟩) hS (fun r17 S16 H locs hf hR hS => ?_)
    refine y_if_eq (tgt := 205) B hf dX9_isAllowed_182 (by decide) (fun hf => ?_) (fun hf => ?_)
    · refine lv_iconst (v := 0) B.1.1 B.1.2.1 dX9_isAllowed_205 (by decide) ?_
      exact y_zretK B hR hS hf rfl dX9_isAllowed_206
    · refine lv_iload_n B.1.1 B.1.2.1 dX9_isAllowed_185 rfl (hl.at 3 rfl) ?_
      refine lv_iconst (v := 1) B.1.1 B.1.2.1 dX9_isAllowed_186 (by decide) ?_
      refine y_icmp_lt (tgt := 205) B hf dX9_isAllowed_187 (by decide) (fun hf => ?_) (fun hf => ?_)
      · refine lv_iconst (v := 0) B.1.1 B.1.2.1 dX9_isAllowed_205 (by decide) ?_
        exact y_zretK B hR hS hf rfl dX9_isAllowed_206
      · refine lv_iload_n B.1.1 B.1.2.1 dX9_isAllowed_190 rfl (hl.at 3 rfl) ?_
        refine lv_aload B.1.1 B.1.2.1 dX9_isAllowed_191 (hl.at 4 rfl) ?_
        refine y_getR B hR hf k_a2 fl_X9_196 dX9_isAllowed_193 (fun a18 k_a18 hf => ?_)
        refine lv_iload_n B.1.1 B.1.2.1 dX9_isAllowed_196 rfl (hl.at 2 rfl) ?_
        refine y_iald B hR hf k_a18 dX9_isAllowed_197 (fun v19 hf => ?_)
        refine y_icmp_gt (tgt := 205) B hf dX9_isAllowed_198 (by decide) (fun hf => ?_) (fun hf => ?_)
        · refine lv_iconst (v := 0) B.1.1 B.1.2.1 dX9_isAllowed_205 (by decide) ?_
          exact y_zretK B hR hS hf rfl dX9_isAllowed_206
        · refine lv_iconst (v := 1) B.1.1 B.1.2.1 dX9_isAllowed_201 (by decide) ?_
          refine lv_goto (tgt := 206) B.1.1 B.1.2.1 dX9_isAllowed_202 (by decide) ?_
          exact y_zretK B hR hS hf rfl dX9_isAllowed_206
  refine x_if hf (fun c20 hf => ?_) (fun c20 hf => ?_)
  · refine y_tcase (k := 5) (off := 197) (tgt := 207) B c20 dX9_isAllowed_10 (by decide) (by decide) (by decide) (by decide) ?_
    refine lv_aload B.1.1 B.1.2.1 dX9_isAllowed_207 (hl.at 4 rfl) ?_
    refine lv_iload_n B.1.1 B.1.2.1 dX9_isAllowed_209 rfl (hl.at 2 rfl) ?_
    refine y_ci hf (fun q hq => x_runV (ci := 1) (C := RX1) B.1 B.2.2.2 hl hR hS cm_X9_187 ⟨rfl, rfl, Nat.le_of_ble_eq_true rfl, Nat.le_of_ble_eq_true rfl⟩ (by decide) rfl k_a2 (c_X1_hasAsset k_a2 hq) rfl rfl (Nat.le_of_ble_eq_true rfl) dX9_isAllowed_210 ⟨Nat.le_of_ble_eq_true rfl, Nat.le_of_ble_eq_true rfl⟩) hS (fun r22 S21 H locs hf hR hS => ?_)
    refine y_if_eq (tgt := 227) B hf dX9_isAllowed_213 (by decide) (fun hf => ?_) (fun hf => ?_)
    · refine lv_iconst (v := 0) B.1.1 B.1.2.1 dX9_isAllowed_227 (by decide) ?_
      exact y_zretK B hR hS hf rfl dX9_isAllowed_228
    · refine lv_iload_n B.1.1 B.1.2.1 dX9_isAllowed_216 rfl (hl.at 3 rfl) ?_
      refine y_ci hf (fun q hq => y_runS B.1 B.2.2.2 hl hR hS cm_X9_210 ⟨rfl, rfl, Nat.le_of_ble_eq_true rfl, Nat.le_of_ble_eq_true rfl⟩ (c_X9_isSum hq) rfl rfl (Nat.le_of_ble_eq_true rfl) dX9_isAllowed_217 ⟨Nat.le_of_ble_eq_true rfl, Nat.le_of_ble_eq_true rfl⟩) hS (fun r24 S23 H locs hf hR hS => ?_)
      refine y_if_eq (tgt := 227) B hf dX9_isAllowed_220 (by decide) (fun hf => ?_) (fun hf => ?_)
      · refine lv_iconst (v := 0) B.1.1 B.1.2.1 dX9_isAllowed_227 (by decide) ?_
        exact y_zretK B hR hS hf rfl dX9_isAllowed_228
      · refine lv_iconst (v := 1) B.1.1 B.1.2.1 dX9_isAllowed_223 (by decide) ?_
        refine lv_goto (tgt := 228) B.1.1 B.1.2.1 dX9_isAllowed_224 (by decide) ?_
        exact y_zretK B hR hS hf rfl dX9_isAllowed_228
  refine x_if hf (fun c25 hf => ?_) (fun c25 hf => ?_)
  · refine y_tcase (k := 6) (off := 219) (tgt := 229) B c25 dX9_isAllowed_10 (by decide) (by decide) (by decide) (by decide) ?_
    refine lv_aload B.1.1 B.1.2.1 dX9_isAllowed_229 (hl.at 4 rfl) ?_
    refine lv_iload_n B.1.1 B.1.2.1 dX9_isAllowed_231 rfl (hl.at 2 rfl) ?_
    refine y_ci hf (fun q hq => x_runV (ci := 1) (C := RX1) B.1 B.2.2.2 hl hR hS cm_X9_117 ⟨rfl, rfl, Nat.le_of_ble_eq_true rfl, Nat.le_of_ble_eq_true rfl⟩ (by decide) rfl k_a2 (c_X1_hasPartner k_a2 hq) rfl rfl (Nat.le_of_ble_eq_true rfl) dX9_isAllowed_232 ⟨Nat.le_of_ble_eq_true rfl, Nat.le_of_ble_eq_true rfl⟩) hS (fun r27 S26 H locs hf hR hS => ?_)
    refine y_if_eq (tgt := 253) B hf dX9_isAllowed_235 (by decide) (fun hf => ?_) (fun hf => ?_)
    · refine lv_iconst (v := 0) B.1.1 B.1.2.1 dX9_isAllowed_253 (by decide) ?_
      exact y_zretK B hR hS hf rfl dX9_isAllowed_254
    · refine lv_iload_n B.1.1 B.1.2.1 dX9_isAllowed_238 rfl (hl.at 3 rfl) ?_
      refine y_if_eq (tgt := 253) B hf dX9_isAllowed_239 (by decide) (fun hf => ?_) (fun hf => ?_)
      · refine lv_iconst (v := 0) B.1.1 B.1.2.1 dX9_isAllowed_253 (by decide) ?_
        exact y_zretK B hR hS hf rfl dX9_isAllowed_254
      · refine lv_iload_n B.1.1 B.1.2.1 dX9_isAllowed_242 rfl (hl.at 3 rfl) ?_
        refine y_ci hf (fun q hq => y_runS B.1 B.2.2.2 hl hR hS cm_X9_210 ⟨rfl, rfl, Nat.le_of_ble_eq_true rfl, Nat.le_of_ble_eq_true rfl⟩ (c_X9_isSum hq) rfl rfl (Nat.le_of_ble_eq_true rfl) dX9_isAllowed_243 ⟨Nat.le_of_ble_eq_true rfl, Nat.le_of_ble_eq_true rfl⟩) hS (fun r29 S28 H locs hf hR hS => ?_)
        refine y_if_eq (tgt := 253) B hf dX9_isAllowed_246 (by decide) (fun hf => ?_) (fun hf => ?_)
        · refine lv_iconst (v := 0) B.1.1 B.1.2.1 dX9_isAllowed_253 (by decide) ?_
          exact y_zretK B hR hS hf rfl dX9_isAllowed_254
        · refine lv_iconst (v := 1) B.1.1 B.1.2.1 dX9_isAllowed_249 (by decide) ?_
          refine lv_goto (tgt := 254) B.1.1 B.1.2.1 dX9_isAllowed_250 (by decide) ?_
          exact y_zretK B hR hS hf rfl dX9_isAllowed_254
  refine x_if hf (fun c30 hf => ?_) (fun c30 hf => ?_)
  · refine y_tcase (k := 7) (off := 219) (tgt := 229) B c30 dX9_isAllowed_10 (by decide) (by decide) (by decide) (by decide) ?_
    refine lv_aload B.1.1 B.1.2.1 dX9_isAllowed_229 (hl.at 4 rfl) ?_
    refine lv_iload_n B.1.1 B.1.2.1 dX9_isAllowed_231 rfl (hl.at 2 rfl) ?_
    refine y_ci hf (fun q hq => x_runV (ci := 1) (C := RX1) B.1 B.2.2.2 hl hR hS cm_X9_117 ⟨rfl, rfl, Nat.le_of_ble_eq_true rfl, Nat.le_of_ble_eq_true rfl⟩ (by decide) rfl k_a2 (c_X1_hasPartner k_a2 hq) rfl rfl (Nat.le_of_ble_eq_true rfl) dX9_isAllowed_232 ⟨Nat.le_of_ble_eq_true rfl, Nat.le_of_ble_eq_true rfl⟩) hS (fun r32 S31 H locs hf hR hS => ?_)
    refine y_if_eq (tgt := 253) B hf dX9_isAllowed_235 (by decide) (fun hf => ?_) (fun hf => ?_)
    · refine lv_iconst (v := 0) B.1.1 B.1.2.1 dX9_isAllowed_253 (by decide) ?_
      exact y_zretK B hR hS hf rfl dX9_isAllowed_254
    · refine lv_iload_n B.1.1 B.1.2.1 dX9_isAllowed_238 rfl (hl.at 3 rfl) ?_
      refine y_if_eq (tgt := 253) B hf dX9_isAllowed_239 (by decide) (fun hf => ?_) (fun hf => ?_)
      · refine lv_iconst (v := 0) B.1.1 B.1.2.1 dX9_isAllowed_253 (by decide) ?_
        exact y_zretK B hR hS hf rfl dX9_isAllowed_254
      · refine lv_iload_n B.1.1 B.1.2.1 dX9_isAllowed_242 rfl (hl.at 3 rfl) ?_
        refine y_ci hf (fun q hq => y_runS B.1 B.2.2.2 hl hR hS cm_X9_210 ⟨rfl, rfl, Nat.le_of_ble_eq_true rfl, Nat.le_of_ble_eq_true rfl⟩ (c_X9_isSum hq) rfl rfl (Nat.le_of_ble_eq_true rfl) dX9_isAllowed_243 ⟨Nat.le_of_ble_eq_true rfl, Nat.le_of_ble_eq_true rfl⟩) hS (fun r34 S33 H locs hf hR hS => ?_)
        refine y_if_eq (tgt := 253) B hf dX9_isAllowed_246 (by decide) (fun hf => ?_) (fun hf => ?_)
        · refine lv_iconst (v := 0) B.1.1 B.1.2.1 dX9_isAllowed_253 (by decide) ?_
          exact y_zretK B hR hS hf rfl dX9_isAllowed_254
        · refine lv_iconst (v := 1) B.1.1 B.1.2.1 dX9_isAllowed_249 (by decide) ?_
          refine lv_goto (tgt := 254) B.1.1 B.1.2.1 dX9_isAllowed_250 (by decide) ?_
          exact y_zretK B hR hS hf rfl dX9_isAllowed_254
  refine x_if hf (fun c35 hf => ?_) (fun c35 hf => ?_)
  · refine y_tcase (k := 8) (off := 245) (tgt := 255) B c35 dX9_isAllowed_10 (by decide) (by decide) (by decide) (by decide) ?_
    refine lv_iload_n B.1.1 B.1.2.1 dX9_isAllowed_255 rfl (hl.at 2 rfl) ?_
    refine y_if_lt (tgt := 293) B hf dX9_isAllowed_256 (by decide) (fun hf => ?_) (fun hf => ?_)
    · refine lv_iconst (v := 0) B.1.1 B.1.2.1 dX9_isAllowed_293 (by decide) ?_
      exact y_zretK B hR hS hf rfl dX9_isAllowed_294
    · refine lv_iload_n B.1.1 B.1.2.1 dX9_isAllowed_259 rfl (hl.at 2 rfl) ?_
      refine lv_bipush (v := 8) B.1.1 B.1.2.1 dX9_isAllowed_260 (by decide) ?_
      refine y_icmp_ge (tgt := 293) B hf dX9_isAllowed_262 (by decide) (fun hf => ?_) (fun hf => ?_)
      · refine lv_iconst (v := 0) B.1.1 B.1.2.1 dX9_isAllowed_293 (by decide) ?_
        exact y_zretK B hR hS hf rfl dX9_isAllowed_294
      · refine lv_aload B.1.1 B.1.2.1 dX9_isAllowed_265 (hl.at 4 rfl) ?_
        refine lv_iload_n B.1.1 B.1.2.1 dX9_isAllowed_267 rfl (hl.at 2 rfl) ?_
        refine y_ci hf (fun q hq => x_runV (ci := 1) (C := RX1) B.1 B.2.2.2 hl hR hS cm_X9_117 ⟨rfl, rfl, Nat.le_of_ble_eq_true rfl, Nat.le_of_ble_eq_true rfl⟩ (by decide) rfl k_a2 (c_X1_hasPartner k_a2 hq) rfl rfl (Nat.le_of_ble_eq_true rfl) dX9_isAllowed_268 ⟨Nat.le_of_ble_eq_true rfl, Nat.le_of_ble_eq_true rfl⟩) hS (fun r37 S36 H locs hf hR hS => ?_)
        refine y_if_ne (tgt := 293) B hf dX9_isAllowed_271 (by decide) (fun hf => ?_) (fun hf => ?_)
        · refine lv_iconst (v := 0) B.1.1 B.1.2.1 dX9_isAllowed_293 (by decide) ?_
          exact y_zretK B hR hS hf rfl dX9_isAllowed_294
        · refine lv_iload_n B.1.1 B.1.2.1 dX9_isAllowed_274 rfl (hl.at 3 rfl) ?_
          refine y_ci hf (fun q hq => y_runS B.1 B.2.2.2 hl hR hS cm_X9_210 ⟨rfl, rfl, Nat.le_of_ble_eq_true rfl, Nat.le_of_ble_eq_true rfl⟩ (c_X9_isSum hq) rfl rfl (Nat.le_of_ble_eq_true rfl) dX9_isAllowed_275 ⟨Nat.le_of_ble_eq_true rfl, Nat.le_of_ble_eq_true rfl⟩) hS (fun r39 S38 H locs hf hR hS => ?_)
          refine y_if_eq (tgt := 293) B hf dX9_isAllowed_278 (by decide) (fun hf => ?_) (fun hf => ?_)
          · refine lv_iconst (v := 0) B.1.1 B.1.2.1 dX9_isAllowed_293 (by decide) ?_
            exact y_zretK B hR hS hf rfl dX9_isAllowed_294
          · refine lv_aload B.1.1 B.1.2.1 dX9_isAllowed_281 (hl.at 4 rfl) ?_
            refine y_getI B hR k_a2 fl_X9_132 dX9_isAllowed_283 ?_
            refine y_if_ne (tgt := 293) B hf dX9_isAllowed_286 (by decide) (fun hf => ?_) (fun hf => ?_)
            · refine lv_iconst (v := 0) B.1.1 B.1.2.1 dX9_isAllowed_293 (by decide) ?_
              exact y_zretK B hR hS hf rfl dX9_isAllowed_294
            · refine lv_iconst (v := 1) B.1.1 B.1.2.1 dX9_isAllowed_289 (by decide) ?_
              refine lv_goto (tgt := 294) B.1.1 B.1.2.1 dX9_isAllowed_290 (by decide) ?_
              exact y_zretK B hR hS hf rfl dX9_isAllowed_294
  refine x_if hf (fun c40 hf => ?_) (fun c40 hf => ?_)
  · refine y_tcase (k := 9) (off := 285) (tgt := 295) B c40 dX9_isAllowed_10 (by decide) (by decide) (by decide) (by decide) ?_
    refine lv_aload B.1.1 B.1.2.1 dX9_isAllowed_295 (hl.at 4 rfl) ?_
    refine lv_iload_n B.1.1 B.1.2.1 dX9_isAllowed_297 rfl (hl.at 2 rfl) ?_
    refine y_ci hf (fun q hq => x_runV (ci := 1) (C := RX1) B.1 B.2.2.2 hl hR hS cm_X9_117 ⟨rfl, rfl, Nat.le_of_ble_eq_true rfl, Nat.le_of_ble_eq_true rfl⟩ (by decide) rfl k_a2 (c_X1_hasPartner k_a2 hq) rfl rfl (Nat.le_of_ble_eq_true rfl) dX9_isAllowed_298 ⟨Nat.le_of_ble_eq_true rfl, Nat.le_of_ble_eq_true rfl⟩) hS (fun r42 S41 H locs hf hR hS => ?_)
    refine y_if_eq (tgt := 327) B hf dX9_isAllowed_301 (by decide) (fun hf => ?_) (fun hf => ?_)
    · refine lv_iconst (v := 0) B.1.1 B.1.2.1 dX9_isAllowed_327 (by decide) ?_
      exact y_zretK B hR hS hf rfl dX9_isAllowed_328
    · refine lv_aload B.1.1 B.1.2.1 dX9_isAllowed_304 (hl.at 4 rfl) ?_
      refine y_getI B hR k_a2 fl_X9_148 dX9_isAllowed_306 ?_
      refine lv_iconst (v := 1) B.1.1 B.1.2.1 dX9_isAllowed_309 (by decide) ?_
      refine lv_iload_n B.1.1 B.1.2.1 dX9_isAllowed_310 rfl (hl.at 2 rfl) ?_
      refine lv_ishl B.1.1 B.1.2.1 dX9_isAllowed_311 ?_
      refine y_icmp_eq (tgt := 327) B hf dX9_isAllowed_312 (by decide) (fun hf => ?_) (fun hf => ?_)
      · refine lv_iconst (v := 0) B.1.1 B.1.2.1 dX9_isAllowed_327 (by decide) ?_
        exact y_zretK B hR hS hf rfl dX9_isAllowed_328
      · refine lv_aload B.1.1 B.1.2.1 dX9_isAllowed_315 (hl.at 4 rfl) ?_
        refine y_getI B hR k_a2 fl_X9_132 dX9_isAllowed_317 ?_
        refine y_if_ne (tgt := 327) B hf dX9_isAllowed_320 (by decide) (fun hf => ?_) (fun hf => ?_)
        · refine lv_iconst (v := 0) B.1.1 B.1.2.1 dX9_isAllowed_327 (by decide) ?_
          exact y_zretK B hR hS hf rfl dX9_isAllowed_328
        · refine lv_iconst (v := 1) B.1.1 B.1.2.1 dX9_isAllowed_323 (by decide) ?_
          refine lv_goto (tgt := 328) B.1.1 B.1.2.1 dX9_isAllowed_324 (by decide) ?_
          exact y_zretK B hR hS hf rfl dX9_isAllowed_328
  refine x_if hf (fun c43 hf => ?_) (fun c43 hf => ?_)
  · refine y_tcase (k := 10) (off := 319) (tgt := 329) B c43 dX9_isAllowed_10 (by decide) (by decide) (by decide) (by decide) ?_
    refine lv_aload B.1.1 B.1.2.1 dX9_isAllowed_329 (hl.at 4 rfl) ?_
    refine lv_iload_n B.1.1 B.1.2.1 dX9_isAllowed_331 rfl (hl.at 2 rfl) ?_
    refine y_ci hf (fun q hq => x_runV (ci := 1) (C := RX1) B.1 B.2.2.2 hl hR hS cm_X9_117 ⟨rfl, rfl, Nat.le_of_ble_eq_true rfl, Nat.le_of_ble_eq_true rfl⟩ (by decide) rfl k_a2 (c_X1_hasPartner k_a2 hq) rfl rfl (Nat.le_of_ble_eq_true rfl) dX9_isAllowed_332 ⟨Nat.le_of_ble_eq_true rfl, Nat.le_of_ble_eq_true rfl⟩) hS (fun r45 S44 H locs hf hR hS => ?_)
    refine y_if_eq (tgt := 353) B hf dX9_isAllowed_335 (by decide) (fun hf => ?_) (fun hf => ?_)
    · refine lv_iconst (v := 0) B.1.1 B.1.2.1 dX9_isAllowed_353 (by decide) ?_
      exact y_zretK B hR hS hf rfl dX9_isAllowed_354
    · refine lv_iload_n B.1.1 B.1.2.1 dX9_isAllowed_338 rfl (hl.at 3 rfl) ?_
      refine y_if_lt (tgt := 353) B hf dX9_isAllowed_339 (by decide) (fun hf => ?_) (fun hf => ?_)
      · refine lv_iconst (v := 0) B.1.1 B.1.2.1 dX9_isAllowed_353 (by decide) ?_
        exact y_zretK B hR hS hf rfl dX9_isAllowed_354
      · refine lv_iload_n B.1.1 B.1.2.1 dX9_isAllowed_342 rfl (hl.at 3 rfl) ?_
        refine lv_ldcw (v := 100000) B.1.1 B.1.2.1 B.1.2.2.1 (B.1.2.2.2.1 _ tw_639) dX9_isAllowed_343 ?_
        refine y_icmp_gt (tgt := 353) B hf dX9_isAllowed_346 (by decide) (fun hf => ?_) (fun hf => ?_)
        · refine lv_iconst (v := 0) B.1.1 B.1.2.1 dX9_isAllowed_353 (by decide) ?_
          exact y_zretK B hR hS hf rfl dX9_isAllowed_354
        · refine lv_iconst (v := 1) B.1.1 B.1.2.1 dX9_isAllowed_349 (by decide) ?_
          refine lv_goto (tgt := 354) B.1.1 B.1.2.1 dX9_isAllowed_350 (by decide) ?_
          exact y_zretK B hR hS hf rfl dX9_isAllowed_354
  refine x_if hf (fun c46 hf => ?_) (fun c46 hf => ?_)
  · refine y_tcase (k := 11) (off := 345) (tgt := 355) B c46 dX9_isAllowed_10 (by decide) (by decide) (by decide) (by decide) ?_
    refine lv_aload B.1.1 B.1.2.1 dX9_isAllowed_355 (hl.at 4 rfl) ?_
    refine lv_iload_n B.1.1 B.1.2.1 dX9_isAllowed_357 rfl (hl.at 2 rfl) ?_
    refine y_ci hf (fun q hq => x_runV (ci := 1) (C := RX1) B.1 B.2.2.2 hl hR hS cm_X9_117 ⟨rfl, rfl, Nat.le_of_ble_eq_true rfl, Nat.le_of_ble_eq_true rfl⟩ (by decide) rfl k_a2 (c_X1_hasPartner k_a2 hq) rfl rfl (Nat.le_of_ble_eq_true rfl) dX9_isAllowed_358 ⟨Nat.le_of_ble_eq_true rfl, Nat.le_of_ble_eq_true rfl⟩) hS (fun r48 S47 H locs hf hR hS => ?_)
    refine y_if_eq (tgt := 378) B hf dX9_isAllowed_361 (by decide) (fun hf => ?_) (fun hf => ?_)
    · refine lv_iconst (v := 0) B.1.1 B.1.2.1 dX9_isAllowed_378 (by decide) ?_
      exact y_zretK B hR hS hf rfl dX9_isAllowed_379
    · refine lv_iload_n B.1.1 B.1.2.1 dX9_isAllowed_364 rfl (hl.at 3 rfl) ?_
      refine y_if_lt (tgt := 378) B hf dX9_isAllowed_365 (by decide) (fun hf => ?_) (fun hf => ?_)
      · refine lv_iconst (v := 0) B.1.1 B.1.2.1 dX9_isAllowed_378 (by decide) ?_
        exact y_zretK B hR hS hf rfl dX9_isAllowed_379
      · refine lv_iload_n B.1.1 B.1.2.1 dX9_isAllowed_368 rfl (hl.at 3 rfl) ?_
        refine lv_bipush (v := 99) B.1.1 B.1.2.1 dX9_isAllowed_369 (by decide) ?_
        refine y_icmp_gt (tgt := 378) B hf dX9_isAllowed_371 (by decide) (fun hf => ?_) (fun hf => ?_)
        · refine lv_iconst (v := 0) B.1.1 B.1.2.1 dX9_isAllowed_378 (by decide) ?_
          exact y_zretK B hR hS hf rfl dX9_isAllowed_379
        · refine lv_iconst (v := 1) B.1.1 B.1.2.1 dX9_isAllowed_374 (by decide) ?_
          refine lv_goto (tgt := 379) B.1.1 B.1.2.1 dX9_isAllowed_375 (by decide) ?_
          exact y_zretK B hR hS hf rfl dX9_isAllowed_379
  refine x_if hf (fun c49 hf => ?_) (fun c49 hf => ?_)
  · refine y_tcase (k := 12) (off := 370) (tgt := 380) B c49 dX9_isAllowed_10 (by decide) (by decide) (by decide) (by decide) ?_
    refine lv_aload B.1.1 B.1.2.1 dX9_isAllowed_380 (hl.at 4 rfl) ?_
    refine lv_iload_n B.1.1 B.1.2.1 dX9_isAllowed_382 rfl (hl.at 2 rfl) ?_
    refine y_ci hf (fun q hq => x_runV (ci := 1) (C := RX1) B.1 B.2.2.2 hl hR hS cm_X9_187 ⟨rfl, rfl, Nat.le_of_ble_eq_true rfl, Nat.le_of_ble_eq_true rfl⟩ (by decide) rfl k_a2 (c_X1_hasAsset k_a2 hq) rfl rfl (Nat.le_of_ble_eq_true rfl) dX9_isAllowed_383 ⟨Nat.le_of_ble_eq_true rfl, Nat.le_of_ble_eq_true rfl⟩) hS (fun r51 S50 H locs hf hR hS => ?_)
    exact y_zret B hR hS hf dX9_isAllowed_386
  have n0 := lv_neT c3 (a := 0) (by decide)
  have n1 := lv_neT c4 (a := 1) (by decide)
  have n2 := lv_neT c5 (a := 2) (by decide)
  have n3 := lv_neT c10 (a := 3) (by decide)
  have n4 := lv_neT c15 (a := 4) (by decide)
  have n5 := lv_neT c20 (a := 5) (by decide)
  have n6 := lv_neT c25 (a := 6) (by decide)
  have n7 := lv_neT c30 (a := 7) (by decide)
  have n8 := lv_neT c35 (a := 8) (by decide)
  have n9 := lv_neT c40 (a := 9) (by decide)
  have n10 := lv_neT c43 (a := 10) (by decide)
  have n11 := lv_neT c46 (a := 11) (by decide)
  have n12 := lv_neT c49 (a := 12) (by decide)
  refine y_tdef (tgt := 387) B dX9_isAllowed_10 (by omega) (by decide) ?_
  refine lv_iconst (v := 0) B.1.1 B.1.2.1 dX9_isAllowed_387 (by decide) ?_
  exact y_zretK B hR hS hf rfl dX9_isAllowed_388
