abbrev xr_X1_copyBooks : Room := { frames := 2, cells := 0, slots := 0, locals := 58 }
def f_X1_copyBooks (T : xT) (S : xS) (p0 : Nat) (p1 : Nat) : Option (xS) := xpi S p0 0 ((S.1 p1 0)) (fun S1 => xpi S1 p0 1 ((S1.1 p1 1)) (fun S2 => xpi S2 p0 2 ((S2.1 p1 2)) (fun S3 => xpi S3 p0 3 ((S3.1 p1 3)) (fun S4 => xpi S4 p0 4 ((S4.1 p1 4)) (fun S5 => xpi S5 p0 5 ((S5.1 p1 5)) (fun S6 => xgr T S6 p1 6 20 (fun a7 => xgr T S6 p0 6 20 (fun a8 => xcv (f_X9_copyEight T S6 a7 a8) (fun S9 => xgr T S9 p1 7 20 (fun a10 => xgr T S9 p0 7 20 (fun a11 => xcv (f_X9_copyEight T S9 a10 a11) (fun S12 => xgr T S12 p1 8 20 (fun a13 => xgr T S12 p0 8 20 (fun a14 => xcv (f_X9_copyEight T S12 a13 a14) (fun S15 => xgr T S15 p1 9 20 (fun a16 => xgr T S15 p0 9 20 (fun a17 => xcv (f_X9_copyEight T S15 a16 a17) (fun S18 => xgr T S18 p1 10 20 (fun a19 => xgr T S18 p0 10 20 (fun a20 => xcv (f_X9_copyEight T S18 a19 a20) (fun S21 => xgr T S21 p1 11 20 (fun a22 => xgr T S21 p0 11 20 (fun a23 => xcv (f_X9_copyEight T S21 a22 a23) (fun S24 => xgr T S24 p1 12 20 (fun a25 => xgr T S24 p0 12 20 (fun a26 => xcv (f_X9_copyEight T S24 a25 a26) (fun S27 => xgr T S27 p1 13 20 (fun a28 => xgr T S27 p0 13 20 (fun a29 => xcv (f_X9_copyEight T S27 a28 a29) (fun S30 => some S30))))))))))))))))))))))))))))))
set_option maxRecDepth 100000 in
set_option maxHeartbeats 4000000 in
theorem c_X1_copyBooks {l : Launch} {z : Nat} {D : va_G} {dA : Nat → ClassId} {T : xT} {S : xS} {p0 : Nat} {p1 : Nat} (k_p0 : xlk T p0 1 = true) (k_p1 : xlk T p1 1 = true) {q : xS} (hf : f_X1_copyBooks T S p0 p1 = some q) : Met l yX1_copyBooks (xws yX1_copyBooks cX1_copyBooks 2 none) xr_X1_copyBooks (xPc z D dA T S [.ref (z + p0), .ref (z + p1)]) (xQv z D dA T q) 0 0 (xA z) := by
  refine x_met RX1 (by decide) rfl (Nat.le_of_ble_eq_true rfl) ?_
  intro p e s m below meth c ls _ X hr hlk hml _ hR hS hl
  have B : xB p s m _ meth c cX1_copyBooks RX1 2 none D dA := ⟨X, hr, hlk, hml⟩
  have hl : xL ls 2 [_, _] := hl
  unfold f_X1_copyBooks at hf
  refine lv_aload_n B.1.1 B.1.2.1 dX1_copyBooks_0 rfl (hl.at 0 rfl) ?_
  refine lv_aload_n B.1.1 B.1.2.1 dX1_copyBooks_1 rfl (hl.at 1 rfl) ?_
  refine y_getI B hR k_p1 fl_X1_36 dX1_copyBooks_2 ?_
  refine y_putI B hR hS hf k_p0 fp_X1_36 dX1_copyBooks_5 (fun S1 H locs hf hR hS => ?_)
  refine lv_aload_n B.1.1 B.1.2.1 dX1_copyBooks_8 rfl (hl.at 0 rfl) ?_
  refine lv_aload_n B.1.1 B.1.2.1 dX1_copyBooks_9 rfl (hl.at 1 rfl) ?_
  refine y_getI B hR k_p1 fl_X1_40 dX1_copyBooks_10 ?_
  refine y_putI B hR hS hf k_p0 fp_X1_40 dX1_copyBooks_13 (fun S2 H locs hf hR hS => ?_)
  refine lv_aload_n B.1.1 B.1.2.1 dX1_copyBooks_16 rfl (hl.at 0 rfl) ?_
  refine lv_aload_n B.1.1 B.1.2.1 dX1_copyBooks_17 rfl (hl.at 1 rfl) ?_
  refine y_getI B hR k_p1 fl_X1_43 dX1_copyBooks_18 ?_
  refine y_putI B hR hS hf k_p0 fp_X1_43 dX1_copyBooks_21 (fun S3 H locs hf hR hS => ?_)
  refine lv_aload_n B.1.1 B.1.2.1 dX1_copyBooks_24 rfl (hl.at 0 rfl) ?_
  refine lv_aload_n B.1.1 B.1.2.1 dX1_copyBooks_25 rfl (hl.at 1 rfl) ?_
  refine y_getI B hR k_p1 fl_X1_46 dX1_copyBooks_26 ?_
  refine y_putI B hR hS hf k_p0 fp_X1_46 dX1_copyBooks_29 (fun S4 H locs hf hR hS => ?_)
  refine lv_aload_n B.1.1 B.1.2.1 dX1_copyBooks_32 rfl (hl.at 0 rfl) ?_
  refine lv_aload_n B.1.1 B.1.2.1 dX1_copyBooks_33 rfl (hl.at 1 rfl) ?_
  refine y_getI B hR k_p1 fl_X1_49 dX1_copyBooks_34 ?_
  refine y_putI B hR hS hf k_p0 fp_X1_49 dX1_copyBooks_37 (fun S5 H locs hf hR hS => ?_)
  refine lv_aload_n B.1.1 B.1.2.1 dX1_copyBooks_40 rfl (hl.at 0 rfl) ?_
  refine lv_aload_n B.1.1 B.1.2.1 dX1_copyBooks_41 rfl (hl.at 1 rfl) ?_
  refine y_getI B hR k_p1 fl_X1_52 dX1_copyBooks_42 ?_
  refine y_putI B hR hS hf k_p0 fp_X1_52 dX1_copyBooks_45 (fun S6 H locs hf hR hS => ?_)
  refine lv_aload_n B.1.1 B.1.2.1 dX1_copyBooks_48 rfl (hl.at 1 rfl) ?_
  refine y_getR B hR hf k_p1 fl_X1_9 dX1_copyBooks_49 (fun a7 k_a7 hf => ?_)
  refine lv_aload_n B.1.1 B.1.2.1 dX1_copyBooks_52 rfl (hl.at 0 rfl) ?_
  refine y_getR B hR hf k_p0 fl_X1_9 dX1_copyBooks_53 (fun a8 k_a8 hf => ?_)
  refine y_cv hf (fun q hq => x_runN B.1 B.2.2.2 hl hR hS cm_X1_55 ⟨rfl, rfl, Nat.le_of_ble_eq_true rfl, Nat.le_of_ble_eq_true rfl⟩ (c_X9_copyEight k_a7 k_a8 hq) rfl rfl (Nat.le_of_ble_eq_true rfl) dX1_copyBooks_56 ⟨Nat.le_of_ble_eq_true rfl, Nat.le_of_ble_eq_true rfl⟩) hS (fun S9 H locs hf hR hS => ?_)
  refine lv_aload_n B.1.1 B.1.2.1 dX1_copyBooks_59 rfl (hl.at 1 rfl) ?_
  refine y_getR B hR hf k_p1 fl_X1_15 dX1_copyBooks_60 (fun a10 k_a10 hf => ?_)
  refine lv_aload_n B.1.1 B.1.2.1 dX1_copyBooks_63 rfl (hl.at 0 rfl) ?_
  refine y_getR B hR hf k_p0 fl_X1_15 dX1_copyBooks_64 (fun a11 k_a11 hf => ?_)
  refine y_cv hf (fun q hq => x_runN B.1 B.2.2.2 hl hR hS cm_X1_55 ⟨rfl, rfl, Nat.le_of_ble_eq_true rfl, Nat.le_of_ble_eq_true rfl⟩ (c_X9_copyEight k_a10 k_a11 hq) rfl rfl (Nat.le_of_ble_eq_true rfl) dX1_copyBooks_67 ⟨Nat.le_of_ble_eq_true rfl, Nat.le_of_ble_eq_true rfl⟩) hS (fun S12 H locs hf hR hS => ?_)
  refine lv_aload_n B.1.1 B.1.2.1 dX1_copyBooks_70 rfl (hl.at 1 rfl) ?_
  refine y_getR B hR hf k_p1 fl_X1_18 dX1_copyBooks_71 (fun a13 k_a13 hf => ?_)
  refine lv_aload_n B.1.1 B.1.2.1 dX1_copyBooks_74 rfl (hl.at 0 rfl) ?_
  refine y_getR B hR hf k_p0 fl_X1_18 dX1_copyBooks_75 (fun a14 k_a14 hf => ?_)
  refine y_cv hf (fun q hq => x_runN B.1 B.2.2.2 hl hR hS cm_X1_55 ⟨rfl, rfl, Nat.le_of_ble_eq_true rfl, Nat.le_of_ble_eq_true rfl⟩ (c_X9_copyEight k_a13 k_a14 hq) rfl rfl (Nat.le_of_ble_eq_true rfl) dX1_copyBooks_78 ⟨Nat.le_of_ble_eq_true rfl, Nat.le_of_ble_eq_true rfl⟩) hS (fun S15 H locs hf hR hS => ?_)
  refine lv_aload_n B.1.1 B.1.2.1 dX1_copyBooks_81 rfl (hl.at 1 rfl) ?_
  refine y_getR B hR hf k_p1 fl_X1_21 dX1_copyBooks_82 (fun a16 k_a16 hf => ?_)
  refine lv_aload_n B.1.1 B.1.2.1 dX1_copyBooks_85 rfl (hl.at 0 rfl) ?_
  refine y_getR B hR hf k_p0 fl_X1_21 dX1_copyBooks_86 (fun a17 k_a17 hf => ?_)
  refine y_cv hf (fun q hq => x_runN B.1 B.2.2.2 hl hR hS cm_X1_55 ⟨rfl, rfl, Nat.le_of_ble_eq_true rfl, Nat.le_of_ble_eq_true rfl⟩ (c_X9_copyEight k_a16 k_a17 hq) rfl rfl (Nat.le_of_ble_eq_true rfl) dX1_copyBooks_89 ⟨Nat.le_of_ble_eq_true rfl, Nat.le_of_ble_eq_true rfl⟩) hS (fun S18 H locs hf hR hS => ?_)
  refine lv_aload_n B.1.1 B.1.2.1 dX1_copyBooks_92 rfl (hl.at 1 rfl) ?_
  refine y_getR B hR hf k_p1 fl_X1_24 dX1_copyBooks_93 (fun a19 k_a19 hf => ?_)
  refine lv_aload_n B.1.1 B.1.2.1 dX1_copyBooks_96 rfl (hl.at 0 rfl) ?_
  refine y_getR B hR hf k_p0 fl_X1_24 dX1_copyBooks_97 (fun a20 k_a20 hf => ?_)
  refine y_cv hf (fun q hq => x_runN B.1 B.2.2.2 hl hR hS cm_X1_55 ⟨rfl, rfl, Nat.le_of_ble_eq_true rfl, Nat.le_of_ble_eq_true rfl⟩ (c_X9_copyEight k_a19 k_a20 hq) rfl rfl (Nat.le_of_ble_eq_true rfl) dX1_copyBooks_100 ⟨Nat.le_of_ble_eq_true rfl, Nat.le_of_ble_eq_true rfl⟩) hS (fun S21 H locs hf hR hS => ?_)
  refine lv_aload_n B.1.1 B.1.2.1 dX1_copyBooks_103 rfl (hl.at 1 rfl) ?_
  refine y_getR B hR hf k_p1 fl_X1_27 dX1_copyBooks_104 (fun a22 k_a22 hf => ?_)
  refine lv_aload_n B.1.1 B.1.2.1 dX1_copyBooks_107 rfl (hl.at 0 rfl) ?_
  refine y_getR B hR hf k_p0 fl_X1_27 dX1_copyBooks_108 (fun a23 k_a23 hf => ?_)
  refine y_cv hf (fun q hq => x_runN B.1 B.2.2.2 hl hR hS cm_X1_55 ⟨rfl, rfl, Nat.le_of_ble_eq_true rfl, Nat.le_of_ble_eq_true rfl⟩ (c_X9_copyEight k_a22 k_a23 hq) rfl rfl (Nat.le_of_ble_eq_true rfl) dX1_copyBooks_111 ⟨Nat.le_of_ble_eq_true rfl, Nat.le_of_ble_eq_true rfl⟩) hS (fun S24 H locs hf hR hS => ?_)
  refine lv_aload_n B.1.1 B.1.2.1 dX1_copyBooks_114 rfl (hl.at 1 rfl) ?_
  refine y_getR B hR hf k_p1 fl_X1_30 dX1_copyBooks_115 (fun a25 k_a25 hf => ?_)
  refine lv_aload_n B.1.1 B.1.2.1 dX1_copyBooks_118 rfl (hl.at 0 rfl) ?_
  refine y_getR B hR hf k_p0 fl_X1_30 dX1_copyBooks_119 (fun a26 k_a26 hf => ?_)
  refine y_cv hf (fun q hq => x_runN B.1 B.2.2.2 hl hR hS cm_X1_55 ⟨rfl, rfl, Nat.le_of_ble_eq_true rfl, Nat.le_of_ble_eq_true rfl⟩ (c_X9_copyEight k_a25 k_a26 hq) rfl rfl (Nat.le_of_ble_eq_true rfl) dX1_copyBooks_122 ⟨Nat.le_of_ble_eq_true rfl, Nat.le_of_ble_eq_true rfl⟩) hS (fun S27 H locs hf hR hS => ?_)
  refine lv_aload_n B.1.1 B.1.2.1 dX1_copyBooks_125 rfl (hl.at 1 rfl) ?_
  refine y_getR B hR hf k_p1 fl_X1_33 dX1_copyBooks_126 (fun a28 k_a28 hf => ?_)
  refine lv_aload_n B.1.1 B.1.2.1 dX1_copyBooks_129 rfl (hl.at 0 rfl) ?_
  refine y_getR B hR hf k_p0 fl_X1_33 dX1_copyBooks_130 (fun a29 k_a29 hf => ?_)
  refine y_cv hf (fun q hq => x_runN B.1 B.2.2.2 hl hR hS cm_X1_55 ⟨rfl, rfl, Nat.le_of_ble_eq_true rfl, Nat.le_of_ble_eq_true rfl⟩ (c_X9_copyEight k_a28 k_a29 hq) rfl rfl (Nat.le_of_ble_eq_true rfl) dX1_copyBooks_133 ⟨Nat.le_of_ble_eq_true rfl, Nat.le_of_ble_eq_true rfl⟩) hS (fun S30 H locs hf hR hS => ?_)
  exact y_vret B hR hS hf dX1_copyBooks_136
abbrev xr_X1_hasPartner : Room := { frames := 1, cells := 0, slots := 0, locals := 12 }
def f_X1_hasPartner (T : xT) (S : xS) (p0 : Nat) (p1 : Int32) : Option (Int32 × xS) := if p1 < (0 : Int32) then some ((0 : Int32), S) else if (8 : Int32) ≤ p1 then some ((0 : Int32), S) else if (((S.1 p0 0) >>> (p1 &&& 31)) &&& (1 : Int32)) = (0 : Int32) then some ((0 : Int32), S) else some ((1 : Int32), S)
set_option maxRecDepth 100000 in
set_option maxHeartbeats 4000000 in
theorem c_X1_hasPartner {l : Launch} {z : Nat} {D : va_G} {dA : Nat → ClassId} {T : xT} {S : xS} {p0 : Nat} {p1 : Int32} (k_p0 : xlk T p0 1 = true) {q : Int32 × xS} (hf : f_X1_hasPartner T S p0 p1 = some q) : Met l yX1_hasPartner (xws yX1_hasPartner cX1_hasPartner 2 (some .boolean)) xr_X1_hasPartner (xPc z D dA T S [.ref (z + p0), .int p1]) (xQi z D dA T q) 0 0 (xA z) := by
  refine x_met RX1 (by decide) rfl (Nat.le_of_ble_eq_true rfl) ?_
  intro p e s m below meth c ls _ X hr hlk hml _ hR hS hl
  have B : xB p s m _ meth c cX1_hasPartner RX1 2 (some .boolean) D dA := ⟨X, hr, hlk, hml⟩
  have hl : xL ls 2 [_, _] := hl
  unfold f_X1_hasPartner at hf
  refine lv_iload_n B.1.1 B.1.2.1 dX1_hasPartner_0 rfl (hl.at 1 rfl) ?_
  refine y_if_lt (tgt := 25) B hf dX1_hasPartner_1 (by decide) (fun hf => ?_) (fun hf => ?_)
  · refine lv_iconst (v := 0) B.1.1 B.1.2.1 dX1_hasPartner_25 (by decide) ?_
    exact y_zretK B hR hS hf rfl dX1_hasPartner_26
  · refine lv_iload_n B.1.1 B.1.2.1 dX1_hasPartner_4 rfl (hl.at 1 rfl) ?_
    refine lv_bipush (v := 8) B.1.1 B.1.2.1 dX1_hasPartner_5 (by decide) ?_
    refine y_icmp_ge (tgt := 25) B hf dX1_hasPartner_7 (by decide) (fun hf => ?_) (fun hf => ?_)
    · refine lv_iconst (v := 0) B.1.1 B.1.2.1 dX1_hasPartner_25 (by decide) ?_
      exact y_zretK B hR hS hf rfl dX1_hasPartner_26
    · refine lv_aload_n B.1.1 B.1.2.1 dX1_hasPartner_10 rfl (hl.at 0 rfl) ?_
      refine y_getI B hR k_p0 fl_X1_36 dX1_hasPartner_11 ?_
      refine lv_iload_n B.1.1 B.1.2.1 dX1_hasPartner_14 rfl (hl.at 1 rfl) ?_
      refine lv_ishr B.1.1 B.1.2.1 dX1_hasPartner_15 ?_
      refine lv_iconst (v := 1) B.1.1 B.1.2.1 dX1_hasPartner_16 (by decide) ?_
      refine lv_iand B.1.1 B.1.2.1 dX1_hasPartner_17 ?_
      refine y_if_eq (tgt := 25) B hf dX1_hasPartner_18 (by decide) (fun hf => ?_) (fun hf => ?_)
      · refine lv_iconst (v := 0) B.1.1 B.1.2.1 dX1_hasPartner_25 (by decide) ?_
        exact y_zretK B hR hS hf rfl dX1_hasPartner_26
      · refine lv_iconst (v := 1) B.1.1 B.1.2.1 dX1_hasPartner_21 (by decide) ?_
        refine lv_goto (tgt := 26) B.1.1 B.1.2.1 dX1_hasPartner_22 (by decide) ?_
        exact y_zretK B hR hS hf rfl dX1_hasPartner_26
abbrev xr_X1_hasAsset : Room := { frames := 1, cells := 0, slots := 0, locals := 12 }
def f_X1_hasAsset (T : xT) (S : xS) (p0 : Nat) (p1 : Int32) : Option (Int32 × xS) := if p1 < (0 : Int32) then some ((0 : Int32), S) else if (8 : Int32) ≤ p1 then some ((0 : Int32), S) else if (((S.1 p0 1) >>> (p1 &&& 31)) &&& (1 : Int32)) = (0 : Int32) then some ((0 : Int32), S) else some ((1 : Int32), S)
set_option maxRecDepth 100000 in
set_option maxHeartbeats 4000000 in
theorem c_X1_hasAsset {l : Launch} {z : Nat} {D : va_G} {dA : Nat → ClassId} {T : xT} {S : xS} {p0 : Nat} {p1 : Int32} (k_p0 : xlk T p0 1 = true) {q : Int32 × xS} (hf : f_X1_hasAsset T S p0 p1 = some q) : Met l yX1_hasAsset (xws yX1_hasAsset cX1_hasAsset 2 (some .boolean)) xr_X1_hasAsset (xPc z D dA T S [.ref (z + p0), .int p1]) (xQi z D dA T q) 0 0 (xA z) := by
  refine x_met RX1 (by decide) rfl (Nat.le_of_ble_eq_true rfl) ?_
  intro p e s m below meth c ls _ X hr hlk hml _ hR hS hl
  have B : xB p s m _ meth c cX1_hasAsset RX1 2 (some .boolean) D dA := ⟨X, hr, hlk, hml⟩
  have hl : xL ls 2 [_, _] := hl
  unfold f_X1_hasAsset at hf
  refine lv_iload_n B.1.1 B.1.2.1 dX1_hasAsset_0 rfl (hl.at 1 rfl) ?_
  refine y_if_lt (tgt := 25) B hf dX1_hasAsset_1 (by decide) (fun hf => ?_) (fun hf => ?_)
  · refine lv_iconst (v := 0) B.1.1 B.1.2.1 dX1_hasAsset_25 (by decide) ?_
    exact y_zretK B hR hS hf rfl dX1_hasAsset_26
  · refine lv_iload_n B.1.1 B.1.2.1 dX1_hasAsset_4 rfl (hl.at 1 rfl) ?_
    refine lv_bipush (v := 8) B.1.1 B.1.2.1 dX1_hasAsset_5 (by decide) ?_
    refine y_icmp_ge (tgt := 25) B hf dX1_hasAsset_7 (by decide) (fun hf => ?_) (fun hf => ?_)
    · refine lv_iconst (v := 0) B.1.1 B.1.2.1 dX1_hasAsset_25 (by decide) ?_
      exact y_zretK B hR hS hf rfl dX1_hasAsset_26
    · refine lv_aload_n B.1.1 B.1.2.1 dX1_hasAsset_10 rfl (hl.at 0 rfl) ?_
      refine y_getI B hR k_p0 fl_X1_40 dX1_hasAsset_11 ?_
      refine lv_iload_n B.1.1 B.1.2.1 dX1_hasAsset_14 rfl (hl.at 1 rfl) ?_
      refine lv_ishr B.1.1 B.1.2.1 dX1_hasAsset_15 ?_
      refine lv_iconst (v := 1) B.1.1 B.1.2.1 dX1_hasAsset_16 (by decide) ?_
      refine lv_iand B.1.1 B.1.2.1 dX1_hasAsset_17 ?_
      refine y_if_eq (tgt := 25) B hf dX1_hasAsset_18 (by decide) (fun hf => ?_) (fun hf => ?_)
      · refine lv_iconst (v := 0) B.1.1 B.1.2.1 dX1_hasAsset_25 (by decide) ?_
        exact y_zretK B hR hS hf rfl dX1_hasAsset_26
      · refine lv_iconst (v := 1) B.1.1 B.1.2.1 dX1_hasAsset_21 (by decide) ?_
        refine lv_goto (tgt := 26) B.1.1 B.1.2.1 dX1_hasAsset_22 (by decide) ?_
        exact y_zretK B hR hS hf rfl dX1_hasAsset_26
abbrev xr_X1_net : Room := { frames := 1, cells := 0, slots := 0, locals := 12 }
def f_X1_net_7 (T : xT) : Nat → xS → Nat → Int32 → Int32 → Option (Int32 × xS)
  | 0, _, _, _, _ => none
  | n + 1, S, p0, p1, p2 => if (8 : Int32) ≤ p2 then some (p1, S) else xgr T S p0 11 20 (fun a1 => xai T S a1 p2 (fun v2 => xgr T S p0 13 20 (fun a3 => xai T S a3 p2 (fun v4 => xl ((p1 + (v2 - v4))) (fun v5 => xl (p2 + (1 : Int32)) (fun v6 => f_X1_net_7 T n S p0 v5 v6))))))
set_option maxRecDepth 100000 in
set_option maxHeartbeats 4000000 in
theorem w_X1_net_7 {p : Program} {l : Launch} {e : Env} {s : State} {m : MethodId} {args : Array Value} {below : List Frame} {meth : Method} {c : Code} {z : Nat} {D : va_G} {dA : Nat → ClassId} {T : xT} (B : xB p s m args meth c cX1_net RX1 3 (some .int) D dA) {q : Int32 × xS} : ∀ (n : Nat), ∀ (S : xS) (H : Heap) (locs : List Loc) (ls : Array Slot) (p0 : Nat) (p1 : Int32) (p2 : Int32), xlk T p0 1 = true → f_X1_net_7 T n S p0 p1 p2 = some q → xRel z D dA T S H → va_S (xA z) s.heap H locs → xL ls 3 [some (.ref (z + p0)), some (.int p1), some (.int p2)] → xGi p l e xr_X1_net s m args below meth c z D dA T q H locs 7 ls [] := by
  intro n
  induction n with
  | zero =>
    intro S H locs ls p0 p1 p2 k_p0 hf hR hS hl
    exact absurd hf (by simp [f_X1_net_7])
  | succ n ih =>
    intro S H locs ls p0 p1 p2 k_p0 hf hR hS hl
    unfold f_X1_net_7 at hf
    refine lv_iload_n B.1.1 B.1.2.1 dX1_net_7 rfl (hl.at 2 rfl) ?_
    refine lv_bipush (v := 8) B.1.1 B.1.2.1 dX1_net_8 (by decide) ?_
    refine y_icmp_ge (tgt := 35) B hf dX1_net_10 (by decide) (fun hf => ?_) (fun hf => ?_)
    · refine lv_iload_n B.1.1 B.1.2.1 dX1_net_35 rfl (hl.at 1 rfl) ?_
      exact y_iret B hR hS hf dX1_net_36
    · refine lv_iload_n B.1.1 B.1.2.1 dX1_net_13 rfl (hl.at 1 rfl) ?_
      refine lv_aload_n B.1.1 B.1.2.1 dX1_net_14 rfl (hl.at 0 rfl) ?_
      refine y_getR B hR hf k_p0 fl_X1_27 dX1_net_15 (fun a1 k_a1 hf => ?_)
      refine lv_iload_n B.1.1 B.1.2.1 dX1_net_18 rfl (hl.at 2 rfl) ?_
      refine y_iald B hR hf k_a1 dX1_net_19 (fun v2 hf => ?_)
      refine lv_aload_n B.1.1 B.1.2.1 dX1_net_20 rfl (hl.at 0 rfl) ?_
      refine y_getR B hR hf k_p0 fl_X1_33 dX1_net_21 (fun a3 k_a3 hf => ?_)
      refine lv_iload_n B.1.1 B.1.2.1 dX1_net_24 rfl (hl.at 2 rfl) ?_
      refine y_iald B hR hf k_a3 dX1_net_25 (fun v4 hf => ?_)
      refine lv_isub B.1.1 B.1.2.1 dX1_net_26 ?_
      refine lv_iadd B.1.1 B.1.2.1 dX1_net_27 ?_
      refine y_istore_n B hl hf dX1_net_28 rfl (by decide) rfl (fun v5 ls hf hl => ?_)
      have hl : xL ls 3 [_, _, _] := hl
      refine y_iinc (d := 1) B hl hf dX1_net_29 rfl (by decide) (by decide) rfl (fun v6 ls hf hl => ?_)
      have hl : xL ls 3 [_, _, _] := hl
      refine lv_goto (tgt := 7) B.1.1 B.1.2.1 dX1_net_32 (by decide) ?_
      exact ih _ _ _ _ _ _ _ k_p0 hf hR hS hl
def f_X1_net (T : xT) (S : xS) (p0 : Nat) : Option (Int32 × xS) := xl ((S.1 p0 2)) (fun v1 => xl ((0 : Int32)) (fun v2 => f_X1_net_7 T xfu S p0 v1 v2))
set_option maxRecDepth 100000 in
set_option maxHeartbeats 4000000 in
theorem c_X1_net {l : Launch} {z : Nat} {D : va_G} {dA : Nat → ClassId} {T : xT} {S : xS} {p0 : Nat} (k_p0 : xlk T p0 1 = true) {q : Int32 × xS} (hf : f_X1_net T S p0 = some q) : Met l yX1_net (xws yX1_net cX1_net 3 (some .int)) xr_X1_net (xPc z D dA T S [.ref (z + p0)]) (xQi z D dA T q) 0 0 (xA z) := by
  refine x_met RX1 (by decide) rfl (Nat.le_of_ble_eq_true rfl) ?_
  intro p e s m below meth c ls _ X hr hlk hml _ hR hS hl
  have B : xB p s m _ meth c cX1_net RX1 3 (some .int) D dA := ⟨X, hr, hlk, hml⟩
  have hl : xL ls 3 [_, _, _] := hl
  unfold f_X1_net at hf
  refine lv_aload_n B.1.1 B.1.2.1 dX1_net_0 rfl (hl.at 0 rfl) ?_
  refine y_getI B hR k_p0 fl_X1_43 dX1_net_1 ?_
  refine y_istore_n B hl hf dX1_net_4 rfl (by decide) rfl (fun v1 ls hf hl => ?_)
  have hl : xL ls 3 [_, _, _] := hl
  refine lv_iconst (v := 0) B.1.1 B.1.2.1 dX1_net_5 (by decide) ?_
  refine y_istore_n B hl hf dX1_net_6 rfl (by decide) rfl (fun v2 ls hf hl => ?_)
  have hl : xL ls 3 [_, _, _] := hl
  exact w_X1_net_7 B xfu _ _ _ _ _ _ _ k_p0 hf hR hS hl
abbrev xr_X1_held : Room := { frames := 1, cells := 0, slots := 0, locals := 12 }
def f_X1_held_4 (T : xT) : Nat → xS → Nat → Int32 → Int32 → Option (Int32 × xS)
  | 0, _, _, _, _ => none
  | n + 1, S, p0, p1, p2 => if (8 : Int32) ≤ p2 then some (p1, S) else xgr T S p0 13 20 (fun a1 => xai T S a1 p2 (fun v2 => xgr T S p0 11 20 (fun a3 => xai T S a3 p2 (fun v4 => if v2 ≤ v4 then xl (p2 + (1 : Int32)) (fun v5 => f_X1_held_4 T n S p0 p1 v5) else xgr T S p0 13 20 (fun a6 => xai T S a6 p2 (fun v7 => xgr T S p0 11 20 (fun a8 => xai T S a8 p2 (fun v9 => xl ((p1 + (v7 - v9))) (fun v10 => xl (p2 + (1 : Int32)) (fun v11 => f_X1_held_4 T n S p0 v10 v11))))))))))
set_option maxRecDepth 100000 in
set_option maxHeartbeats 4000000 in
theorem w_X1_held_4 {p : Program} {l : Launch} {e : Env} {s : State} {m : MethodId} {args : Array Value} {below : List Frame} {meth : Method} {c : Code} {z : Nat} {D : va_G} {dA : Nat → ClassId} {T : xT} (B : xB p s m args meth c cX1_held RX1 3 (some .int) D dA) {q : Int32 × xS} : ∀ (n : Nat), ∀ (S : xS) (H : Heap) (locs : List Loc) (ls : Array Slot) (p0 : Nat) (p1 : Int32) (p2 : Int32), xlk T p0 1 = true → f_X1_held_4 T n S p0 p1 p2 = some q → xRel z D dA T S H → va_S (xA z) s.heap H locs → xL ls 3 [some (.ref (z + p0)), some (.int p1), some (.int p2)] → xGi p l e xr_X1_held s m args below meth c z D dA T q H locs 4 ls [] := by
  intro n
  induction n with
  | zero =>
    intro S H locs ls p0 p1 p2 k_p0 hf hR hS hl
    exact absurd hf (by simp [f_X1_held_4])
  | succ n ih =>
    intro S H locs ls p0 p1 p2 k_p0 hf hR hS hl
    unfold f_X1_held_4 at hf
    refine lv_iload_n B.1.1 B.1.2.1 dX1_held_4 rfl (hl.at 2 rfl) ?_
    refine lv_bipush (v := 8) B.1.1 B.1.2.1 dX1_held_5 (by decide) ?_
    refine y_icmp_ge (tgt := 47) B hf dX1_held_7 (by decide) (fun hf => ?_) (fun hf => ?_)
    · refine lv_iload_n B.1.1 B.1.2.1 dX1_held_47 rfl (hl.at 1 rfl) ?_
      exact y_iret B hR hS hf dX1_held_48
    · refine lv_aload_n B.1.1 B.1.2.1 dX1_held_10 rfl (hl.at 0 rfl) ?_
      refine y_getR B hR hf k_p0 fl_X1_33 dX1_held_11 (fun a1 k_a1 hf => ?_)
      refine lv_iload_n B.1.1 B.1.2.1 dX1_held_14 rfl (hl.at 2 rfl) ?_
      refine y_iald B hR hf k_a1 dX1_held_15 (fun v2 hf => ?_)
      refine lv_aload_n B.1.1 B.1.2.1 dX1_held_16 rfl (hl.at 0 rfl) ?_
      refine y_getR B hR hf k_p0 fl_X1_27 dX1_held_17 (fun a3 k_a3 hf => ?_)
      refine lv_iload_n B.1.1 B.1.2.1 dX1_held_20 rfl (hl.at 2 rfl) ?_
      refine y_iald B hR hf k_a3 dX1_held_21 (fun v4 hf => ?_)
      refine y_icmp_le (tgt := 41) B hf dX1_held_22 (by decide) (fun hf => ?_) (fun hf => ?_)
      · refine y_iinc (d := 1) B hl hf dX1_held_41 rfl (by decide) (by decide) rfl (fun v5 ls hf hl => ?_)
        have hl : xL ls 3 [_, _, _] := hl
        refine lv_goto (tgt := 4) B.1.1 B.1.2.1 dX1_held_44 (by decide) ?_
        exact ih _ _ _ _ _ _ _ k_p0 hf hR hS hl
      · refine lv_iload_n B.1.1 B.1.2.1 dX1_held_25 rfl (hl.at 1 rfl) ?_
        refine lv_aload_n B.1.1 B.1.2.1 dX1_held_26 rfl (hl.at 0 rfl) ?_
        refine y_getR B hR hf k_p0 fl_X1_33 dX1_held_27 (fun a6 k_a6 hf => ?_)
        refine lv_iload_n B.1.1 B.1.2.1 dX1_held_30 rfl (hl.at 2 rfl) ?_
        refine y_iald B hR hf k_a6 dX1_held_31 (fun v7 hf => ?_)
        refine lv_aload_n B.1.1 B.1.2.1 dX1_held_32 rfl (hl.at 0 rfl) ?_
        refine y_getR B hR hf k_p0 fl_X1_27 dX1_held_33 (fun a8 k_a8 hf => ?_)
        refine lv_iload_n B.1.1 B.1.2.1 dX1_held_36 rfl (hl.at 2 rfl) ?_
        refine y_iald B hR hf k_a8 dX1_held_37 (fun v9 hf => ?_)
        refine lv_isub B.1.1 B.1.2.1 dX1_held_38 ?_
        refine lv_iadd B.1.1 B.1.2.1 dX1_held_39 ?_
        refine y_istore_n B hl hf dX1_held_40 rfl (by decide) rfl (fun v10 ls hf hl => ?_)
        have hl : xL ls 3 [_, _, _] := hl
        refine y_iinc (d := 1) B hl hf dX1_held_41 rfl (by decide) (by decide) rfl (fun v11 ls hf hl => ?_)
        have hl : xL ls 3 [_, _, _] := hl
        refine lv_goto (tgt := 4) B.1.1 B.1.2.1 dX1_held_44 (by decide) ?_
        exact ih _ _ _ _ _ _ _ k_p0 hf hR hS hl
def f_X1_held (T : xT) (S : xS) (p0 : Nat) : Option (Int32 × xS) := xl ((0 : Int32)) (fun v1 => xl ((0 : Int32)) (fun v2 => f_X1_held_4 T xfu S p0 v1 v2))
set_option maxRecDepth 100000 in
set_option maxHeartbeats 4000000 in
theorem c_X1_held {l : Launch} {z : Nat} {D : va_G} {dA : Nat → ClassId} {T : xT} {S : xS} {p0 : Nat} (k_p0 : xlk T p0 1 = true) {q : Int32 × xS} (hf : f_X1_held T S p0 = some q) : Met l yX1_held (xws yX1_held cX1_held 3 (some .int)) xr_X1_held (xPc z D dA T S [.ref (z + p0)]) (xQi z D dA T q) 0 0 (xA z) := by
  refine x_met RX1 (by decide) rfl (Nat.le_of_ble_eq_true rfl) ?_
  intro p e s m below meth c ls _ X hr hlk hml _ hR hS hl
  have B : xB p s m _ meth c cX1_held RX1 3 (some .int) D dA := ⟨X, hr, hlk, hml⟩
  have hl : xL ls 3 [_, _, _] := hl
  unfold f_X1_held at hf
  refine lv_iconst (v := 0) B.1.1 B.1.2.1 dX1_held_0 (by decide) ?_
  refine y_istore_n B hl hf dX1_held_1 rfl (by decide) rfl (fun v1 ls hf hl => ?_)
  have hl : xL ls 3 [_, _, _] := hl
  refine lv_iconst (v := 0) B.1.1 B.1.2.1 dX1_held_2 (by decide) ?_
  refine y_istore_n B hl hf dX1_held_3 rfl (by decide) rfl (fun v2 ls hf hl => ?_)
  have hl : xL ls 3 [_, _, _] := hl
  exact w_X1_held_4 B xfu _ _ _ _ _ _ _ k_p0 hf hR hS hl
abbrev xr_X9_total : Room := { frames := 1, cells := 0, slots := 0, locals := 12 }
def f_X9_total_4 (T : xT) : Nat → xS → Nat → Int32 → Int32 → Option (Int32 × xS)
  | 0, _, _, _, _ => none
  | n + 1, S, p0, p1, p2 => if (Int32.ofNat (T.2.1 p0)) ≤ p2 then some (p1, S) else xai T S p0 p2 (fun v1 => xl ((p1 + v1)) (fun v2 => xl (p2 + (1 : Int32)) (fun v3 => f_X9_total_4 T n S p0 v2 v3)))
set_option maxRecDepth 100000 in
set_option maxHeartbeats 4000000 in
theorem w_X9_total_4 {p : Program} {l : Launch} {e : Env} {s : State} {m : MethodId} {args : Array Value} {below : List Frame} {meth : Method} {c : Code} {z : Nat} {D : va_G} {dA : Nat → ClassId} {T : xT} (B : xB p s m args meth c cX9_total RX9 3 (some .int) D dA) {q : Int32 × xS} : ∀ (n : Nat), ∀ (S : xS) (H : Heap) (locs : List Loc) (ls : Array Slot) (p0 : Nat) (p1 : Int32) (p2 : Int32), xlk T p0 20 = true → f_X9_total_4 T n S p0 p1 p2 = some q → xRel z D dA T S H → va_S (xA z) s.heap H locs → xL ls 3 [some (.ref (z + p0)), some (.int p1), some (.int p2)] → xGi p l e xr_X9_total s m args below meth c z D dA T q H locs 4 ls [] := by
  intro n
  induction n with
  | zero =>
    intro S H locs ls p0 p1 p2 k_p0 hf hR hS hl
    exact absurd hf (by simp [f_X9_total_4])
  | succ n ih =>
    intro S H locs ls p0 p1 p2 k_p0 hf hR hS hl
    unfold f_X9_total_4 at hf
    refine lv_iload_n B.1.1 B.1.2.1 dX9_total_4 rfl (hl.at 2 rfl) ?_
    refine lv_aload_n B.1.1 B.1.2.1 dX9_total_5 rfl (hl.at 0 rfl) ?_
    refine y_alen B hR k_p0 dX9_total_6 ?_
    refine y_icmp_ge (tgt := 22) B hf dX9_total_7 (by decide) (fun hf => ?_) (fun hf => ?_)
    · refine lv_iload_n B.1.1 B.1.2.1 dX9_total_22 rfl (hl.at 1 rfl) ?_
      exact y_iret B hR hS hf dX9_total_23
    · refine lv_iload_n B.1.1 B.1.2.1 dX9_total_10 rfl (hl.at 1 rfl) ?_
      refine lv_aload_n B.1.1 B.1.2.1 dX9_total_11 rfl (hl.at 0 rfl) ?_
      refine lv_iload_n B.1.1 B.1.2.1 dX9_total_12 rfl (hl.at 2 rfl) ?_
      refine y_iald B hR hf k_p0 dX9_total_13 (fun v1 hf => ?_)
      refine lv_iadd B.1.1 B.1.2.1 dX9_total_14 ?_
      refine y_istore_n B hl hf dX9_total_15 rfl (by decide) rfl (fun v2 ls hf hl => ?_)
      have hl : xL ls 3 [_, _, _] := hl
      refine y_iinc (d := 1) B hl hf dX9_total_16 rfl (by decide) (by decide) rfl (fun v3 ls hf hl => ?_)
      have hl : xL ls 3 [_, _, _] := hl
      refine lv_goto (tgt := 4) B.1.1 B.1.2.1 dX9_total_19 (by decide) ?_
      exact ih _ _ _ _ _ _ _ k_p0 hf hR hS hl
def f_X9_total (T : xT) (S : xS) (p0 : Nat) : Option (Int32 × xS) := xl ((0 : Int32)) (fun v1 => xl ((0 : Int32)) (fun v2 => f_X9_total_4 T xfu S p0 v1 v2))
set_option maxRecDepth 100000 in
set_option maxHeartbeats 4000000 in
theorem c_X9_total {l : Launch} {z : Nat} {D : va_G} {dA : Nat → ClassId} {T : xT} {S : xS} {p0 : Nat} (k_p0 : xlk T p0 20 = true) {q : Int32 × xS} (hf : f_X9_total T S p0 = some q) : Met l yX9_total (xws yX9_total cX9_total 3 (some .int)) xr_X9_total (xPc z D dA T S [.ref (z + p0)]) (xQi z D dA T q) 0 0 (xA z) := by
  refine x_met RX9 (by decide) rfl (Nat.le_of_ble_eq_true rfl) ?_
  intro p e s m below meth c ls _ X hr hlk hml _ hR hS hl
  have B : xB p s m _ meth c cX9_total RX9 3 (some .int) D dA := ⟨X, hr, hlk, hml⟩
  have hl : xL ls 3 [_, _, _] := hl
  unfold f_X9_total at hf
  refine lv_iconst (v := 0) B.1.1 B.1.2.1 dX9_total_0 (by decide) ?_
  refine y_istore_n B hl hf dX9_total_1 rfl (by decide) rfl (fun v1 ls hf hl => ?_)
  have hl : xL ls 3 [_, _, _] := hl
  refine lv_iconst (v := 0) B.1.1 B.1.2.1 dX9_total_2 (by decide) ?_
  refine y_istore_n B hl hf dX9_total_3 rfl (by decide) rfl (fun v2 ls hf hl => ?_)
  have hl : xL ls 3 [_, _, _] := hl
  exact w_X9_total_4 B xfu _ _ _ _ _ _ _ k_p0 hf hR hS hl
abbrev xr_X1_gainOfAll : Room := { frames := 2, cells := 0, slots := 0, locals := 34 }
def f_X1_gainOfAll (T : xT) (S : xS) (p0 : Nat) : Option (Int32 × xS) := xgr T S p0 12 20 (fun a1 => xc (f_X9_total T S a1) (fun r3 S2 => xgr T S2 p0 11 20 (fun a4 => xc (f_X9_total T S2 a4) (fun r6 S5 => some ((r3 - r6), S5)))))
set_option maxRecDepth 100000 in
set_option maxHeartbeats 4000000 in
theorem c_X1_gainOfAll {l : Launch} {z : Nat} {D : va_G} {dA : Nat → ClassId} {T : xT} {S : xS} {p0 : Nat} (k_p0 : xlk T p0 1 = true) {q : Int32 × xS} (hf : f_X1_gainOfAll T S p0 = some q) : Met l yX1_gainOfAll (xws yX1_gainOfAll cX1_gainOfAll 1 (some .int)) xr_X1_gainOfAll (xPc z D dA T S [.ref (z + p0)]) (xQi z D dA T q) 0 0 (xA z) := by
  refine x_met RX1 (by decide) rfl (Nat.le_of_ble_eq_true rfl) ?_
  intro p e s m below meth c ls _ X hr hlk hml _ hR hS hl
  have B : xB p s m _ meth c cX1_gainOfAll RX1 1 (some .int) D dA := ⟨X, hr, hlk, hml⟩
  have hl : xL ls 1 [_] := hl
  unfold f_X1_gainOfAll at hf
  refine lv_aload_n B.1.1 B.1.2.1 dX1_gainOfAll_0 rfl (hl.at 0 rfl) ?_
  refine y_getR B hR hf k_p0 fl_X1_30 dX1_gainOfAll_1 (fun a1 k_a1 hf => ?_)
  refine y_ci hf (fun q hq => x_runN B.1 B.2.2.2 hl hR hS cm_X1_59 ⟨rfl, rfl, Nat.le_of_ble_eq_true rfl, Nat.le_of_ble_eq_true rfl⟩ (c_X9_total k_a1 hq) rfl rfl (Nat.le_of_ble_eq_true rfl) dX1_gainOfAll_4 ⟨Nat.le_of_ble_eq_true rfl, Nat.le_of_ble_eq_true rfl⟩) hS (fun r3 S2 H locs hf hR hS => ?_)
  refine lv_aload_n B.1.1 B.1.2.1 dX1_gainOfAll_7 rfl (hl.at 0 rfl) ?_
  refine y_getR B hR hf k_p0 fl_X1_27 dX1_gainOfAll_8 (fun a4 k_a4 hf => ?_)
  refine y_ci hf (fun q hq => x_runN B.1 B.2.2.2 hl hR hS cm_X1_59 ⟨rfl, rfl, Nat.le_of_ble_eq_true rfl, Nat.le_of_ble_eq_true rfl⟩ (c_X9_total k_a4 hq) rfl rfl (Nat.le_of_ble_eq_true rfl) dX1_gainOfAll_11 ⟨Nat.le_of_ble_eq_true rfl, Nat.le_of_ble_eq_true rfl⟩) hS (fun r6 S5 H locs hf hR hS => ?_)
  refine lv_isub B.1.1 B.1.2.1 dX1_gainOfAll_14 ?_
  exact y_iret B hR hS hf dX1_gainOfAll_15
abbrev xr_X1_floorOf : Room := { frames := 1, cells := 0, slots := 0, locals := 12 }
def f_X1_floorOf (T : xT) (S : xS) (p0 : Nat) (p1 : Int32) : Option (Int32 × xS) := xgr T S p0 7 20 (fun a1 => xai T S a1 p1 (fun v2 => xgr T S p0 9 20 (fun a3 => xai T S a3 p1 (fun v4 => some (((-v2) - v4), S)))))
set_option maxRecDepth 100000 in
set_option maxHeartbeats 4000000 in
theorem c_X1_floorOf {l : Launch} {z : Nat} {D : va_G} {dA : Nat → ClassId} {T : xT} {S : xS} {p0 : Nat} {p1 : Int32} (k_p0 : xlk T p0 1 = true) {q : Int32 × xS} (hf : f_X1_floorOf T S p0 p1 = some q) : Met l yX1_floorOf (xws yX1_floorOf cX1_floorOf 2 (some .int)) xr_X1_floorOf (xPc z D dA T S [.ref (z + p0), .int p1]) (xQi z D dA T q) 0 0 (xA z) := by
  refine x_met RX1 (by decide) rfl (Nat.le_of_ble_eq_true rfl) ?_
  intro p e s m below meth c ls _ X hr hlk hml _ hR hS hl
  have B : xB p s m _ meth c cX1_floorOf RX1 2 (some .int) D dA := ⟨X, hr, hlk, hml⟩
  have hl : xL ls 2 [_, _] := hl
  unfold f_X1_floorOf at hf
  refine lv_aload_n B.1.1 B.1.2.1 dX1_floorOf_0 rfl (hl.at 0 rfl) ?_
  refine y_getR B hR hf k_p0 fl_X1_15 dX1_floorOf_1 (fun a1 k_a1 hf => ?_)
  refine lv_iload_n B.1.1 B.1.2.1 dX1_floorOf_4 rfl (hl.at 1 rfl) ?_
  refine y_iald B hR hf k_a1 dX1_floorOf_5 (fun v2 hf => ?_)
  refine lv_ineg B.1.1 B.1.2.1 dX1_floorOf_6 ?_
  refine lv_aload_n B.1.1 B.1.2.1 dX1_floorOf_7 rfl (hl.at 0 rfl) ?_
  refine y_getR B hR hf k_p0 fl_X1_21 dX1_floorOf_8 (fun a3 k_a3 hf => ?_)
  refine lv_iload_n B.1.1 B.1.2.1 dX1_floorOf_11 rfl (hl.at 1 rfl) ?_
  refine y_iald B hR hf k_a3 dX1_floorOf_12 (fun v4 hf => ?_)
  refine lv_isub B.1.1 B.1.2.1 dX1_floorOf_13 ?_
  exact y_iret B hR hS hf dX1_floorOf_14
abbrev xr_X1_admit : Room := { frames := 1, cells := 0, slots := 0, locals := 12 }
def f_X1_admit (T : xT) (S : xS) (p0 : Nat) (p1 : Int32) : Option (xS) := xpi S p0 0 (((S.1 p0 0) ||| ((1 : Int32) <<< (p1 &&& 31)))) (fun S1 => xgr T S1 p0 8 20 (fun a2 => xst T S1 a2 p1 ((1 : Int32)) (fun S3 => some S3)))
set_option maxRecDepth 100000 in
set_option maxHeartbeats 4000000 in
theorem c_X1_admit {l : Launch} {z : Nat} {D : va_G} {dA : Nat → ClassId} {T : xT} {S : xS} {p0 : Nat} {p1 : Int32} (k_p0 : xlk T p0 1 = true) {q : xS} (hf : f_X1_admit T S p0 p1 = some q) : Met l yX1_admit (xws yX1_admit cX1_admit 2 none) xr_X1_admit (xPc z D dA T S [.ref (z + p0), .int p1]) (xQv z D dA T q) 0 0 (xA z) := by
  refine x_met RX1 (by decide) rfl (Nat.le_of_ble_eq_true rfl) ?_
  intro p e s m below meth c ls _ X hr hlk hml _ hR hS hl
  have B : xB p s m _ meth c cX1_admit RX1 2 none D dA := ⟨X, hr, hlk, hml⟩
  have hl : xL ls 2 [_, _] := hl
  unfold f_X1_admit at hf
  refine lv_aload_n B.1.1 B.1.2.1 dX1_admit_0 rfl (hl.at 0 rfl) ?_
  refine lv_dup B.1.1 B.1.2.1 dX1_admit_1 rfl ?_
  refine y_getI B hR k_p0 fl_X1_36 dX1_admit_2 ?_
  refine lv_iconst (v := 1) B.1.1 B.1.2.1 dX1_admit_5 (by decide) ?_
  refine lv_iload_n B.1.1 B.1.2.1 dX1_admit_6 rfl (hl.at 1 rfl) ?_
  refine lv_ishl B.1.1 B.1.2.1 dX1_admit_7 ?_
  refine lv_ior B.1.1 B.1.2.1 dX1_admit_8 ?_
  refine y_putI B hR hS hf k_p0 fp_X1_36 dX1_admit_9 (fun S1 H locs hf hR hS => ?_)
  refine lv_aload_n B.1.1 B.1.2.1 dX1_admit_12 rfl (hl.at 0 rfl) ?_
  refine y_getR B hR hf k_p0 fl_X1_18 dX1_admit_13 (fun a2 k_a2 hf => ?_)
  refine lv_iload_n B.1.1 B.1.2.1 dX1_admit_16 rfl (hl.at 1 rfl) ?_
  refine lv_iconst (v := 1) B.1.1 B.1.2.1 dX1_admit_17 (by decide) ?_
  refine y_iast B hR hS hf k_a2 dX1_admit_18 (fun S3 H locs hf hR hS => ?_)
  exact y_vret B hR hS hf dX1_admit_19
abbrev xr_X1_payIn : Room := { frames := 1, cells := 0, slots := 0, locals := 12 }
def f_X1_payIn (T : xT) (S : xS) (p0 : Nat) (p1 : Int32) (p2 : Int32) : Option (Int32 × xS) := xgr T S p0 6 20 (fun a1 => xai T S a1 p1 (fun v2 => xst T S a1 p1 ((v2 + p2)) (fun S3 => xpi S3 p0 2 (((S3.1 p0 2) + p2)) (fun S4 => xgr T S4 p0 6 20 (fun a5 => xai T S4 a5 p1 (fun v6 => some (v6, S4)))))))
set_option maxRecDepth 100000 in
set_option maxHeartbeats 4000000 in
theorem c_X1_payIn {l : Launch} {z : Nat} {D : va_G} {dA : Nat → ClassId} {T : xT} {S : xS} {p0 : Nat} {p1 : Int32} {p2 : Int32} (k_p0 : xlk T p0 1 = true) {q : Int32 × xS} (hf : f_X1_payIn T S p0 p1 p2 = some q) : Met l yX1_payIn (xws yX1_payIn cX1_payIn 3 (some .int)) xr_X1_payIn (xPc z D dA T S [.ref (z + p0), .int p1, .int p2]) (xQi z D dA T q) 0 0 (xA z) := by
  refine x_met RX1 (by decide) rfl (Nat.le_of_ble_eq_true rfl) ?_
  intro p e s m below meth c ls _ X hr hlk hml _ hR hS hl
  have B : xB p s m _ meth c cX1_payIn RX1 3 (some .int) D dA := ⟨X, hr, hlk, hml⟩
  have hl : xL ls 3 [_, _, _] := hl
  unfold f_X1_payIn at hf
  refine lv_aload_n B.1.1 B.1.2.1 dX1_payIn_0 rfl (hl.at 0 rfl) ?_
  refine y_getR B hR hf k_p0 fl_X1_9 dX1_payIn_1 (fun a1 k_a1 hf => ?_)
  refine lv_iload_n B.1.1 B.1.2.1 dX1_payIn_4 rfl (hl.at 1 rfl) ?_
  refine lv_dup2_11 B.1.1 B.1.2.1 dX1_payIn_5 rfl rfl ?_
  refine y_iald B hR hf k_a1 dX1_payIn_6 (fun v2 hf => ?_)
  refine lv_iload_n B.1.1 B.1.2.1 dX1_payIn_7 rfl (hl.at 2 rfl) ?_
  refine lv_iadd B.1.1 B.1.2.1 dX1_payIn_8 ?_
  refine y_iast B hR hS hf k_a1 dX1_payIn_9 (fun S3 H locs hf hR hS => ?_)
  refine lv_aload_n B.1.1 B.1.2.1 dX1_payIn_10 rfl (hl.at 0 rfl) ?_
  refine lv_dup B.1.1 B.1.2.1 dX1_payIn_11 rfl ?_
  refine y_getI B hR k_p0 fl_X1_43 dX1_payIn_12 ?_
  refine lv_iload_n B.1.1 B.1.2.1 dX1_payIn_15 rfl (hl.at 2 rfl) ?_
  refine lv_iadd B.1.1 B.1.2.1 dX1_payIn_16 ?_
  refine y_putI B hR hS hf k_p0 fp_X1_43 dX1_payIn_17 (fun S4 H locs hf hR hS => ?_)
  refine lv_aload_n B.1.1 B.1.2.1 dX1_payIn_20 rfl (hl.at 0 rfl) ?_
  refine y_getR B hR hf k_p0 fl_X1_9 dX1_payIn_21 (fun a5 k_a5 hf => ?_)
  refine lv_iload_n B.1.1 B.1.2.1 dX1_payIn_24 rfl (hl.at 1 rfl) ?_
  refine y_iald B hR hf k_a5 dX1_payIn_25 (fun v6 hf => ?_)
  exact y_iret B hR hS hf dX1_payIn_26
abbrev xr_X1_letIn : Room := { frames := 2, cells := 0, slots := 0, locals := 34 }
def f_X1_letIn_12 (T : xT) (S : xS) (p0 : Nat) (p1 : Int32) (p2 : Int32) (p3 : Int32) (ps0 : Int32) : Option (Int32 × xS) := xl ps0 (fun v1 => xcv (f_X1_admit T S p0 p1) (fun S2 => xgr T S2 p0 6 20 (fun a3 => if v1 = (0 : Int32) then xst T S2 a3 p1 ((0 : Int32)) (fun S4 => xc (f_X1_payIn T S4 p0 p1 p2) (fun r6 S5 => some (r6, S5))) else xst T S2 a3 p1 p3 (fun S7 => xc (f_X1_payIn T S7 p0 p1 p2) (fun r9 S8 => some (r9, S8))))))
set_option maxRecDepth 100000 in
set_option maxHeartbeats 4000000 in
theorem w_X1_letIn_12 {p : Program} {l : Launch} {e : Env} {s : State} {m : MethodId} {args : Array Value} {below : List Frame} {meth : Method} {c : Code} {z : Nat} {D : va_G} {dA : Nat → ClassId} {T : xT} (B : xB p s m args meth c cX1_letIn RX1 5 (some .int) D dA) {q : Int32 × xS} : ∀ (S : xS) (H : Heap) (locs : List Loc) (ls : Array Slot) (p0 : Nat) (p1 : Int32) (p2 : Int32) (p3 : Int32) (ps0 : Int32), xlk T p0 1 = true → f_X1_letIn_12 T S p0 p1 p2 p3 ps0 = some q → xRel z D dA T S H → va_S (xA z) s.heap H locs → xL ls 5 [some (.ref (z + p0)), some (.int p1), some (.int p2), some (.int p3), none] → xGi p l e xr_X1_letIn s m args below meth c z D dA T q H locs 12 ls [.int ps0] := by
  intro S H locs ls p0 p1 p2 p3 ps0 k_p0 hf hR hS hl
  unfold f_X1_letIn_12 at hf
  refine y_istore B hl hf dX1_letIn_12 (by decide) rfl (fun v1 ls hf hl => ?_)
  have hl : xL ls 5 [_, _, _, _, _] := hl
  refine lv_aload_n B.1.1 B.1.2.1 dX1_letIn_14 rfl (hl.at 0 rfl) ?_
  refine lv_iload_n B.1.1 B.1.2.1 dX1_letIn_15 rfl (hl.at 1 rfl) ?_
  refine y_cv hf (fun q hq => x_runV (ci := 1) (C := RX1) B.1 B.2.2.2 hl hR hS cm_X1_63 ⟨rfl, rfl, Nat.le_of_ble_eq_true rfl, Nat.le_of_ble_eq_true rfl⟩ (by decide) rfl k_p0 (c_X1_admit k_p0 hq) rfl rfl (Nat.le_of_ble_eq_true rfl) dX1_letIn_16 ⟨Nat.le_of_ble_eq_true rfl, Nat.le_of_ble_eq_true rfl⟩) hS (fun S2 H locs hf hR hS => ?_)
  refine lv_aload_n B.1.1 B.1.2.1 dX1_letIn_19 rfl (hl.at 0 rfl) ?_
  refine y_getR B hR hf k_p0 fl_X1_9 dX1_letIn_20 (fun a3 k_a3 hf => ?_)
  refine lv_iload_n B.1.1 B.1.2.1 dX1_letIn_23 rfl (hl.at 1 rfl) ?_
  refine lv_iload B.1.1 B.1.2.1 dX1_letIn_24 (hl.at 4 rfl) ?_
  refine y_if_eq (tgt := 33) B hf dX1_letIn_26 (by decide) (fun hf => ?_) (fun hf => ?_)
  · refine lv_iconst (v := 0) B.1.1 B.1.2.1 dX1_letIn_33 (by decide) ?_
    refine y_iast B hR hS hf k_a3 dX1_letIn_34 (fun S4 H locs hf hR hS => ?_)
    refine lv_aload_n B.1.1 B.1.2.1 dX1_letIn_35 rfl (hl.at 0 rfl) ?_
    refine lv_iload_n B.1.1 B.1.2.1 dX1_letIn_36 rfl (hl.at 1 rfl) ?_
    refine lv_iload_n B.1.1 B.1.2.1 dX1_letIn_37 rfl (hl.at 2 rfl) ?_
    refine y_ci hf (fun q hq => x_runV (ci := 1) (C := RX1) B.1 B.2.2.2 hl hR hS cm_X1_67 ⟨rfl, rfl, Nat.le_of_ble_eq_true rfl, Nat.le_of_ble_eq_true rfl⟩ (by decide) rfl k_p0 (c_X1_payIn k_p0 hq) rfl rfl (Nat.le_of_ble_eq_true rfl) dX1_letIn_38 ⟨Nat.le_of_ble_eq_true rfl, Nat.le_of_ble_eq_true rfl⟩) hS (fun r6 S5 H locs hf hR hS => ?_)
    exact y_iret B hR hS hf dX1_letIn_41
  · refine lv_iload_n B.1.1 B.1.2.1 dX1_letIn_29 rfl (hl.at 3 rfl) ?_
    refine lv_goto (tgt := 34) B.1.1 B.1.2.1 dX1_letIn_30 (by decide) ?_
    refine y_iast B hR hS hf k_a3 dX1_letIn_34 (fun S7 H locs hf hR hS => ?_)
    refine lv_aload_n B.1.1 B.1.2.1 dX1_letIn_35 rfl (hl.at 0 rfl) ?_
    refine lv_iload_n B.1.1 B.1.2.1 dX1_letIn_36 rfl (hl.at 1 rfl) ?_
    refine lv_iload_n B.1.1 B.1.2.1 dX1_letIn_37 rfl (hl.at 2 rfl) ?_
    refine y_ci hf (fun q hq => x_runV (ci := 1) (C := RX1) B.1 B.2.2.2 hl hR hS cm_X1_67 ⟨rfl, rfl, Nat.le_of_ble_eq_true rfl, Nat.le_of_ble_eq_true rfl⟩ (by decide) rfl k_p0 (c_X1_payIn k_p0 hq) rfl rfl (Nat.le_of_ble_eq_true rfl) dX1_letIn_38 ⟨Nat.le_of_ble_eq_true rfl, Nat.le_of_ble_eq_true rfl⟩) hS (fun r9 S8 H locs hf hR hS => ?_)
    exact y_iret B hR hS hf dX1_letIn_41
def f_X1_letIn (T : xT) (S : xS) (p0 : Nat) (p1 : Int32) (p2 : Int32) (p3 : Int32) : Option (Int32 × xS) := if (S.1 p0 0) = (0 : Int32) then f_X1_letIn_12 T S p0 p1 p2 p3 ((1 : Int32)) else f_X1_letIn_12 T S p0 p1 p2 p3 ((0 : Int32))
set_option maxRecDepth 100000 in
set_option maxHeartbeats 4000000 in
theorem c_X1_letIn {l : Launch} {z : Nat} {D : va_G} {dA : Nat → ClassId} {T : xT} {S : xS} {p0 : Nat} {p1 : Int32} {p2 : Int32} {p3 : Int32} (k_p0 : xlk T p0 1 = true) {q : Int32 × xS} (hf : f_X1_letIn T S p0 p1 p2 p3 = some q) : Met l yX1_letIn (xws yX1_letIn cX1_letIn 5 (some .int)) xr_X1_letIn (xPc z D dA T S [.ref (z + p0), .int p1, .int p2, .int p3]) (xQi z D dA T q) 0 0 (xA z) := by
  refine x_met RX1 (by decide) rfl (Nat.le_of_ble_eq_true rfl) ?_
  intro p e s m below meth c ls _ X hr hlk hml _ hR hS hl
  have B : xB p s m _ meth c cX1_letIn RX1 5 (some .int) D dA := ⟨X, hr, hlk, hml⟩
  have hl : xL ls 5 [_, _, _, _, _] := hl
  unfold f_X1_letIn at hf
  refine lv_aload_n B.1.1 B.1.2.1 dX1_letIn_0 rfl (hl.at 0 rfl) ?_
  refine y_getI B hR k_p0 fl_X1_36 dX1_letIn_1 ?_
  refine y_if_ne (tgt := 11) B hf dX1_letIn_4 (by decide) (fun hf => ?_) (fun hf => ?_)
  · refine lv_iconst (v := 0) B.1.1 B.1.2.1 dX1_letIn_11 (by decide) ?_
    exact w_X1_letIn_12 B _ _ _ _ _ _ _ _ _ k_p0 hf hR hS hl
  · refine lv_iconst (v := 1) B.1.1 B.1.2.1 dX1_letIn_7 (by decide) ?_
    refine lv_goto (tgt := 12) B.1.1 B.1.2.1 dX1_letIn_8 (by decide) ?_
    exact w_X1_letIn_12 B _ _ _ _ _ _ _ _ _ k_p0 hf hR hS hl
abbrev xr_X1_dismiss : Room := { frames := 1, cells := 0, slots := 0, locals := 12 }
def f_X1_dismiss (T : xT) (S : xS) (p0 : Nat) (p1 : Int32) : Option (xS) := xpi S p0 0 (((S.1 p0 0) &&& (((1 : Int32) <<< (p1 &&& 31)) ^^^ (-1 : Int32)))) (fun S1 => xgr T S1 p0 6 20 (fun a2 => xst T S1 a2 p1 ((0 : Int32)) (fun S3 => xgr T S3 p0 7 20 (fun a4 => xst T S3 a4 p1 ((0 : Int32)) (fun S5 => xgr T S5 p0 8 20 (fun a6 => xst T S5 a6 p1 ((0 : Int32)) (fun S7 => xgr T S7 p0 9 20 (fun a8 => xst T S7 a8 p1 ((0 : Int32)) (fun S9 => xgr T S9 p0 10 20 (fun a10 => xst T S9 a10 p1 ((0 : Int32)) (fun S11 => some S11)))))))))))
set_option maxRecDepth 100000 in
set_option maxHeartbeats 4000000 in
theorem c_X1_dismiss {l : Launch} {z : Nat} {D : va_G} {dA : Nat → ClassId} {T : xT} {S : xS} {p0 : Nat} {p1 : Int32} (k_p0 : xlk T p0 1 = true) {q : xS} (hf : f_X1_dismiss T S p0 p1 = some q) : Met l yX1_dismiss (xws yX1_dismiss cX1_dismiss 2 none) xr_X1_dismiss (xPc z D dA T S [.ref (z + p0), .int p1]) (xQv z D dA T q) 0 0 (xA z) := by
  refine x_met RX1 (by decide) rfl (Nat.le_of_ble_eq_true rfl) ?_
  intro p e s m below meth c ls _ X hr hlk hml _ hR hS hl
  have B : xB p s m _ meth c cX1_dismiss RX1 2 none D dA := ⟨X, hr, hlk, hml⟩
  have hl : xL ls 2 [_, _] := hl
  unfold f_X1_dismiss at hf
  refine lv_aload_n B.1.1 B.1.2.1 dX1_dismiss_0 rfl (hl.at 0 rfl) ?_
  refine lv_dup B.1.1 B.1.2.1 dX1_dismiss_1 rfl ?_
  refine y_getI B hR k_p0 fl_X1_36 dX1_dismiss_2 ?_
  refine lv_iconst (v := 1) B.1.1 B.1.2.1 dX1_dismiss_5 (by decide) ?_
  refine lv_iload_n B.1.1 B.1.2.1 dX1_dismiss_6 rfl (hl.at 1 rfl) ?_
  refine lv_ishl B.1.1 B.1.2.1 dX1_dismiss_7 ?_
  refine lv_iconst (v := -1) B.1.1 B.1.2.1 dX1_dismiss_8 (by decide) ?_
  refine lv_ixor B.1.1 B.1.2.1 dX1_dismiss_9 ?_
  refine lv_iand B.1.1 B.1.2.1 dX1_dismiss_10 ?_
  refine y_putI B hR hS hf k_p0 fp_X1_36 dX1_dismiss_11 (fun S1 H locs hf hR hS => ?_)
  refine lv_aload_n B.1.1 B.1.2.1 dX1_dismiss_14 rfl (hl.at 0 rfl) ?_
  refine y_getR B hR hf k_p0 fl_X1_9 dX1_dismiss_15 (fun a2 k_a2 hf => ?_)
  refine lv_iload_n B.1.1 B.1.2.1 dX1_dismiss_18 rfl (hl.at 1 rfl) ?_
  refine lv_iconst (v := 0) B.1.1 B.1.2.1 dX1_dismiss_19 (by decide) ?_
  refine y_iast B hR hS hf k_a2 dX1_dismiss_20 (fun S3 H locs hf hR hS => ?_)
  refine lv_aload_n B.1.1 B.1.2.1 dX1_dismiss_21 rfl (hl.at 0 rfl) ?_
  refine y_getR B hR hf k_p0 fl_X1_15 dX1_dismiss_22 (fun a4 k_a4 hf => ?_)
  refine lv_iload_n B.1.1 B.1.2.1 dX1_dismiss_25 rfl (hl.at 1 rfl) ?_
  refine lv_iconst (v := 0) B.1.1 B.1.2.1 dX1_dismiss_26 (by decide) ?_
  refine y_iast B hR hS hf k_a4 dX1_dismiss_27 (fun S5 H locs hf hR hS => ?_)
  refine lv_aload_n B.1.1 B.1.2.1 dX1_dismiss_28 rfl (hl.at 0 rfl) ?_
  refine y_getR B hR hf k_p0 fl_X1_18 dX1_dismiss_29 (fun a6 k_a6 hf => ?_)
  refine lv_iload_n B.1.1 B.1.2.1 dX1_dismiss_32 rfl (hl.at 1 rfl) ?_
  refine lv_iconst (v := 0) B.1.1 B.1.2.1 dX1_dismiss_33 (by decide) ?_
  refine y_iast B hR hS hf k_a6 dX1_dismiss_34 (fun S7 H locs hf hR hS => ?_)
  refine lv_aload_n B.1.1 B.1.2.1 dX1_dismiss_35 rfl (hl.at 0 rfl) ?_
  refine y_getR B hR hf k_p0 fl_X1_21 dX1_dismiss_36 (fun a8 k_a8 hf => ?_)
  refine lv_iload_n B.1.1 B.1.2.1 dX1_dismiss_39 rfl (hl.at 1 rfl) ?_
  refine lv_iconst (v := 0) B.1.1 B.1.2.1 dX1_dismiss_40 (by decide) ?_
  refine y_iast B hR hS hf k_a8 dX1_dismiss_41 (fun S9 H locs hf hR hS => ?_)
  refine lv_aload_n B.1.1 B.1.2.1 dX1_dismiss_42 rfl (hl.at 0 rfl) ?_
  refine y_getR B hR hf k_p0 fl_X1_24 dX1_dismiss_43 (fun a10 k_a10 hf => ?_)
  refine lv_iload_n B.1.1 B.1.2.1 dX1_dismiss_46 rfl (hl.at 1 rfl) ?_
  refine lv_iconst (v := 0) B.1.1 B.1.2.1 dX1_dismiss_47 (by decide) ?_
  refine y_iast B hR hS hf k_a10 dX1_dismiss_48 (fun S11 H locs hf hR hS => ?_)
  exact y_vret B hR hS hf dX1_dismiss_49
abbrev xr_X1_freeAsset : Room := { frames := 2, cells := 0, slots := 0, locals := 33 }
def f_X1_freeAsset_2 (T : xT) : Nat → xS → Nat → Int32 → Option (Int32 × xS)
  | 0, _, _, _ => none
  | n + 1, S, p0, p1 => if (8 : Int32) ≤ p1 then some ((-1 : Int32), S) else xc (f_X1_hasAsset T S p0 p1) (fun r2 S1 => if r2 = (0 : Int32) then some (p1, S1) else xl (p1 + (1 : Int32)) (fun v3 => f_X1_freeAsset_2 T n S1 p0 v3))
set_option maxRecDepth 100000 in
set_option maxHeartbeats 4000000 in
theorem w_X1_freeAsset_2 {p : Program} {l : Launch} {e : Env} {s : State} {m : MethodId} {args : Array Value} {below : List Frame} {meth : Method} {c : Code} {z : Nat} {D : va_G} {dA : Nat → ClassId} {T : xT} (B : xB p s m args meth c cX1_freeAsset RX1 2 (some .int) D dA) {q : Int32 × xS} : ∀ (n : Nat), ∀ (S : xS) (H : Heap) (locs : List Loc) (ls : Array Slot) (p0 : Nat) (p1 : Int32), xlk T p0 1 = true → f_X1_freeAsset_2 T n S p0 p1 = some q → xRel z D dA T S H → va_S (xA z) s.heap H locs → xL ls 2 [some (.ref (z + p0)), some (.int p1)] → xGi p l e xr_X1_freeAsset s m args below meth c z D dA T q H locs 2 ls [] := by
  intro n
  induction n with
  | zero =>
    intro S H locs ls p0 p1 k_p0 hf hR hS hl
    exact absurd hf (by simp [f_X1_freeAsset_2])
  | succ n ih =>
    intro S H locs ls p0 p1 k_p0 hf hR hS hl
    unfold f_X1_freeAsset_2 at hf
    refine lv_iload_n B.1.1 B.1.2.1 dX1_freeAsset_2 rfl (hl.at 1 rfl) ?_
    refine lv_bipush (v := 8) B.1.1 B.1.2.1 dX1_freeAsset_3 (by decide) ?_
    refine y_icmp_ge (tgt := 24) B hf dX1_freeAsset_5 (by decide) (fun hf => ?_) (fun hf => ?_)
    · refine lv_iconst (v := -1) B.1.1 B.1.2.1 dX1_freeAsset_24 (by decide) ?_
      exact y_iret B hR hS hf dX1_freeAsset_25
    · refine lv_aload_n B.1.1 B.1.2.1 dX1_freeAsset_8 rfl (hl.at 0 rfl) ?_
      refine lv_iload_n B.1.1 B.1.2.1 dX1_freeAsset_9 rfl (hl.at 1 rfl) ?_
      refine y_ci hf (fun q hq => x_runV (ci := 1) (C := RX1) B.1 B.2.2.2 hl hR hS cm_X1_71 ⟨rfl, rfl, Nat.le_of_ble_eq_true rfl, Nat.le_of_ble_eq_true rfl⟩ (by decide) rfl k_p0 (c_X1_hasAsset k_p0 hq) rfl rfl (Nat.le_of_ble_eq_true rfl) dX1_freeAsset_10 ⟨Nat.le_of_ble_eq_true rfl, Nat.le_of_ble_eq_true rfl⟩) hS (fun r2 S1 H locs hf hR hS => ?_)
      refine y_if_ne (tgt := 18) B hf dX1_freeAsset_13 (by decide) (fun hf => ?_) (fun hf => ?_)
      · refine y_iinc (d := 1) B hl hf dX1_freeAsset_18 rfl (by decide) (by decide) rfl (fun v3 ls hf hl => ?_)
        have hl : xL ls 2 [_, _] := hl
        refine lv_goto (tgt := 2) B.1.1 B.1.2.1 dX1_freeAsset_21 (by decide) ?_
        exact ih _ _ _ _ _ _ k_p0 hf hR hS hl
      · refine lv_iload_n B.1.1 B.1.2.1 dX1_freeAsset_16 rfl (hl.at 1 rfl) ?_
        exact y_iret B hR hS hf dX1_freeAsset_17
def f_X1_freeAsset (T : xT) (S : xS) (p0 : Nat) : Option (Int32 × xS) := xl ((0 : Int32)) (fun v1 => f_X1_freeAsset_2 T xfu S p0 v1)
set_option maxRecDepth 100000 in
set_option maxHeartbeats 4000000 in
theorem c_X1_freeAsset {l : Launch} {z : Nat} {D : va_G} {dA : Nat → ClassId} {T : xT} {S : xS} {p0 : Nat} (k_p0 : xlk T p0 1 = true) {q : Int32 × xS} (hf : f_X1_freeAsset T S p0 = some q) : Met l yX1_freeAsset (xws yX1_freeAsset cX1_freeAsset 2 (some .int)) xr_X1_freeAsset (xPc z D dA T S [.ref (z + p0)]) (xQi z D dA T q) 0 0 (xA z) := by
  refine x_met RX1 (by decide) rfl (Nat.le_of_ble_eq_true rfl) ?_
  intro p e s m below meth c ls _ X hr hlk hml _ hR hS hl
  have B : xB p s m _ meth c cX1_freeAsset RX1 2 (some .int) D dA := ⟨X, hr, hlk, hml⟩
  have hl : xL ls 2 [_, _] := hl
  unfold f_X1_freeAsset at hf
  refine lv_iconst (v := 0) B.1.1 B.1.2.1 dX1_freeAsset_0 (by decide) ?_
  refine y_istore_n B hl hf dX1_freeAsset_1 rfl (by decide) rfl (fun v1 ls hf hl => ?_)
  have hl : xL ls 2 [_, _] := hl
  exact w_X1_freeAsset_2 B xfu _ _ _ _ _ _ k_p0 hf hR hS hl
abbrev xr_X1_addAsset : Room := { frames := 1, cells := 0, slots := 0, locals := 12 }
def f_X1_addAsset (T : xT) (S : xS) (p0 : Nat) (p1 : Int32) (p2 : Int32) (p3 : Int32) (p4 : Int32) : Option (xS) := xpi S p0 1 (((S.1 p0 1) ||| ((1 : Int32) <<< (p1 &&& 31)))) (fun S1 => xgr T S1 p0 11 20 (fun a2 => xst T S1 a2 p1 p2 (fun S3 => xgr T S3 p0 12 20 (fun a4 => xst T S3 a4 p1 p3 (fun S5 => xgr T S5 p0 13 20 (fun a6 => xst T S5 a6 p1 p4 (fun S7 => xpi S7 p0 2 (((S7.1 p0 2) - (p2 - p4))) (fun S8 => some S8))))))))
set_option maxRecDepth 100000 in
set_option maxHeartbeats 4000000 in
theorem c_X1_addAsset {l : Launch} {z : Nat} {D : va_G} {dA : Nat → ClassId} {T : xT} {S : xS} {p0 : Nat} {p1 : Int32} {p2 : Int32} {p3 : Int32} {p4 : Int32} (k_p0 : xlk T p0 1 = true) {q : xS} (hf : f_X1_addAsset T S p0 p1 p2 p3 p4 = some q) : Met l yX1_addAsset (xws yX1_addAsset cX1_addAsset 5 none) xr_X1_addAsset (xPc z D dA T S [.ref (z + p0), .int p1, .int p2, .int p3, .int p4]) (xQv z D dA T q) 0 0 (xA z) := by
  refine x_met RX1 (by decide) rfl (Nat.le_of_ble_eq_true rfl) ?_
  intro p e s m below meth c ls _ X hr hlk hml _ hR hS hl
  have B : xB p s m _ meth c cX1_addAsset RX1 5 none D dA := ⟨X, hr, hlk, hml⟩
  have hl : xL ls 5 [_, _, _, _, _] := hl
  unfold f_X1_addAsset at hf
  refine lv_aload_n B.1.1 B.1.2.1 dX1_addAsset_0 rfl (hl.at 0 rfl) ?_
  refine lv_dup B.1.1 B.1.2.1 dX1_addAsset_1 rfl ?_
  refine y_getI B hR k_p0 fl_X1_40 dX1_addAsset_2 ?_
  refine lv_iconst (v := 1) B.1.1 B.1.2.1 dX1_addAsset_5 (by decide) ?_
  refine lv_iload_n B.1.1 B.1.2.1 dX1_addAsset_6 rfl (hl.at 1 rfl) ?_
  refine lv_ishl B.1.1 B.1.2.1 dX1_addAsset_7 ?_
  refine lv_ior B.1.1 B.1.2.1 dX1_addAsset_8 ?_
  refine y_putI B hR hS hf k_p0 fp_X1_40 dX1_addAsset_9 (fun S1 H locs hf hR hS => ?_)
  refine lv_aload_n B.1.1 B.1.2.1 dX1_addAsset_12 rfl (hl.at 0 rfl) ?_
  refine y_getR B hR hf k_p0 fl_X1_27 dX1_addAsset_13 (fun a2 k_a2 hf => ?_)
  refine lv_iload_n B.1.1 B.1.2.1 dX1_addAsset_16 rfl (hl.at 1 rfl) ?_
  refine lv_iload_n B.1.1 B.1.2.1 dX1_addAsset_17 rfl (hl.at 2 rfl) ?_
  refine y_iast B hR hS hf k_a2 dX1_addAsset_18 (fun S3 H locs hf hR hS => ?_)
  refine lv_aload_n B.1.1 B.1.2.1 dX1_addAsset_19 rfl (hl.at 0 rfl) ?_
  refine y_getR B hR hf k_p0 fl_X1_30 dX1_addAsset_20 (fun a4 k_a4 hf => ?_)
  refine lv_iload_n B.1.1 B.1.2.1 dX1_addAsset_23 rfl (hl.at 1 rfl) ?_
  refine lv_iload_n B.1.1 B.1.2.1 dX1_addAsset_24 rfl (hl.at 3 rfl) ?_
  refine y_iast B hR hS hf k_a4 dX1_addAsset_25 (fun S5 H locs hf hR hS => ?_)
  refine lv_aload_n B.1.1 B.1.2.1 dX1_addAsset_26 rfl (hl.at 0 rfl) ?_
  refine y_getR B hR hf k_p0 fl_X1_33 dX1_addAsset_27 (fun a6 k_a6 hf => ?_)
  refine lv_iload_n B.1.1 B.1.2.1 dX1_addAsset_30 rfl (hl.at 1 rfl) ?_
  refine lv_iload B.1.1 B.1.2.1 dX1_addAsset_31 (hl.at 4 rfl) ?_
  refine y_iast B hR hS hf k_a6 dX1_addAsset_33 (fun S7 H locs hf hR hS => ?_)
  refine lv_aload_n B.1.1 B.1.2.1 dX1_addAsset_34 rfl (hl.at 0 rfl) ?_
  refine lv_dup B.1.1 B.1.2.1 dX1_addAsset_35 rfl ?_
  refine y_getI B hR k_p0 fl_X1_43 dX1_addAsset_36 ?_
  refine lv_iload_n B.1.1 B.1.2.1 dX1_addAsset_39 rfl (hl.at 2 rfl) ?_
  refine lv_iload B.1.1 B.1.2.1 dX1_addAsset_40 (hl.at 4 rfl) ?_
  refine lv_isub B.1.1 B.1.2.1 dX1_addAsset_42 ?_
  refine lv_isub B.1.1 B.1.2.1 dX1_addAsset_43 ?_
  refine y_putI B hR hS hf k_p0 fp_X1_43 dX1_addAsset_44 (fun S8 H locs hf hR hS => ?_)
  exact y_vret B hR hS hf dX1_addAsset_47
abbrev xr_X1_sellAsset : Room := { frames := 1, cells := 0, slots := 0, locals := 12 }
def f_X1_sellAsset (T : xT) (S : xS) (p0 : Nat) (p1 : Int32) : Option (Int32 × xS) := xgr T S p0 12 20 (fun a1 => xai T S a1 p1 (fun v2 => xgr T S p0 13 20 (fun a3 => xai T S a3 p1 (fun v4 => xpi S p0 2 (((S.1 p0 2) + (v2 - v4))) (fun S5 => xgr T S5 p0 12 20 (fun a6 => xai T S5 a6 p1 (fun v7 => xgr T S5 p0 11 20 (fun a8 => xai T S5 a8 p1 (fun v9 => xpi S5 p0 3 (((S5.1 p0 3) + (v7 - v9))) (fun S10 => xpi S10 p0 1 (((S10.1 p0 1) &&& (((1 : Int32) <<< (p1 &&& 31)) ^^^ (-1 : Int32)))) (fun S11 => xgr T S11 p0 11 20 (fun a12 => xst T S11 a12 p1 ((0 : Int32)) (fun S13 => xgr T S13 p0 12 20 (fun a14 => xst T S13 a14 p1 ((0 : Int32)) (fun S15 => xgr T S15 p0 13 20 (fun a16 => xst T S15 a16 p1 ((0 : Int32)) (fun S17 => some ((S17.1 p0 3), S17))))))))))))))))))
set_option maxRecDepth 100000 in
set_option maxHeartbeats 4000000 in
theorem c_X1_sellAsset {l : Launch} {z : Nat} {D : va_G} {dA : Nat → ClassId} {T : xT} {S : xS} {p0 : Nat} {p1 : Int32} (k_p0 : xlk T p0 1 = true) {q : Int32 × xS} (hf : f_X1_sellAsset T S p0 p1 = some q) : Met l yX1_sellAsset (xws yX1_sellAsset cX1_sellAsset 2 (some .int)) xr_X1_sellAsset (xPc z D dA T S [.ref (z + p0), .int p1]) (xQi z D dA T q) 0 0 (xA z) := by
  refine x_met RX1 (by decide) rfl (Nat.le_of_ble_eq_true rfl) ?_
  intro p e s m below meth c ls _ X hr hlk hml _ hR hS hl
  have B : xB p s m _ meth c cX1_sellAsset RX1 2 (some .int) D dA := ⟨X, hr, hlk, hml⟩
  have hl : xL ls 2 [_, _] := hl
  unfold f_X1_sellAsset at hf
  refine lv_aload_n B.1.1 B.1.2.1 dX1_sellAsset_0 rfl (hl.at 0 rfl) ?_
  refine lv_dup B.1.1 B.1.2.1 dX1_sellAsset_1 rfl ?_
  refine y_getI B hR k_p0 fl_X1_43 dX1_sellAsset_2 ?_
  refine lv_aload_n B.1.1 B.1.2.1 dX1_sellAsset_5 rfl (hl.at 0 rfl) ?_
  refine y_getR B hR hf k_p0 fl_X1_30 dX1_sellAsset_6 (fun a1 k_a1 hf => ?_)
  refine lv_iload_n B.1.1 B.1.2.1 dX1_sellAsset_9 rfl (hl.at 1 rfl) ?_
  refine y_iald B hR hf k_a1 dX1_sellAsset_10 (fun v2 hf => ?_)
  refine lv_aload_n B.1.1 B.1.2.1 dX1_sellAsset_11 rfl (hl.at 0 rfl) ?_
  refine y_getR B hR hf k_p0 fl_X1_33 dX1_sellAsset_12 (fun a3 k_a3 hf => ?_)
  refine lv_iload_n B.1.1 B.1.2.1 dX1_sellAsset_15 rfl (hl.at 1 rfl) ?_
  refine y_iald B hR hf k_a3 dX1_sellAsset_16 (fun v4 hf => ?_)
  refine lv_isub B.1.1 B.1.2.1 dX1_sellAsset_17 ?_
  refine lv_iadd B.1.1 B.1.2.1 dX1_sellAsset_18 ?_
  refine y_putI B hR hS hf k_p0 fp_X1_43 dX1_sellAsset_19 (fun S5 H locs hf hR hS => ?_)
  refine lv_aload_n B.1.1 B.1.2.1 dX1_sellAsset_22 rfl (hl.at 0 rfl) ?_
  refine lv_dup B.1.1 B.1.2.1 dX1_sellAsset_23 rfl ?_
  refine y_getI B hR k_p0 fl_X1_46 dX1_sellAsset_24 ?_
  refine lv_aload_n B.1.1 B.1.2.1 dX1_sellAsset_27 rfl (hl.at 0 rfl) ?_
  refine y_getR B hR hf k_p0 fl_X1_30 dX1_sellAsset_28 (fun a6 k_a6 hf => ?_)
  refine lv_iload_n B.1.1 B.1.2.1 dX1_sellAsset_31 rfl (hl.at 1 rfl) ?_
  refine y_iald B hR hf k_a6 dX1_sellAsset_32 (fun v7 hf => ?_)
  refine lv_aload_n B.1.1 B.1.2.1 dX1_sellAsset_33 rfl (hl.at 0 rfl) ?_
  refine y_getR B hR hf k_p0 fl_X1_27 dX1_sellAsset_34 (fun a8 k_a8 hf => ?_)
  refine lv_iload_n B.1.1 B.1.2.1 dX1_sellAsset_37 rfl (hl.at 1 rfl) ?_
  refine y_iald B hR hf k_a8 dX1_sellAsset_38 (fun v9 hf => ?_)
  refine lv_isub B.1.1 B.1.2.1 dX1_sellAsset_39 ?_
  refine lv_iadd B.1.1 B.1.2.1 dX1_sellAsset_40 ?_
  refine y_putI B hR hS hf k_p0 fp_X1_46 dX1_sellAsset_41 (fun S10 H locs hf hR hS => ?_)
  refine lv_aload_n B.1.1 B.1.2.1 dX1_sellAsset_44 rfl (hl.at 0 rfl) ?_
  refine lv_dup B.1.1 B.1.2.1 dX1_sellAsset_45 rfl ?_
  refine y_getI B hR k_p0 fl_X1_40 dX1_sellAsset_46 ?_
  refine lv_iconst (v := 1) B.1.1 B.1.2.1 dX1_sellAsset_49 (by decide) ?_
  refine lv_iload_n B.1.1 B.1.2.1 dX1_sellAsset_50 rfl (hl.at 1 rfl) ?_
  refine lv_ishl B.1.1 B.1.2.1 dX1_sellAsset_51 ?_
  refine lv_iconst (v := -1) B.1.1 B.1.2.1 dX1_sellAsset_52 (by decide) ?_
  refine lv_ixor B.1.1 B.1.2.1 dX1_sellAsset_53 ?_
  refine lv_iand B.1.1 B.1.2.1 dX1_sellAsset_54 ?_
  refine y_putI B hR hS hf k_p0 fp_X1_40 dX1_sellAsset_55 (fun S11 H locs hf hR hS => ?_)
  refine lv_aload_n B.1.1 B.1.2.1 dX1_sellAsset_58 rfl (hl.at 0 rfl) ?_
  refine y_getR B hR hf k_p0 fl_X1_27 dX1_sellAsset_59 (fun a12 k_a12 hf => ?_)
  refine lv_iload_n B.1.1 B.1.2.1 dX1_sellAsset_62 rfl (hl.at 1 rfl) ?_
  refine lv_iconst (v := 0) B.1.1 B.1.2.1 dX1_sellAsset_63 (by decide) ?_
  refine y_iast B hR hS hf k_a12 dX1_sellAsset_64 (fun S13 H locs hf hR hS => ?_)
  refine lv_aload_n B.1.1 B.1.2.1 dX1_sellAsset_65 rfl (hl.at 0 rfl) ?_
  refine y_getR B hR hf k_p0 fl_X1_30 dX1_sellAsset_66 (fun a14 k_a14 hf => ?_)
  refine lv_iload_n B.1.1 B.1.2.1 dX1_sellAsset_69 rfl (hl.at 1 rfl) ?_
  refine lv_iconst (v := 0) B.1.1 B.1.2.1 dX1_sellAsset_70 (by decide) ?_
  refine y_iast B hR hS hf k_a14 dX1_sellAsset_71 (fun S15 H locs hf hR hS => ?_)
  refine lv_aload_n B.1.1 B.1.2.1 dX1_sellAsset_72 rfl (hl.at 0 rfl) ?_
  refine y_getR B hR hf k_p0 fl_X1_33 dX1_sellAsset_73 (fun a16 k_a16 hf => ?_)
  refine lv_iload_n B.1.1 B.1.2.1 dX1_sellAsset_76 rfl (hl.at 1 rfl) ?_
  refine lv_iconst (v := 0) B.1.1 B.1.2.1 dX1_sellAsset_77 (by decide) ?_
  refine y_iast B hR hS hf k_a16 dX1_sellAsset_78 (fun S17 H locs hf hR hS => ?_)
  refine lv_aload_n B.1.1 B.1.2.1 dX1_sellAsset_79 rfl (hl.at 0 rfl) ?_
  refine y_getI B hR k_p0 fl_X1_46 dX1_sellAsset_80 ?_
  exact y_iret B hR hS hf dX1_sellAsset_83
abbrev xr_X1_writeOff : Room := { frames := 1, cells := 0, slots := 0, locals := 12 }
def f_X1_writeOff (T : xT) (S : xS) (p0 : Nat) (p1 : Int32) (p2 : Int32) : Option (Int32 × xS) := xgr T S p0 11 20 (fun a1 => xai T S a1 p1 (fun v2 => xst T S a1 p1 ((v2 - p2)) (fun S3 => xpi S3 p0 3 (((S3.1 p0 3) - p2)) (fun S4 => xgr T S4 p0 11 20 (fun a5 => xai T S4 a5 p1 (fun v6 => some (v6, S4)))))))
set_option maxRecDepth 100000 in
set_option maxHeartbeats 4000000 in
theorem c_X1_writeOff {l : Launch} {z : Nat} {D : va_G} {dA : Nat → ClassId} {T : xT} {S : xS} {p0 : Nat} {p1 : Int32} {p2 : Int32} (k_p0 : xlk T p0 1 = true) {q : Int32 × xS} (hf : f_X1_writeOff T S p0 p1 p2 = some q) : Met l yX1_writeOff (xws yX1_writeOff cX1_writeOff 3 (some .int)) xr_X1_writeOff (xPc z D dA T S [.ref (z + p0), .int p1, .int p2]) (xQi z D dA T q) 0 0 (xA z) := by
  refine x_met RX1 (by decide) rfl (Nat.le_of_ble_eq_true rfl) ?_
  intro p e s m below meth c ls _ X hr hlk hml _ hR hS hl
  have B : xB p s m _ meth c cX1_writeOff RX1 3 (some .int) D dA := ⟨X, hr, hlk, hml⟩
  have hl : xL ls 3 [_, _, _] := hl
  unfold f_X1_writeOff at hf
  refine lv_aload_n B.1.1 B.1.2.1 dX1_writeOff_0 rfl (hl.at 0 rfl) ?_
  refine y_getR B hR hf k_p0 fl_X1_27 dX1_writeOff_1 (fun a1 k_a1 hf => ?_)
  refine lv_iload_n B.1.1 B.1.2.1 dX1_writeOff_4 rfl (hl.at 1 rfl) ?_
  refine lv_dup2_11 B.1.1 B.1.2.1 dX1_writeOff_5 rfl rfl ?_
  refine y_iald B hR hf k_a1 dX1_writeOff_6 (fun v2 hf => ?_)
  refine lv_iload_n B.1.1 B.1.2.1 dX1_writeOff_7 rfl (hl.at 2 rfl) ?_
  refine lv_isub B.1.1 B.1.2.1 dX1_writeOff_8 ?_
  refine y_iast B hR hS hf k_a1 dX1_writeOff_9 (fun S3 H locs hf hR hS => ?_)
  refine lv_aload_n B.1.1 B.1.2.1 dX1_writeOff_10 rfl (hl.at 0 rfl) ?_
  refine lv_dup B.1.1 B.1.2.1 dX1_writeOff_11 rfl ?_
  refine y_getI B hR k_p0 fl_X1_46 dX1_writeOff_12 ?_
  refine lv_iload_n B.1.1 B.1.2.1 dX1_writeOff_15 rfl (hl.at 2 rfl) ?_
  refine lv_isub B.1.1 B.1.2.1 dX1_writeOff_16 ?_
  refine y_putI B hR hS hf k_p0 fp_X1_46 dX1_writeOff_17 (fun S4 H locs hf hR hS => ?_)
  refine lv_aload_n B.1.1 B.1.2.1 dX1_writeOff_20 rfl (hl.at 0 rfl) ?_
  refine y_getR B hR hf k_p0 fl_X1_27 dX1_writeOff_21 (fun a5 k_a5 hf => ?_)
  refine lv_iload_n B.1.1 B.1.2.1 dX1_writeOff_24 rfl (hl.at 1 rfl) ?_
  refine y_iald B hR hf k_a5 dX1_writeOff_25 (fun v6 hf => ?_)
  exact y_iret B hR hS hf dX1_writeOff_26
