abbrev xr_X9_write : Room := { frames := 3, cells := 0, slots := 0, locals := 63 }
def f_X9_write_18 (T : xT) : Nat → xS → Nat → Nat → Int32 → Option (Int32 × xS)
  | 0, _, _, _, _ => none
  | n + 1, S, p0, p1, p2 => if (8 : Int32) ≤ p2 then xgr T S p0 3 6 (fun a1 => xcv (f_X6_addSign T S a1 ((61 : Int32))) (fun S2 => xgr T S2 p0 3 6 (fun a3 => xc (f_X1_net T S2 p1) (fun r5 S4 => xcv (f_X6_addNumber T S4 a3 r5) (fun S6 => xgr T S6 p0 3 6 (fun a7 => xcv (f_X6_addSign T S6 a7 ((46 : Int32))) (fun S8 => xgr T S8 p0 3 6 (fun a9 => some ((S8.1 a9 0), S8))))))))) else xc (f_X1_hasPartner T S p1 p2) (fun r11 S10 => if r11 = (0 : Int32) then xl (p2 + (1 : Int32)) (fun v12 => f_X9_write_18 T n S10 p0 p1 v12) else xgr T S10 p0 3 6 (fun a13 => xcv (f_X6_addSign T S10 a13 (((((97 : Int32) + p2)).toUInt32 % 65536).toInt32)) (fun S14 => xgr T S14 p0 3 6 (fun a15 => xcv (f_X6_addSign T S14 a15 ((58 : Int32))) (fun S16 => xgr T S16 p0 3 6 (fun a17 => xgr T S16 p1 6 20 (fun a18 => xai T S16 a18 p2 (fun v19 => xcv (f_X6_addNumber T S16 a17 v19) (fun S20 => xgr T S20 p0 3 6 (fun a21 => xcv (f_X6_addSign T S20 a21 ((44 : Int32))) (fun S22 => xgr T S22 p0 3 6 (fun a23 => xgr T S22 p1 9 20 (fun a24 => xai T S22 a24 p2 (fun v25 => xcv (f_X6_addNumber T S22 a23 v25) (fun S26 => xgr T S26 p0 3 6 (fun a27 => xcv (f_X6_addSign T S26 a27 ((44 : Int32))) (fun S28 => xgr T S28 p0 3 6 (fun a29 => xgr T S28 p1 10 20 (fun a30 => xai T S28 a30 p2 (fun v31 => xcv (f_X6_addNumber T S28 a29 v31) (fun S32 => xgr T S32 p0 3 6 (fun a33 => xcv (f_X6_addSign T S32 a33 ((59 : Int32))) (fun S34 => xl (p2 + (1 : Int32)) (fun v35 => f_X9_write_18 T n S34 p0 p1 v35))))))))))))))))))))))))
set_option maxRecDepth 100000 in
set_option maxHeartbeats 4000000 in
theorem w_X9_write_18 {p : Program} {l : Launch} {e : Env} {s : State} {m : MethodId} {args : Array Value} {below : List Frame} {meth : Method} {c : Code} {z : Nat} {D : va_G} {dA : Nat → ClassId} {T : xT} (B : xB p s m args meth c cX9_write RX9 3 (some .int) D dA) {q : Int32 × xS} : ∀ (n : Nat), ∀ (S : xS) (H : Heap) (locs : List Loc) (ls : Array Slot) (p0 : Nat) (p1 : Nat) (p2 : Int32), xlk T p0 9 = true → xlk T p1 1 = true → f_X9_write_18 T n S p0 p1 p2 = some q → xRel z D dA T S H → va_S (xA z) s.heap H locs → xL ls 3 [some (.ref (z + p0)), some (.ref (z + p1)), some (.int p2)] → xGi p l e xr_X9_write s m args below meth c z D dA T q H locs 18 ls [] := by
  intro n
  induction n with
  | zero =>
    intro S H locs ls p0 p1 p2 k_p0 k_p1 hf hR hS hl
    exact absurd hf (by simp [f_X9_write_18])
  | succ n ih =>
    intro S H locs ls p0 p1 p2 k_p0 k_p1 hf hR hS hl
    unfold f_X9_write_18 at hf
    refine lv_iload_n B.1.1 B.1.2.1 dX9_write_18 rfl (hl.at 2 rfl) ?_
    refine lv_bipush (v := 8) B.1.1 B.1.2.1 dX9_write_19 (by decide) ?_
    refine y_icmp_ge (tgt := 125) B hf dX9_write_21 (by decide) (fun hf => ?_) (fun hf => ?_)
    · refine lv_aload_n B.1.1 B.1.2.1 dX9_write_125 rfl (hl.at 0 rfl) ?_
      refine y_getR B hR hf k_p0 fl_X9_33 dX9_write_126 (fun a1 k_a1 hf => ?_)
      refine lv_bipush (v := 61) B.1.1 B.1.2.1 dX9_write_129 (by decide) ?_
      refine y_cv hf (fun q hq => x_runV (ci := 6) (C := RX6) B.1 B.2.2.2 hl hR hS cm_X9_315 ⟨rfl, rfl, Nat.le_of_ble_eq_true rfl, Nat.le_of_ble_eq_true rfl⟩ (by decide) rfl k_a1 (c_X6_addSign k_a1 hq) rfl rfl (Nat.le_of_ble_eq_true rfl) dX9_write_131 ⟨Nat.le_of_ble_eq_true rfl, Nat.le_of_ble_eq_true rfl⟩) hS (fun S2 H locs hf hR hS => ?_)
      refine lv_aload_n B.1.1 B.1.2.1 dX9_write_134 rfl (hl.at 0 rfl) ?_
      refine y_getR B hR hf k_p0 fl_X9_33 dX9_write_135 (fun a3 k_a3 hf => ?_)
      refine lv_aload_n B.1.1 B.1.2.1 dX9_write_138 rfl (hl.at 1 rfl) ?_
      refine y_ci hf (fun q hq => x_runV (ci := 1) (C := RX1) B.1 B.2.2.2 hl hR hS cm_X9_138 ⟨rfl, rfl, Nat.le_of_ble_eq_true rfl, Nat.le_of_ble_eq_true rfl⟩ (by decide) rfl k_p1 (c_X1_net k_p1 hq) rfl rfl (Nat.le_of_ble_eq_true rfl) dX9_write_139 ⟨Nat.le_of_ble_eq_true rfl, Nat.le_of_ble_eq_true rfl⟩) hS (fun r5 S4 H locs hf hR hS => ?_)
      refine y_cv hf (fun q hq => x_runV (ci := 6) (C := RX6) B.1 B.2.2.2 hl hR hS cm_X9_319 ⟨rfl, rfl, Nat.le_of_ble_eq_true rfl, Nat.le_of_ble_eq_true rfl⟩ (by decide) rfl k_a3 (c_X6_addNumber k_a3 hq) rfl rfl (Nat.le_of_ble_eq_true rfl) dX9_write_142 ⟨Nat.le_of_ble_eq_true rfl, Nat.le_of_ble_eq_true rfl⟩) hS (fun S6 H locs hf hR hS => ?_)
      refine lv_aload_n B.1.1 B.1.2.1 dX9_write_145 rfl (hl.at 0 rfl) ?_
      refine y_getR B hR hf k_p0 fl_X9_33 dX9_write_146 (fun a7 k_a7 hf => ?_)
      refine lv_bipush (v := 46) B.1.1 B.1.2.1 dX9_write_149 (by decide) ?_
      refine y_cv hf (fun q hq => x_runV (ci := 6) (C := RX6) B.1 B.2.2.2 hl hR hS cm_X9_315 ⟨rfl, rfl, Nat.le_of_ble_eq_true rfl, Nat.le_of_ble_eq_true rfl⟩ (by decide) rfl k_a7 (c_X6_addSign k_a7 hq) rfl rfl (Nat.le_of_ble_eq_true rfl) dX9_write_151 ⟨Nat.le_of_ble_eq_true rfl, Nat.le_of_ble_eq_true rfl⟩) hS (fun S8 H locs hf hR hS => ?_)
      refine lv_aload_n B.1.1 B.1.2.1 dX9_write_154 rfl (hl.at 0 rfl) ?_
      refine y_getR B hR hf k_p0 fl_X9_33 dX9_write_155 (fun a9 k_a9 hf => ?_)
      refine y_getI B hR k_a9 fl_X9_314 dX9_write_158 ?_
      exact y_iret B hR hS hf dX9_write_161
    · refine lv_aload_n B.1.1 B.1.2.1 dX9_write_24 rfl (hl.at 1 rfl) ?_
      refine lv_iload_n B.1.1 B.1.2.1 dX9_write_25 rfl (hl.at 2 rfl) ?_
      refine y_ci hf (fun q hq => x_runV (ci := 1) (C := RX1) B.1 B.2.2.2 hl hR hS cm_X9_117 ⟨rfl, rfl, Nat.le_of_ble_eq_true rfl, Nat.le_of_ble_eq_true rfl⟩ (by decide) rfl k_p1 (c_X1_hasPartner k_p1 hq) rfl rfl (Nat.le_of_ble_eq_true rfl) dX9_write_26 ⟨Nat.le_of_ble_eq_true rfl, Nat.le_of_ble_eq_true rfl⟩) hS (fun r11 S10 H locs hf hR hS => ?_)
      refine y_if_eq (tgt := 119) B hf dX9_write_29 (by decide) (fun hf => ?_) (fun hf => ?_)
      · refine y_iinc (d := 1) B hl hf dX9_write_119 rfl (by decide) (by decide) rfl (fun v12 ls hf hl => ?_)
        have hl : xL ls 3 [_, _, _] := hl
        refine lv_goto (tgt := 18) B.1.1 B.1.2.1 dX9_write_122 (by decide) ?_
        exact ih _ _ _ _ _ _ _ k_p0 k_p1 hf hR hS hl
      · refine lv_aload_n B.1.1 B.1.2.1 dX9_write_32 rfl (hl.at 0 rfl) ?_
        refine y_getR B hR hf k_p0 fl_X9_33 dX9_write_33 (fun a13 k_a13 hf => ?_)
        refine lv_bipush (v := 97) B.1.1 B.1.2.1 dX9_write_36 (by decide) ?_
        refine lv_iload_n B.1.1 B.1.2.1 dX9_write_38 rfl (hl.at 2 rfl) ?_
        refine lv_iadd B.1.1 B.1.2.1 dX9_write_39 ?_
        refine lv_i2c B.1.1 B.1.2.1 dX9_write_40 rfl ?_
        refine y_cv hf (fun q hq => x_runV (ci := 6) (C := RX6) B.1 B.2.2.2 hl hR hS cm_X9_315 ⟨rfl, rfl, Nat.le_of_ble_eq_true rfl, Nat.le_of_ble_eq_true rfl⟩ (by decide) rfl k_a13 (c_X6_addSign k_a13 hq) rfl rfl (Nat.le_of_ble_eq_true rfl) dX9_write_41 ⟨Nat.le_of_ble_eq_true rfl, Nat.le_of_ble_eq_true rfl⟩) hS (fun S14 H locs hf hR hS => ?_)
        refine lv_aload_n B.1.1 B.1.2.1 dX9_write_44 rfl (hl.at 0 rfl) ?_
        refine y_getR B hR hf k_p0 fl_X9_33 dX9_write_45 (fun a15 k_a15 hf => ?_)
        refine lv_bipush (v := 58) B.1.1 B.1.2.1 dX9_write_48 (by decide) ?_
        refine y_cv hf (fun q hq => x_runV (ci := 6) (C := RX6) B.1 B.2.2.2 hl hR hS cm_X9_315 ⟨rfl, rfl, Nat.le_of_ble_eq_true rfl, Nat.le_of_ble_eq_true rfl⟩ (by decide) rfl k_a15 (c_X6_addSign k_a15 hq) rfl rfl (Nat.le_of_ble_eq_true rfl) dX9_write_50 ⟨Nat.le_of_ble_eq_true rfl, Nat.le_of_ble_eq_true rfl⟩) hS (fun S16 H locs hf hR hS => ?_)
        refine lv_aload_n B.1.1 B.1.2.1 dX9_write_53 rfl (hl.at 0 rfl) ?_
        refine y_getR B hR hf k_p0 fl_X9_33 dX9_write_54 (fun a17 k_a17 hf => ?_)
        refine lv_aload_n B.1.1 B.1.2.1 dX9_write_57 rfl (hl.at 1 rfl) ?_
        refine y_getR B hR hf k_p1 fl_X9_154 dX9_write_58 (fun a18 k_a18 hf => ?_)
        refine lv_iload_n B.1.1 B.1.2.1 dX9_write_61 rfl (hl.at 2 rfl) ?_
        refine y_iald B hR hf k_a18 dX9_write_62 (fun v19 hf => ?_)
        refine y_cv hf (fun q hq => x_runV (ci := 6) (C := RX6) B.1 B.2.2.2 hl hR hS cm_X9_319 ⟨rfl, rfl, Nat.le_of_ble_eq_true rfl, Nat.le_of_ble_eq_true rfl⟩ (by decide) rfl k_a17 (c_X6_addNumber k_a17 hq) rfl rfl (Nat.le_of_ble_eq_true rfl) dX9_write_63 ⟨Nat.le_of_ble_eq_true rfl, Nat.le_of_ble_eq_true rfl⟩) hS (fun S20 H locs hf hR hS => ?_)
        refine lv_aload_n B.1.1 B.1.2.1 dX9_write_66 rfl (hl.at 0 rfl) ?_
        refine y_getR B hR hf k_p0 fl_X9_33 dX9_write_67 (fun a21 k_a21 hf => ?_)
        refine lv_bipush (v := 44) B.1.1 B.1.2.1 dX9_write_70 (by decide) ?_
        refine y_cv hf (fun q hq => x_runV (ci := 6) (C := RX6) B.1 B.2.2.2 hl hR hS cm_X9_315 ⟨rfl, rfl, Nat.le_of_ble_eq_true rfl, Nat.le_of_ble_eq_true rfl⟩ (by decide) rfl k_a21 (c_X6_addSign k_a21 hq) rfl rfl (Nat.le_of_ble_eq_true rfl) dX9_write_72 ⟨Nat.le_of_ble_eq_true rfl, Nat.le_of_ble_eq_true rfl⟩) hS (fun S22 H locs hf hR hS => ?_)
        refine lv_aload_n B.1.1 B.1.2.1 dX9_write_75 rfl (hl.at 0 rfl) ?_
        refine y_getR B hR hf k_p0 fl_X9_33 dX9_write_76 (fun a23 k_a23 hf => ?_)
        refine lv_aload_n B.1.1 B.1.2.1 dX9_write_79 rfl (hl.at 1 rfl) ?_
        refine y_getR B hR hf k_p1 fl_X9_161 dX9_write_80 (fun a24 k_a24 hf => ?_)
        refine lv_iload_n B.1.1 B.1.2.1 dX9_write_83 rfl (hl.at 2 rfl) ?_
        refine y_iald B hR hf k_a24 dX9_write_84 (fun v25 hf => ?_)
        refine y_cv hf (fun q hq => x_runV (ci := 6) (C := RX6) B.1 B.2.2.2 hl hR hS cm_X9_319 ⟨rfl, rfl, Nat.le_of_ble_eq_true rfl, Nat.le_of_ble_eq_true rfl⟩ (by decide) rfl k_a23 (c_X6_addNumber k_a23 hq) rfl rfl (Nat.le_of_ble_eq_true rfl) dX9_write_85 ⟨Nat.le_of_ble_eq_true rfl, Nat.le_of_ble_eq_true rfl⟩) hS (fun S26 H locs hf hR hS => ?_)
        refine lv_aload_n B.1.1 B.1.2.1 dX9_write_88 rfl (hl.at 0 rfl) ?_
        refine y_getR B hR hf k_p0 fl_X9_33 dX9_write_89 (fun a27 k_a27 hf => ?_)
        refine lv_bipush (v := 44) B.1.1 B.1.2.1 dX9_write_92 (by decide) ?_
        refine y_cv hf (fun q hq => x_runV (ci := 6) (C := RX6) B.1 B.2.2.2 hl hR hS cm_X9_315 ⟨rfl, rfl, Nat.le_of_ble_eq_true rfl, Nat.le_of_ble_eq_true rfl⟩ (by decide) rfl k_a27 (c_X6_addSign k_a27 hq) rfl rfl (Nat.le_of_ble_eq_true rfl) dX9_write_94 ⟨Nat.le_of_ble_eq_true rfl, Nat.le_of_ble_eq_true rfl⟩) hS (fun S28 H locs hf hR hS => ?_)
        refine lv_aload_n B.1.1 B.1.2.1 dX9_write_97 rfl (hl.at 0 rfl) ?_
        refine y_getR B hR hf k_p0 fl_X9_33 dX9_write_98 (fun a29 k_a29 hf => ?_)
        refine lv_aload_n B.1.1 B.1.2.1 dX9_write_101 rfl (hl.at 1 rfl) ?_
        refine y_getR B hR hf k_p1 fl_X9_164 dX9_write_102 (fun a30 k_a30 hf => ?_)
        refine lv_iload_n B.1.1 B.1.2.1 dX9_write_105 rfl (hl.at 2 rfl) ?_
        refine y_iald B hR hf k_a30 dX9_write_106 (fun v31 hf => ?_)
        refine y_cv hf (fun q hq => x_runV (ci := 6) (C := RX6) B.1 B.2.2.2 hl hR hS cm_X9_319 ⟨rfl, rfl, Nat.le_of_ble_eq_true rfl, Nat.le_of_ble_eq_true rfl⟩ (by decide) rfl k_a29 (c_X6_addNumber k_a29 hq) rfl rfl (Nat.le_of_ble_eq_true rfl) dX9_write_107 ⟨Nat.le_of_ble_eq_true rfl, Nat.le_of_ble_eq_true rfl⟩) hS (fun S32 H locs hf hR hS => ?_)
        refine lv_aload_n B.1.1 B.1.2.1 dX9_write_110 rfl (hl.at 0 rfl) ?_
        refine y_getR B hR hf k_p0 fl_X9_33 dX9_write_111 (fun a33 k_a33 hf => ?_)
        refine lv_bipush (v := 59) B.1.1 B.1.2.1 dX9_write_114 (by decide) ?_
        refine y_cv hf (fun q hq => x_runV (ci := 6) (C := RX6) B.1 B.2.2.2 hl hR hS cm_X9_315 ⟨rfl, rfl, Nat.le_of_ble_eq_true rfl, Nat.le_of_ble_eq_true rfl⟩ (by decide) rfl k_a33 (c_X6_addSign k_a33 hq) rfl rfl (Nat.le_of_ble_eq_true rfl) dX9_write_116 ⟨Nat.le_of_ble_eq_true rfl, Nat.le_of_ble_eq_true rfl⟩) hS (fun S34 H locs hf hR hS => ?_)
        refine y_iinc (d := 1) B hl hf dX9_write_119 rfl (by decide) (by decide) rfl (fun v35 ls hf hl => ?_)
        have hl : xL ls 3 [_, _, _] := hl
        refine lv_goto (tgt := 18) B.1.1 B.1.2.1 dX9_write_122 (by decide) ?_
        exact ih _ _ _ _ _ _ _ k_p0 k_p1 hf hR hS hl
def f_X9_write (T : xT) (S : xS) (p0 : Nat) : Option (Int32 × xS) := xgr T S p0 4 5 (fun a1 => xgr T S a1 0 1 (fun a2 => xgr T S p0 3 6 (fun a3 => xpi S a3 0 ((0 : Int32)) (fun S4 => xl ((0 : Int32)) (fun v5 => f_X9_write_18 T xfu S4 p0 a2 v5)))))
set_option maxRecDepth 100000 in
set_option maxHeartbeats 4000000 in
theorem c_X9_write {l : Launch} {z : Nat} {D : va_G} {dA : Nat → ClassId} {T : xT} {S : xS} {p0 : Nat} (k_p0 : xlk T p0 9 = true) {q : Int32 × xS} (hf : f_X9_write T S p0 = some q) : Met l yX9_write (xws yX9_write cX9_write 3 (some .int)) xr_X9_write (xPc z D dA T S [.ref (z + p0)]) (xQi z D dA T q) 0 0 (xA z) := by
  refine x_met RX9 (by decide) rfl (Nat.le_of_ble_eq_true rfl) ?_
  intro p e s m below meth c ls _ X hr hlk hml _ hR hS hl
  have B : xB p s m _ meth c cX9_write RX9 3 (some .int) D dA := ⟨X, hr, hlk, hml⟩
  have hl : xL ls 3 [_, _, _] := hl
  unfold f_X9_write at hf
  refine lv_aload_n B.1.1 B.1.2.1 dX9_write_0 rfl (hl.at 0 rfl) ?_
  refine y_getR B hR hf k_p0 fl_X9_48 dX9_write_1 (fun a1 k_a1 hf => ?_)
  refine y_getR B hR hf k_a1 fl_X9_114 dX9_write_4 (fun a2 k_a2 hf => ?_)
  refine y_astore_n B hl dX9_write_7 rfl (by decide) rfl (fun ls hl => ?_)
  have hl : xL ls 3 [_, _, _] := hl
  refine lv_aload_n B.1.1 B.1.2.1 dX9_write_8 rfl (hl.at 0 rfl) ?_
  refine y_getR B hR hf k_p0 fl_X9_33 dX9_write_9 (fun a3 k_a3 hf => ?_)
  refine lv_iconst (v := 0) B.1.1 B.1.2.1 dX9_write_12 (by decide) ?_
  refine y_putI B hR hS hf k_a3 fp_X9_314 dX9_write_13 (fun S4 H locs hf hR hS => ?_)
  refine lv_iconst (v := 0) B.1.1 B.1.2.1 dX9_write_16 (by decide) ?_
  refine y_istore_n B hl hf dX9_write_17 rfl (by decide) rfl (fun v5 ls hf hl => ?_)
  have hl : xL ls 3 [_, _, _] := hl
  exact w_X9_write_18 B xfu _ _ _ _ _ _ _ k_p0 k_a2 hf hR hS hl
abbrev xr_X9_octet : Room := { frames := 1, cells := 0, slots := 0, locals := 12 }
def f_X9_octet (T : xT) (S : xS) (p0 : Nat) (p1 : Int32) : Option (Int32 × xS) := if p1 < (0 : Int32) then some ((-1 : Int32), S) else xgr T S p0 3 6 (fun a1 => if (S.1 a1 0) ≤ p1 then some ((-1 : Int32), S) else xgr T S p0 3 6 (fun a2 => xgr T S a2 1 20 (fun a3 => xai T S a3 p1 (fun v4 => some (v4, S)))))
set_option maxRecDepth 100000 in
set_option maxHeartbeats 4000000 in
theorem c_X9_octet {l : Launch} {z : Nat} {D : va_G} {dA : Nat → ClassId} {T : xT} {S : xS} {p0 : Nat} {p1 : Int32} (k_p0 : xlk T p0 9 = true) {q : Int32 × xS} (hf : f_X9_octet T S p0 p1 = some q) : Met l yX9_octet (xws yX9_octet cX9_octet 2 (some .int)) xr_X9_octet (xPc z D dA T S [.ref (z + p0), .int p1]) (xQi z D dA T q) 0 0 (xA z) := by
  refine x_met RX9 (by decide) rfl (Nat.le_of_ble_eq_true rfl) ?_
  intro p e s m below meth c ls _ X hr hlk hml _ hR hS hl
  have B : xB p s m _ meth c cX9_octet RX9 2 (some .int) D dA := ⟨X, hr, hlk, hml⟩
  have hl : xL ls 2 [_, _] := hl
  unfold f_X9_octet at hf
  refine lv_iload_n B.1.1 B.1.2.1 dX9_octet_0 rfl (hl.at 1 rfl) ?_
  refine y_if_lt (tgt := 27) B hf dX9_octet_1 (by decide) (fun hf => ?_) (fun hf => ?_)
  · refine lv_iconst (v := -1) B.1.1 B.1.2.1 dX9_octet_27 (by decide) ?_
    exact y_iret B hR hS hf dX9_octet_28
  · refine lv_iload_n B.1.1 B.1.2.1 dX9_octet_4 rfl (hl.at 1 rfl) ?_
    refine lv_aload_n B.1.1 B.1.2.1 dX9_octet_5 rfl (hl.at 0 rfl) ?_
    refine y_getR B hR hf k_p0 fl_X9_33 dX9_octet_6 (fun a1 k_a1 hf => ?_)
    refine y_getI B hR k_a1 fl_X9_314 dX9_octet_9 ?_
    refine y_icmp_ge (tgt := 27) B hf dX9_octet_12 (by decide) (fun hf => ?_) (fun hf => ?_)
    · refine lv_iconst (v := -1) B.1.1 B.1.2.1 dX9_octet_27 (by decide) ?_
      exact y_iret B hR hS hf dX9_octet_28
    · refine lv_aload_n B.1.1 B.1.2.1 dX9_octet_15 rfl (hl.at 0 rfl) ?_
      refine y_getR B hR hf k_p0 fl_X9_33 dX9_octet_16 (fun a2 k_a2 hf => ?_)
      refine y_getR B hR hf k_a2 fl_X9_322 dX9_octet_19 (fun a3 k_a3 hf => ?_)
      refine lv_iload_n B.1.1 B.1.2.1 dX9_octet_22 rfl (hl.at 1 rfl) ?_
      refine y_iald B hR hf k_a3 dX9_octet_23 (fun v4 hf => ?_)
      refine lv_goto (tgt := 28) B.1.1 B.1.2.1 dX9_octet_24 (by decide) ?_
      exact y_iret B hR hS hf dX9_octet_28
