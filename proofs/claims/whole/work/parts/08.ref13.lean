abbrev xr_X10_exit : Room := { frames := 10, cells := 0, slots := 0, locals := 213 }
def f_X10_exit (T : xT) (S : xS) (p0 : Nat) (p1 : Int32) : Option (Int32 × xS) := xc (f_X10_isThere T S p0 p1) (fun r2 S1 => if r2 = (0 : Int32) then some ((-1000000000 : Int32), S1) else xcv (f_X10_closeAside T S1 p0 ((0 : Int32))) (fun S3 => xc (f_X10_valueAnew T S3 p0) (fun r5 S4 => xl r5 (fun v6 => xc (f_X10_get T S4 p0 (((5 : Int32) + p1))) (fun r8 S7 => xc (f_X10_get T S7 p0 (((13 : Int32) + p1))) (fun r10 S9 => xc (f_X10_greater T S9 r8 ((-r10))) (fun r12 S11 => xl r12 (fun v13 => xpi S11 p0 1 ((0 : Int32)) (fun S14 => some (v13, S14))))))))))
set_option maxRecDepth 100000 in
set_option maxHeartbeats 4000000 in
theorem c_X10_exit {l : Launch} {z : Nat} {D : va_G} {dA : Nat → ClassId} {T : xT} {S : xS} {p0 : Nat} {p1 : Int32} (k_p0 : xlk T p0 10 = true) {q : Int32 × xS} (hf : f_X10_exit T S p0 p1 = some q) : Met l yX10_exit (xws yX10_exit cX10_exit 4 (some .int)) xr_X10_exit (xPc z D dA T S [.ref (z + p0), .int p1]) (xQi z D dA T q) 0 0 (xA z) := by
  refine x_met RX10 (by decide) rfl (Nat.le_of_ble_eq_true rfl) ?_
  intro p e s m below meth c ls _ X hr hlk hml _ hR hS hl
  have B : xB p s m _ meth c cX10_exit RX10 4 (some .int) D dA := ⟨X, hr, hlk, hml⟩
  have hl : xL ls 4 [_, _, _, _] := hl
  unfold f_X10_exit at hf
  refine lv_aload_n B.1.1 B.1.2.1 dX10_exit_0 rfl (hl.at 0 rfl) ?_
  refine lv_iload_n B.1.1 B.1.2.1 dX10_exit_1 rfl (hl.at 1 rfl) ?_
  refine y_ci hf (fun q hq => x_runV (ci := 10) (C := RX10) B.1 B.2.2.2 hl hR hS cm_X10_203 ⟨rfl, rfl, Nat.le_of_ble_eq_true rfl, Nat.le_of_ble_eq_true rfl⟩ (by decide) rfl k_p0 (c_X10_isThere k_p0 hq) rfl rfl (Nat.le_of_ble_eq_true rfl) dX10_exit_2 ⟨Nat.le_of_ble_eq_true rfl, Nat.le_of_ble_eq_true rfl⟩) hS (fun r2 S1 H locs hf hR hS => ?_)
  refine y_if_ne (tgt := 11) B hf dX10_exit_5 (by decide) (fun hf => ?_) (fun hf => ?_)
  · refine lv_aload_n B.1.1 B.1.2.1 dX10_exit_11 rfl (hl.at 0 rfl) ?_
    refine lv_iconst (v := 0) B.1.1 B.1.2.1 dX10_exit_12 (by decide) ?_
    refine y_cv hf (fun q hq => x_runV (ci := 10) (C := RX10) B.1 B.2.2.2 hl hR hS cm_X10_386 ⟨rfl, rfl, Nat.le_of_ble_eq_true rfl, Nat.le_of_ble_eq_true rfl⟩ (by decide) rfl k_p0 (c_X10_closeAside k_p0 hq) rfl rfl (Nat.le_of_ble_eq_true rfl) dX10_exit_13 ⟨Nat.le_of_ble_eq_true rfl, Nat.le_of_ble_eq_true rfl⟩) hS (fun S3 H locs hf hR hS => ?_)
    refine lv_aload_n B.1.1 B.1.2.1 dX10_exit_16 rfl (hl.at 0 rfl) ?_
    refine y_ci hf (fun q hq => x_runV (ci := 10) (C := RX10) B.1 B.2.2.2 hl hR hS cm_X10_374 ⟨rfl, rfl, Nat.le_of_ble_eq_true rfl, Nat.le_of_ble_eq_true rfl⟩ (by decide) rfl k_p0 (c_X10_valueAnew k_p0 hq) rfl rfl (Nat.le_of_ble_eq_true rfl) dX10_exit_17 ⟨Nat.le_of_ble_eq_true rfl, Nat.le_of_ble_eq_true rfl⟩) hS (fun r5 S4 H locs hf hR hS => ?_)
    refine y_istore_n B hl hf dX10_exit_20 rfl (by decide) rfl (fun v6 ls hf hl => ?_)
    have hl : xL ls 4 [_, _, _, _] := hl
    refine lv_aload_n B.1.1 B.1.2.1 dX10_exit_21 rfl (hl.at 0 rfl) ?_
    refine lv_iconst (v := 5) B.1.1 B.1.2.1 dX10_exit_22 (by decide) ?_
    refine lv_iload_n B.1.1 B.1.2.1 dX10_exit_23 rfl (hl.at 1 rfl) ?_
    refine lv_iadd B.1.1 B.1.2.1 dX10_exit_24 ?_
    refine y_ci hf (fun q hq => x_runV (ci := 10) (C := RX10) B.1 B.2.2.2 hl hR hS cm_X10_193 ⟨rfl, rfl, Nat.le_of_ble_eq_true rfl, Nat.le_of_ble_eq_true rfl⟩ (by decide) rfl k_p0 (c_X10_get k_p0 hq) rfl rfl (Nat.le_of_ble_eq_true rfl) dX10_exit_25 ⟨Nat.le_of_ble_eq_true rfl, Nat.le_of_ble_eq_true rfl⟩) hS (fun r8 S7 H locs hf hR hS => ?_)
    refine lv_aload_n B.1.1 B.1.2.1 dX10_exit_28 rfl (hl.at 0 rfl) ?_
    refine lv_bipush (v := 13) B.1.1 B.1.2.1 dX10_exit_29 (by decide) ?_
    refine lv_iload_n B.1.1 B.1.2.1 dX10_exit_31 rfl (hl.at 1 rfl) ?_
    refine lv_iadd B.1.1 B.1.2.1 dX10_exit_32 ?_
    refine y_ci hf (fun q hq => x_runV (ci := 10) (C := RX10) B.1 B.2.2.2 hl hR hS cm_X10_193 ⟨rfl, rfl, Nat.le_of_ble_eq_true rfl, Nat.le_of_ble_eq_true rfl⟩ (by decide) rfl k_p0 (c_X10_get k_p0 hq) rfl rfl (Nat.le_of_ble_eq_true rfl) dX10_exit_33 ⟨Nat.le_of_ble_eq_true rfl, Nat.le_of_ble_eq_true rfl⟩) hS (fun r10 S9 H locs hf hR hS => ?_)
    refine lv_ineg B.1.1 B.1.2.1 dX10_exit_36 ?_
    refine y_ci hf (fun q hq => y_runS B.1 B.2.2.2 hl hR hS cm_X10_224 ⟨rfl, rfl, Nat.le_of_ble_eq_true rfl, Nat.le_of_ble_eq_true rfl⟩ (c_X10_greater hq) rfl rfl (Nat.le_of_ble_eq_true rfl) dX10_exit_37 ⟨Nat.le_of_ble_eq_true rfl, Nat.le_of_ble_eq_true rfl⟩) hS (fun r12 S11 H locs hf hR hS => ?_)
    refine y_istore_n B hl hf dX10_exit_40 rfl (by decide) rfl (fun v13 ls hf hl => ?_)
    have hl : xL ls 4 [_, _, _, _] := hl
    refine lv_aload_n B.1.1 B.1.2.1 dX10_exit_41 rfl (hl.at 0 rfl) ?_
    refine lv_iconst (v := 0) B.1.1 B.1.2.1 dX10_exit_42 (by decide) ?_
    refine y_putI B hR hS hf k_p0 fp_X10_7 dX10_exit_43 (fun S14 H locs hf hR hS => ?_)
    refine lv_iload_n B.1.1 B.1.2.1 dX10_exit_46 rfl (hl.at 3 rfl) ?_
    exact y_iret B hR hS hf dX10_exit_47
  · refine lv_ldc (v := -1000000000) B.1.1 B.1.2.1 B.1.2.2.1 (B.1.2.2.2.1 _ tw_1301) dX10_exit_8 ?_
    exact y_iret B hR hS hf dX10_exit_10
abbrev xr_X10_first : Room := { frames := 7, cells := 0, slots := 0, locals := 147 }
def f_X10_first_45 (T : xT) : Nat → xS → Nat → Int32 → Int32 → Option (Int32 × xS)
  | 0, _, _, _, _ => none
  | n + 1, S, p0, p2, p3 => if (8 : Int32) ≤ p3 then xpi S p0 1 ((0 : Int32)) (fun S1 => some (p2, S1)) else xc (f_X10_isThere T S p0 p3) (fun r3 S2 => if r3 = (0 : Int32) then xl p2 (fun v4 => xl (p3 + (1 : Int32)) (fun v5 => f_X10_first_45 T n S2 p0 v4 v5)) else xgr T S2 p0 17 20 (fun a6 => xai T S2 a6 p3 (fun v7 => xgr T S2 p0 17 20 (fun a8 => xai T S2 a8 p2 (fun v9 => if v7 ≤ v9 then xl p2 (fun v10 => xl (p3 + (1 : Int32)) (fun v11 => f_X10_first_45 T n S2 p0 v10 v11)) else xl p3 (fun v12 => xl (p3 + (1 : Int32)) (fun v13 => f_X10_first_45 T n S2 p0 v12 v13)))))))
set_option maxRecDepth 100000 in
set_option maxHeartbeats 4000000 in
theorem w_X10_first_45 {p : Program} {l : Launch} {e : Env} {s : State} {m : MethodId} {args : Array Value} {below : List Frame} {meth : Method} {c : Code} {z : Nat} {D : va_G} {dA : Nat → ClassId} {T : xT} (B : xB p s m args meth c cX10_first RX10 4 (some .int) D dA) {q : Int32 × xS} : ∀ (n : Nat), ∀ (S : xS) (H : Heap) (locs : List Loc) (ls : Array Slot) (p0 : Nat) (p2 : Int32) (p3 : Int32), xlk T p0 10 = true → f_X10_first_45 T n S p0 p2 p3 = some q → xRel z D dA T S H → va_S (xA z) s.heap H locs → xL ls 4 [some (.ref (z + p0)), none, some (.int p2), some (.int p3)] → xGi p l e xr_X10_first s m args below meth c z D dA T q H locs 45 ls [] := by
  intro n
  induction n with
  | zero =>
    intro S H locs ls p0 p2 p3 k_p0 hf hR hS hl
    exact absurd hf (by simp [f_X10_first_45])
  | succ n ih =>
    intro S H locs ls p0 p2 p3 k_p0 hf hR hS hl
    unfold f_X10_first_45 at hf
    refine lv_iload_n B.1.1 B.1.2.1 dX10_first_45 rfl (hl.at 3 rfl) ?_
    refine lv_bipush (v := 8) B.1.1 B.1.2.1 dX10_first_46 (by decide) ?_
    refine y_icmp_ge (tgt := 86) B hf dX10_first_48 (by decide) (fun hf => ?_) (fun hf => ?_)
    · refine lv_aload_n B.1.1 B.1.2.1 dX10_first_86 rfl (hl.at 0 rfl) ?_
      refine lv_iconst (v := 0) B.1.1 B.1.2.1 dX10_first_87 (by decide) ?_
      refine y_putI B hR hS hf k_p0 fp_X10_7 dX10_first_88 (fun S1 H locs hf hR hS => ?_)
      refine lv_iload_n B.1.1 B.1.2.1 dX10_first_91 rfl (hl.at 2 rfl) ?_
      exact y_iret B hR hS hf dX10_first_92
    · refine lv_aload_n B.1.1 B.1.2.1 dX10_first_51 rfl (hl.at 0 rfl) ?_
      refine lv_iload_n B.1.1 B.1.2.1 dX10_first_52 rfl (hl.at 3 rfl) ?_
      refine y_ci hf (fun q hq => x_runV (ci := 10) (C := RX10) B.1 B.2.2.2 hl hR hS cm_X10_203 ⟨rfl, rfl, Nat.le_of_ble_eq_true rfl, Nat.le_of_ble_eq_true rfl⟩ (by decide) rfl k_p0 (c_X10_isThere k_p0 hq) rfl rfl (Nat.le_of_ble_eq_true rfl) dX10_first_53 ⟨Nat.le_of_ble_eq_true rfl, Nat.le_of_ble_eq_true rfl⟩) hS (fun r3 S2 H locs hf hR hS => ?_)
      refine y_if_eq (tgt := 78) B hf dX10_first_56 (by decide) (fun hf => ?_) (fun hf => ?_)
      · refine lv_iload_n B.1.1 B.1.2.1 dX10_first_78 rfl (hl.at 2 rfl) ?_
        refine y_istore_n B hl hf dX10_first_79 rfl (by decide) rfl (fun v4 ls hf hl => ?_)
        have hl : xL ls 4 [_, _, _, _] := hl
        refine y_iinc (d := 1) B hl hf dX10_first_80 rfl (by decide) (by decide) rfl (fun v5 ls hf hl => ?_)
        have hl : xL ls 4 [_, _, _, _] := hl
        refine lv_goto (tgt := 45) B.1.1 B.1.2.1 dX10_first_83 (by decide) ?_
        exact ih _ _ _ _ _ _ _ k_p0 hf hR hS hl
      · refine lv_aload_n B.1.1 B.1.2.1 dX10_first_59 rfl (hl.at 0 rfl) ?_
        refine y_getR B hR hf k_p0 fl_X10_38 dX10_first_60 (fun a6 k_a6 hf => ?_)
        refine lv_iload_n B.1.1 B.1.2.1 dX10_first_63 rfl (hl.at 3 rfl) ?_
        refine y_iald B hR hf k_a6 dX10_first_64 (fun v7 hf => ?_)
        refine lv_aload_n B.1.1 B.1.2.1 dX10_first_65 rfl (hl.at 0 rfl) ?_
        refine y_getR B hR hf k_p0 fl_X10_38 dX10_first_66 (fun a8 k_a8 hf => ?_)
        refine lv_iload_n B.1.1 B.1.2.1 dX10_first_69 rfl (hl.at 2 rfl) ?_
        refine y_iald B hR hf k_a8 dX10_first_70 (fun v9 hf => ?_)
        refine y_icmp_le (tgt := 78) B hf dX10_first_71 (by decide) (fun hf => ?_) (fun hf => ?_)
        · refine lv_iload_n B.1.1 B.1.2.1 dX10_first_78 rfl (hl.at 2 rfl) ?_
          refine y_istore_n B hl hf dX10_first_79 rfl (by decide) rfl (fun v10 ls hf hl => ?_)
          have hl : xL ls 4 [_, _, _, _] := hl
          refine y_iinc (d := 1) B hl hf dX10_first_80 rfl (by decide) (by decide) rfl (fun v11 ls hf hl => ?_)
          have hl : xL ls 4 [_, _, _, _] := hl
          refine lv_goto (tgt := 45) B.1.1 B.1.2.1 dX10_first_83 (by decide) ?_
          exact ih _ _ _ _ _ _ _ k_p0 hf hR hS hl
        · refine lv_iload_n B.1.1 B.1.2.1 dX10_first_74 rfl (hl.at 3 rfl) ?_
          refine lv_goto (tgt := 79) B.1.1 B.1.2.1 dX10_first_75 (by decide) ?_
          refine y_istore_n B hl hf dX10_first_79 rfl (by decide) rfl (fun v12 ls hf hl => ?_)
          have hl : xL ls 4 [_, _, _, _] := hl
          refine y_iinc (d := 1) B hl hf dX10_first_80 rfl (by decide) (by decide) rfl (fun v13 ls hf hl => ?_)
          have hl : xL ls 4 [_, _, _, _] := hl
          refine lv_goto (tgt := 45) B.1.1 B.1.2.1 dX10_first_83 (by decide) ?_
          exact ih _ _ _ _ _ _ _ k_p0 hf hR hS hl
def f_X10_first (T : xT) (S : xS) (p0 : Nat) : Option (Int32 × xS) := xc (f_X10_get T S p0 ((0 : Int32))) (fun r2 S1 => if r2 = (0 : Int32) then some ((-1 : Int32), S1) else xcv (f_X10_copyRow T S1 p0 ((0 : Int32)) ((15 : Int32))) (fun S3 => xpi S3 p0 1 ((5490 : Int32)) (fun S4 => xc (f_X10_valueAnew T S4 p0) (fun r6 S5 => xl r6 (fun v7 => xc (f_X10_sumOf T S5 p0 ((5 : Int32))) (fun r9 S8 => xcv (f_X10_laySale T S8 p0 r9) (fun S10 => xc (f_X10_firstThere T S10 p0) (fun r12 S11 => xl r12 (fun v13 => xl v13 (fun v14 => f_X10_first_45 T xfu S11 p0 v13 v14))))))))))
set_option maxRecDepth 100000 in
set_option maxHeartbeats 4000000 in
theorem c_X10_first {l : Launch} {z : Nat} {D : va_G} {dA : Nat → ClassId} {T : xT} {S : xS} {p0 : Nat} (k_p0 : xlk T p0 10 = true) {q : Int32 × xS} (hf : f_X10_first T S p0 = some q) : Met l yX10_first (xws yX10_first cX10_first 4 (some .int)) xr_X10_first (xPc z D dA T S [.ref (z + p0)]) (xQi z D dA T q) 0 0 (xA z) := by
  refine x_met RX10 (by decide) rfl (Nat.le_of_ble_eq_true rfl) ?_
  intro p e s m below meth c ls _ X hr hlk hml _ hR hS hl
  have B : xB p s m _ meth c cX10_first RX10 4 (some .int) D dA := ⟨X, hr, hlk, hml⟩
  have hl : xL ls 4 [_, _, _, _] := hl
  unfold f_X10_first at hf
  refine lv_aload_n B.1.1 B.1.2.1 dX10_first_0 rfl (hl.at 0 rfl) ?_
  refine lv_iconst (v := 0) B.1.1 B.1.2.1 dX10_first_1 (by decide) ?_
  refine y_ci hf (fun q hq => x_runV (ci := 10) (C := RX10) B.1 B.2.2.2 hl hR hS cm_X10_193 ⟨rfl, rfl, Nat.le_of_ble_eq_true rfl, Nat.le_of_ble_eq_true rfl⟩ (by decide) rfl k_p0 (c_X10_get k_p0 hq) rfl rfl (Nat.le_of_ble_eq_true rfl) dX10_first_2 ⟨Nat.le_of_ble_eq_true rfl, Nat.le_of_ble_eq_true rfl⟩) hS (fun r2 S1 H locs hf hR hS => ?_)
  refine y_if_ne (tgt := 10) B hf dX10_first_5 (by decide) (fun hf => ?_) (fun hf => ?_)
  · refine lv_aload_n B.1.1 B.1.2.1 dX10_first_10 rfl (hl.at 0 rfl) ?_
    refine lv_iconst (v := 0) B.1.1 B.1.2.1 dX10_first_11 (by decide) ?_
    refine lv_bipush (v := 15) B.1.1 B.1.2.1 dX10_first_12 (by decide) ?_
    refine y_cv hf (fun q hq => x_runV (ci := 10) (C := RX10) B.1 B.2.2.2 hl hR hS cm_X10_78 ⟨rfl, rfl, Nat.le_of_ble_eq_true rfl, Nat.le_of_ble_eq_true rfl⟩ (by decide) rfl k_p0 (c_X10_copyRow k_p0 hq) rfl rfl (Nat.le_of_ble_eq_true rfl) dX10_first_14 ⟨Nat.le_of_ble_eq_true rfl, Nat.le_of_ble_eq_true rfl⟩) hS (fun S3 H locs hf hR hS => ?_)
    refine lv_aload_n B.1.1 B.1.2.1 dX10_first_17 rfl (hl.at 0 rfl) ?_
    refine lv_sipush (v := 5490) B.1.1 B.1.2.1 dX10_first_18 (by decide) ?_
    refine y_putI B hR hS hf k_p0 fp_X10_7 dX10_first_21 (fun S4 H locs hf hR hS => ?_)
    refine lv_aload_n B.1.1 B.1.2.1 dX10_first_24 rfl (hl.at 0 rfl) ?_
    refine y_ci hf (fun q hq => x_runV (ci := 10) (C := RX10) B.1 B.2.2.2 hl hR hS cm_X10_374 ⟨rfl, rfl, Nat.le_of_ble_eq_true rfl, Nat.le_of_ble_eq_true rfl⟩ (by decide) rfl k_p0 (c_X10_valueAnew k_p0 hq) rfl rfl (Nat.le_of_ble_eq_true rfl) dX10_first_25 ⟨Nat.le_of_ble_eq_true rfl, Nat.le_of_ble_eq_true rfl⟩) hS (fun r6 S5 H locs hf hR hS => ?_)
    refine y_istore_n B hl hf dX10_first_28 rfl (by decide) rfl (fun v7 ls hf hl => ?_)
    have hl : xL ls 4 [_, _, _, _] := hl
    refine lv_aload_n B.1.1 B.1.2.1 dX10_first_29 rfl (hl.at 0 rfl) ?_
    refine lv_aload_n B.1.1 B.1.2.1 dX10_first_30 rfl (hl.at 0 rfl) ?_
    refine lv_iconst (v := 5) B.1.1 B.1.2.1 dX10_first_31 (by decide) ?_
    refine y_ci hf (fun q hq => x_runV (ci := 10) (C := RX10) B.1 B.2.2.2 hl hR hS cm_X10_228 ⟨rfl, rfl, Nat.le_of_ble_eq_true rfl, Nat.le_of_ble_eq_true rfl⟩ (by decide) rfl k_p0 (c_X10_sumOf k_p0 hq) rfl rfl (Nat.le_of_ble_eq_true rfl) dX10_first_32 ⟨Nat.le_of_ble_eq_true rfl, Nat.le_of_ble_eq_true rfl⟩) hS (fun r9 S8 H locs hf hR hS => ?_)
    refine y_cv hf (fun q hq => x_runV (ci := 10) (C := RX10) B.1 B.2.2.2 hl hR hS cm_X10_215 ⟨rfl, rfl, Nat.le_of_ble_eq_true rfl, Nat.le_of_ble_eq_true rfl⟩ (by decide) rfl k_p0 (c_X10_laySale k_p0 hq) rfl rfl (Nat.le_of_ble_eq_true rfl) dX10_first_35 ⟨Nat.le_of_ble_eq_true rfl, Nat.le_of_ble_eq_true rfl⟩) hS (fun S10 H locs hf hR hS => ?_)
    refine lv_aload_n B.1.1 B.1.2.1 dX10_first_38 rfl (hl.at 0 rfl) ?_
    refine y_ci hf (fun q hq => x_runV (ci := 10) (C := RX10) B.1 B.2.2.2 hl hR hS cm_X10_277 ⟨rfl, rfl, Nat.le_of_ble_eq_true rfl, Nat.le_of_ble_eq_true rfl⟩ (by decide) rfl k_p0 (c_X10_firstThere k_p0 hq) rfl rfl (Nat.le_of_ble_eq_true rfl) dX10_first_39 ⟨Nat.le_of_ble_eq_true rfl, Nat.le_of_ble_eq_true rfl⟩) hS (fun r12 S11 H locs hf hR hS => ?_)
    refine y_istore_n B hl hf dX10_first_42 rfl (by decide) rfl (fun v13 ls hf hl => ?_)
    have hl : xL ls 4 [_, _, _, _] := hl
    refine lv_iload_n B.1.1 B.1.2.1 dX10_first_43 rfl (hl.at 2 rfl) ?_
    refine y_istore_n B hl hf dX10_first_44 rfl (by decide) rfl (fun v14 ls hf hl => ?_)
    have hl : xL ls 4 [_, _, _, _] := hl
    exact w_X10_first_45 B xfu _ _ _ _ _ _ _ k_p0 hf hR hS (hl.drop [true, false, true, true] rfl)
  · refine lv_iconst (v := -1) B.1.1 B.1.2.1 dX10_first_8 (by decide) ?_
    exact y_iret B hR hS hf dX10_first_9
abbrev xr_X10_fills : Room := { frames := 4, cells := 0, slots := 0, locals := 77 }
def f_X10_fills_99 (T : xT) (S : xS) (p2 : Int32) (p3 : Int32) (p4 : Int32) : Option (Int32 × xS) := if p2 = (1 : Int32) then some (p3, S) else if p3 ≤ (0 : Int32) then some (p4, S) else some ((p4 + (1 : Int32)), S)
set_option maxRecDepth 100000 in
set_option maxHeartbeats 4000000 in
theorem w_X10_fills_99 {p : Program} {l : Launch} {e : Env} {s : State} {m : MethodId} {args : Array Value} {below : List Frame} {meth : Method} {c : Code} {z : Nat} {D : va_G} {dA : Nat → ClassId} {T : xT} (B : xB p s m args meth c cX10_fills RX10 6 (some .int) D dA) {q : Int32 × xS} : ∀ (S : xS) (H : Heap) (locs : List Loc) (ls : Array Slot) (p2 : Int32) (p3 : Int32) (p4 : Int32), f_X10_fills_99 T S p2 p3 p4 = some q → xRel z D dA T S H → va_S (xA z) s.heap H locs → xL ls 6 [none, none, some (.int p2), some (.int p3), some (.int p4), none] → xGi p l e xr_X10_fills s m args below meth c z D dA T q H locs 99 ls [] := by
  intro S H locs ls p2 p3 p4 hf hR hS hl
  unfold f_X10_fills_99 at hf
  refine lv_iload_n B.1.1 B.1.2.1 dX10_fills_99 rfl (hl.at 2 rfl) ?_
  refine lv_iconst (v := 1) B.1.1 B.1.2.1 dX10_fills_100 (by decide) ?_
  refine y_icmp_ne (tgt := 108) B hf dX10_fills_101 (by decide) (fun hf => ?_) (fun hf => ?_)
  · refine lv_iload_n B.1.1 B.1.2.1 dX10_fills_108 rfl (hl.at 3 rfl) ?_
    refine y_if_le (tgt := 119) B hf dX10_fills_109 (by decide) (fun hf => ?_) (fun hf => ?_)
    · refine lv_iload B.1.1 B.1.2.1 dX10_fills_119 (hl.at 4 rfl) ?_
      exact y_iret B hR hS hf dX10_fills_121
    · refine lv_iload B.1.1 B.1.2.1 dX10_fills_112 (hl.at 4 rfl) ?_
      refine lv_iconst (v := 1) B.1.1 B.1.2.1 dX10_fills_114 (by decide) ?_
      refine lv_iadd B.1.1 B.1.2.1 dX10_fills_115 ?_
      refine lv_goto (tgt := 121) B.1.1 B.1.2.1 dX10_fills_116 (by decide) ?_
      exact y_iret B hR hS hf dX10_fills_121
  · refine lv_iload_n B.1.1 B.1.2.1 dX10_fills_104 rfl (hl.at 3 rfl) ?_
    refine lv_goto (tgt := 121) B.1.1 B.1.2.1 dX10_fills_105 (by decide) ?_
    exact y_iret B hR hS hf dX10_fills_121
def f_X10_fills_38 (T : xT) : Nat → xS → Nat → Int32 → Int32 → Int32 → Int32 → Option (Int32 × xS)
  | 0, _, _, _, _, _, _ => none
  | n + 1, S, p0, p2, p3, p4, p5 => xc (f_X10_get T S p0 ((77 : Int32))) (fun r2 S1 => if r2 ≤ p5 then f_X10_fills_99 T S1 p2 p3 p4 else if p3 ≤ (0 : Int32) then f_X10_fills_99 T S1 p2 p3 p4 else xcv (f_X10_weighTier T S1 p0 p5) (fun S3 => xc (f_X10_sumWeights T S3 p0) (fun r5 S4 => if (lg_cmp r5 ((0 : Int64))) = (0 : Int32) then xl (p5 + (1 : Int32)) (fun v13 => f_X10_fills_38 T n S4 p0 p2 p3 p4 v13) else xc (f_X10_get T S4 p0 (((78 : Int32) + ((9 : Int32) * p5)))) (fun r7 S6 => xc (f_X10_lesser T S6 p3 r7) (fun r9 S8 => xl ((p3 - r9)) (fun v10 => xl (p4 + (1 : Int32)) (fun v11 => xl (p5 + (1 : Int32)) (fun v12 => f_X10_fills_38 T n S8 p0 p2 v10 v11 v12))))))))
set_option maxRecDepth 100000 in
set_option maxHeartbeats 4000000 in
theorem w_X10_fills_38 {p : Program} {l : Launch} {e : Env} {s : State} {m : MethodId} {args : Array Value} {below : List Frame} {meth : Method} {c : Code} {z : Nat} {D : va_G} {dA : Nat → ClassId} {T : xT} (B : xB p s m args meth c cX10_fills RX10 6 (some .int) D dA) {q : Int32 × xS} : ∀ (n : Nat), ∀ (S : xS) (H : Heap) (locs : List Loc) (ls : Array Slot) (p0 : Nat) (p2 : Int32) (p3 : Int32) (p4 : Int32) (p5 : Int32), xlk T p0 10 = true → f_X10_fills_38 T n S p0 p2 p3 p4 p5 = some q → xRel z D dA T S H → va_S (xA z) s.heap H locs → xL ls 6 [some (.ref (z + p0)), none, some (.int p2), some (.int p3), some (.int p4), some (.int p5)] → xGi p l e xr_X10_fills s m args below meth c z D dA T q H locs 38 ls [] := by
  intro n
  induction n with
  | zero =>
    intro S H locs ls p0 p2 p3 p4 p5 k_p0 hf hR hS hl
    exact absurd hf (by simp [f_X10_fills_38])
  | succ n ih =>
    intro S H locs ls p0 p2 p3 p4 p5 k_p0 hf hR hS hl
    unfold f_X10_fills_38 at hf
    refine lv_iload B.1.1 B.1.2.1 dX10_fills_38 (hl.at 5 rfl) ?_
    refine lv_aload_n B.1.1 B.1.2.1 dX10_fills_40 rfl (hl.at 0 rfl) ?_
    refine lv_bipush (v := 77) B.1.1 B.1.2.1 dX10_fills_41 (by decide) ?_
    refine y_ci hf (fun q hq => x_runV (ci := 10) (C := RX10) B.1 B.2.2.2 hl hR hS cm_X10_193 ⟨rfl, rfl, Nat.le_of_ble_eq_true rfl, Nat.le_of_ble_eq_true rfl⟩ (by decide) rfl k_p0 (c_X10_get k_p0 hq) rfl rfl (Nat.le_of_ble_eq_true rfl) dX10_fills_43 ⟨Nat.le_of_ble_eq_true rfl, Nat.le_of_ble_eq_true rfl⟩) hS (fun r2 S1 H locs hf hR hS => ?_)
    refine y_icmp_ge (tgt := 99) B hf dX10_fills_46 (by decide) (fun hf => ?_) (fun hf => ?_)
    · exact w_X10_fills_99 B _ _ _ _ _ _ _ hf hR hS (hl.drop [false, false, true, true, true, false] rfl)
    · refine lv_iload_n B.1.1 B.1.2.1 dX10_fills_49 rfl (hl.at 3 rfl) ?_
      refine y_if_le (tgt := 99) B hf dX10_fills_50 (by decide) (fun hf => ?_) (fun hf => ?_)
      · exact w_X10_fills_99 B _ _ _ _ _ _ _ hf hR hS (hl.drop [false, false, true, true, true, false] rfl)
      · refine lv_aload_n B.1.1 B.1.2.1 dX10_fills_53 rfl (hl.at 0 rfl) ?_
        refine lv_iload B.1.1 B.1.2.1 dX10_fills_54 (hl.at 5 rfl) ?_
        refine y_cv hf (fun q hq => x_runV (ci := 10) (C := RX10) B.1 B.2.2.2 hl hR hS cm_X10_206 ⟨rfl, rfl, Nat.le_of_ble_eq_true rfl, Nat.le_of_ble_eq_true rfl⟩ (by decide) rfl k_p0 (c_X10_weighTier k_p0 hq) rfl rfl (Nat.le_of_ble_eq_true rfl) dX10_fills_56 ⟨Nat.le_of_ble_eq_true rfl, Nat.le_of_ble_eq_true rfl⟩) hS (fun S3 H locs hf hR hS => ?_)
        refine lv_aload_n B.1.1 B.1.2.1 dX10_fills_59 rfl (hl.at 0 rfl) ?_
        refine y_cl hf (fun q hq => x_runV (ci := 10) (C := RX10) B.1 B.2.2.2 hl hR hS cm_X10_197 ⟨rfl, rfl, Nat.le_of_ble_eq_true rfl, Nat.le_of_ble_eq_true rfl⟩ (by decide) rfl k_p0 (c_X10_sumWeights k_p0 hq) rfl rfl (Nat.le_of_ble_eq_true rfl) dX10_fills_60 ⟨Nat.le_of_ble_eq_true rfl, Nat.le_of_ble_eq_true rfl⟩) hS (fun r5 S4 H locs hf hR hS => ?_)
        refine lv_lconst (v := 0) B.1.1 B.1.2.1 dX10_fills_63 (by decide) ?_
        refine W.lcmp B.1.1 B.1.2.1 dX10_fills_64 ?_
        refine y_if_ne (tgt := 71) B hf dX10_fills_65 (by decide) (fun hf => ?_) (fun hf => ?_)
        · refine lv_iload_n B.1.1 B.1.2.1 dX10_fills_71 rfl (hl.at 3 rfl) ?_
          refine lv_iload_n B.1.1 B.1.2.1 dX10_fills_72 rfl (hl.at 3 rfl) ?_
          refine lv_aload_n B.1.1 B.1.2.1 dX10_fills_73 rfl (hl.at 0 rfl) ?_
          refine lv_bipush (v := 78) B.1.1 B.1.2.1 dX10_fills_74 (by decide) ?_
          refine lv_bipush (v := 9) B.1.1 B.1.2.1 dX10_fills_76 (by decide) ?_
          refine lv_iload B.1.1 B.1.2.1 dX10_fills_78 (hl.at 5 rfl) ?_
          refine lv_imul B.1.1 B.1.2.1 dX10_fills_80 ?_
          refine lv_iadd B.1.1 B.1.2.1 dX10_fills_81 ?_
          refine y_ci hf (fun q hq => x_runV (ci := 10) (C := RX10) B.1 B.2.2.2 hl hR hS cm_X10_193 ⟨rfl, rfl, Nat.le_of_ble_eq_true rfl, Nat.le_of_ble_eq_true rfl⟩ (by decide) rfl k_p0 (c_X10_get k_p0 hq) rfl rfl (Nat.le_of_ble_eq_true rfl) dX10_fills_82 ⟨Nat.le_of_ble_eq_true rfl, Nat.le_of_ble_eq_true rfl⟩) hS (fun r7 S6 H locs hf hR hS => ?_)
          refine y_ci hf (fun q hq => y_runS B.1 B.2.2.2 hl hR hS cm_X10_252 ⟨rfl, rfl, Nat.le_of_ble_eq_true rfl, Nat.le_of_ble_eq_true rfl⟩ (c_X10_lesser hq) rfl rfl (Nat.le_of_ble_eq_true rfl) dX10_fills_85 ⟨Nat.le_of_ble_eq_true rfl, Nat.le_of_ble_eq_true rfl⟩) hS (fun r9 S8 H locs hf hR hS => ?_)
          refine lv_isub B.1.1 B.1.2.1 dX10_fills_88 ?_
          refine y_istore_n B hl hf dX10_fills_89 rfl (by decide) rfl (fun v10 ls hf hl => ?_)
          have hl : xL ls 6 [_, _, _, _, _, _] := hl
          refine y_iinc (d := 1) B hl hf dX10_fills_90 rfl (by decide) (by decide) rfl (fun v11 ls hf hl => ?_)
          have hl : xL ls 6 [_, _, _, _, _, _] := hl
          refine y_iinc (d := 1) B hl hf dX10_fills_93 rfl (by decide) (by decide) rfl (fun v12 ls hf hl => ?_)
          have hl : xL ls 6 [_, _, _, _, _, _] := hl
          refine lv_goto (tgt := 38) B.1.1 B.1.2.1 dX10_fills_96 (by decide) ?_
          exact ih _ _ _ _ _ _ _ _ _ k_p0 hf hR hS hl
        · refine lv_goto (tgt := 93) B.1.1 B.1.2.1 dX10_fills_68 (by decide) ?_
          refine y_iinc (d := 1) B hl hf dX10_fills_93 rfl (by decide) (by decide) rfl (fun v13 ls hf hl => ?_)
          have hl : xL ls 6 [_, _, _, _, _, _] := hl
          refine lv_goto (tgt := 38) B.1.1 B.1.2.1 dX10_fills_96 (by decide) ?_
          exact ih _ _ _ _ _ _ _ _ _ k_p0 hf hR hS hl
def f_X10_fills (T : xT) (S : xS) (p0 : Nat) (p1 : Int32) (p2 : Int32) : Option (Int32 × xS) := xc (f_X10_get T S p0 ((0 : Int32))) (fun r2 S1 => if r2 = (0 : Int32) then some ((-1000000000 : Int32), S1) else xc (f_X10_isIn T S1 p1 ((0 : Int32)) ((100000000 : Int32))) (fun r4 S3 => if r4 = (0 : Int32) then some ((-1000000000 : Int32), S3) else xc (f_X10_isIn T S3 p2 ((0 : Int32)) ((1 : Int32))) (fun r6 S5 => if r6 = (0 : Int32) then some ((-1000000000 : Int32), S5) else xl p1 (fun v7 => xl ((0 : Int32)) (fun v8 => xl ((0 : Int32)) (fun v9 => f_X10_fills_38 T xfu S5 p0 p2 v7 v8 v9))))))
set_option maxRecDepth 100000 in
set_option maxHeartbeats 4000000 in
theorem c_X10_fills {l : Launch} {z : Nat} {D : va_G} {dA : Nat → ClassId} {T : xT} {S : xS} {p0 : Nat} {p1 : Int32} {p2 : Int32} (k_p0 : xlk T p0 10 = true) {q : Int32 × xS} (hf : f_X10_fills T S p0 p1 p2 = some q) : Met l yX10_fills (xws yX10_fills cX10_fills 6 (some .int)) xr_X10_fills (xPc z D dA T S [.ref (z + p0), .int p1, .int p2]) (xQi z D dA T q) 0 0 (xA z) := by
  refine x_met RX10 (by decide) rfl (Nat.le_of_ble_eq_true rfl) ?_
  intro p e s m below meth c ls _ X hr hlk hml _ hR hS hl
  have B : xB p s m _ meth c cX10_fills RX10 6 (some .int) D dA := ⟨X, hr, hlk, hml⟩
  have hl : xL ls 6 [_, _, _, _, _, _] := hl
  unfold f_X10_fills at hf
  refine lv_aload_n B.1.1 B.1.2.1 dX10_fills_0 rfl (hl.at 0 rfl) ?_
  refine lv_iconst (v := 0) B.1.1 B.1.2.1 dX10_fills_1 (by decide) ?_
  refine y_ci hf (fun q hq => x_runV (ci := 10) (C := RX10) B.1 B.2.2.2 hl hR hS cm_X10_193 ⟨rfl, rfl, Nat.le_of_ble_eq_true rfl, Nat.le_of_ble_eq_true rfl⟩ (by decide) rfl k_p0 (c_X10_get k_p0 hq) rfl rfl (Nat.le_of_ble_eq_true rfl) dX10_fills_2 ⟨Nat.le_of_ble_eq_true rfl, Nat.le_of_ble_eq_true rfl⟩) hS (fun r2 S1 H locs hf hR hS => ?_)
  refine y_if_eq (tgt := 27) B hf dX10_fills_5 (by decide) (fun hf => ?_) (fun hf => ?_)
  · refine lv_ldc (v := -1000000000) B.1.1 B.1.2.1 B.1.2.2.1 (B.1.2.2.2.1 _ tw_1301) dX10_fills_27 ?_
    exact y_iret B hR hS hf dX10_fills_29
  · refine lv_iload_n B.1.1 B.1.2.1 dX10_fills_8 rfl (hl.at 1 rfl) ?_
    refine lv_iconst (v := 0) B.1.1 B.1.2.1 dX10_fills_9 (by decide) ?_
    refine lv_ldc (v := 100000000) B.1.1 B.1.2.1 B.1.2.2.1 (B.1.2.2.2.1 _ tw_1296) dX10_fills_10 ?_
    refine y_ci hf (fun q hq => y_runS B.1 B.2.2.2 hl hR hS cm_X10_81 ⟨rfl, rfl, Nat.le_of_ble_eq_true rfl, Nat.le_of_ble_eq_true rfl⟩ (c_X10_isIn hq) rfl rfl (Nat.le_of_ble_eq_true rfl) dX10_fills_12 ⟨Nat.le_of_ble_eq_true rfl, Nat.le_of_ble_eq_true rfl⟩) hS (fun r4 S3 H locs hf hR hS => ?_)
    refine y_if_eq (tgt := 27) B hf dX10_fills_15 (by decide) (fun hf => ?_) (fun hf => ?_)
    · refine lv_ldc (v := -1000000000) B.1.1 B.1.2.1 B.1.2.2.1 (B.1.2.2.2.1 _ tw_1301) dX10_fills_27 ?_
      exact y_iret B hR hS hf dX10_fills_29
    · refine lv_iload_n B.1.1 B.1.2.1 dX10_fills_18 rfl (hl.at 2 rfl) ?_
      refine lv_iconst (v := 0) B.1.1 B.1.2.1 dX10_fills_19 (by decide) ?_
      refine lv_iconst (v := 1) B.1.1 B.1.2.1 dX10_fills_20 (by decide) ?_
      refine y_ci hf (fun q hq => y_runS B.1 B.2.2.2 hl hR hS cm_X10_81 ⟨rfl, rfl, Nat.le_of_ble_eq_true rfl, Nat.le_of_ble_eq_true rfl⟩ (c_X10_isIn hq) rfl rfl (Nat.le_of_ble_eq_true rfl) dX10_fills_21 ⟨Nat.le_of_ble_eq_true rfl, Nat.le_of_ble_eq_true rfl⟩) hS (fun r6 S5 H locs hf hR hS => ?_)
      refine y_if_ne (tgt := 30) B hf dX10_fills_24 (by decide) (fun hf => ?_) (fun hf => ?_)
      · refine lv_iload_n B.1.1 B.1.2.1 dX10_fills_30 rfl (hl.at 1 rfl) ?_
        refine y_istore_n B hl hf dX10_fills_31 rfl (by decide) rfl (fun v7 ls hf hl => ?_)
        have hl : xL ls 6 [_, _, _, _, _, _] := hl
        refine lv_iconst (v := 0) B.1.1 B.1.2.1 dX10_fills_32 (by decide) ?_
        refine y_istore B hl hf dX10_fills_33 (by decide) rfl (fun v8 ls hf hl => ?_)
        have hl : xL ls 6 [_, _, _, _, _, _] := hl
        refine lv_iconst (v := 0) B.1.1 B.1.2.1 dX10_fills_35 (by decide) ?_
        refine y_istore B hl hf dX10_fills_36 (by decide) rfl (fun v9 ls hf hl => ?_)
        have hl : xL ls 6 [_, _, _, _, _, _] := hl
        exact w_X10_fills_38 B xfu _ _ _ _ _ _ _ _ _ k_p0 hf hR hS (hl.drop [true, false, true, true, true, true] rfl)
      · refine lv_ldc (v := -1000000000) B.1.1 B.1.2.1 B.1.2.2.1 (B.1.2.2.2.1 _ tw_1301) dX10_fills_27 ?_
        exact y_iret B hR hS hf dX10_fills_29
abbrev xr_X10_breaks : Room := { frames := 10, cells := 0, slots := 0, locals := 213 }
def f_X10_breaks_25 (T : xT) : Nat → xS → Nat → Int32 → Int32 → Int32 → Option (Int32 × xS)
  | 0, _, _, _, _, _ => none
  | n + 1, S, p0, p1, p2, p3 => if p1 < p3 then some (p2, S) else if p2 = (-1 : Int32) then xcv (f_X10_closeAside T S p0 ((-p3))) (fun S1 => xc (f_X10_get T S1 p0 ((309 : Int32))) (fun r3 S2 => if r3 ≤ (0 : Int32) then xpi S2 p0 1 ((0 : Int32)) (fun S4 => xl (p3 + (1 : Int32)) (fun v5 => f_X10_breaks_25 T n S4 p0 p1 p2 v5)) else xl p3 (fun v6 => xpi S2 p0 1 ((0 : Int32)) (fun S7 => xl (p3 + (1 : Int32)) (fun v8 => f_X10_breaks_25 T n S7 p0 p1 v6 v8))))) else some (p2, S)
set_option maxRecDepth 100000 in
set_option maxHeartbeats 4000000 in
theorem w_X10_breaks_25 {p : Program} {l : Launch} {e : Env} {s : State} {m : MethodId} {args : Array Value} {below : List Frame} {meth : Method} {c : Code} {z : Nat} {D : va_G} {dA : Nat → ClassId} {T : xT} (B : xB p s m args meth c cX10_breaks RX10 4 (some .int) D dA) {q : Int32 × xS} : ∀ (n : Nat), ∀ (S : xS) (H : Heap) (locs : List Loc) (ls : Array Slot) (p0 : Nat) (p1 : Int32) (p2 : Int32) (p3 : Int32), xlk T p0 10 = true → f_X10_breaks_25 T n S p0 p1 p2 p3 = some q → xRel z D dA T S H → va_S (xA z) s.heap H locs → xL ls 4 [some (.ref (z + p0)), some (.int p1), some (.int p2), some (.int p3)] → xGi p l e xr_X10_breaks s m args below meth c z D dA T q H locs 25 ls [] := by
  intro n
  induction n with
  | zero =>
    intro S H locs ls p0 p1 p2 p3 k_p0 hf hR hS hl
    exact absurd hf (by simp [f_X10_breaks_25])
  | succ n ih =>
    intro S H locs ls p0 p1 p2 p3 k_p0 hf hR hS hl
    unfold f_X10_breaks_25 at hf
    refine lv_iload_n B.1.1 B.1.2.1 dX10_breaks_25 rfl (hl.at 3 rfl) ?_
    refine lv_iload_n B.1.1 B.1.2.1 dX10_breaks_26 rfl (hl.at 1 rfl) ?_
    refine y_icmp_gt (tgt := 64) B hf dX10_breaks_27 (by decide) (fun hf => ?_) (fun hf => ?_)
    · refine lv_iload_n B.1.1 B.1.2.1 dX10_breaks_64 rfl (hl.at 2 rfl) ?_
      exact y_iret B hR hS hf dX10_breaks_65
    · refine lv_iload_n B.1.1 B.1.2.1 dX10_breaks_30 rfl (hl.at 2 rfl) ?_
      refine lv_iconst (v := -1) B.1.1 B.1.2.1 dX10_breaks_31 (by decide) ?_
      refine y_icmp_ne (tgt := 64) B hf dX10_breaks_32 (by decide) (fun hf => ?_) (fun hf => ?_)
      · refine lv_iload_n B.1.1 B.1.2.1 dX10_breaks_64 rfl (hl.at 2 rfl) ?_
        exact y_iret B hR hS hf dX10_breaks_65
      · refine lv_aload_n B.1.1 B.1.2.1 dX10_breaks_35 rfl (hl.at 0 rfl) ?_
        refine lv_iload_n B.1.1 B.1.2.1 dX10_breaks_36 rfl (hl.at 3 rfl) ?_
        refine lv_ineg B.1.1 B.1.2.1 dX10_breaks_37 ?_
        refine y_cv hf (fun q hq => x_runV (ci := 10) (C := RX10) B.1 B.2.2.2 hl hR hS cm_X10_386 ⟨rfl, rfl, Nat.le_of_ble_eq_true rfl, Nat.le_of_ble_eq_true rfl⟩ (by decide) rfl k_p0 (c_X10_closeAside k_p0 hq) rfl rfl (Nat.le_of_ble_eq_true rfl) dX10_breaks_38 ⟨Nat.le_of_ble_eq_true rfl, Nat.le_of_ble_eq_true rfl⟩) hS (fun S1 H locs hf hR hS => ?_)
        refine lv_aload_n B.1.1 B.1.2.1 dX10_breaks_41 rfl (hl.at 0 rfl) ?_
        refine lv_sipush (v := 309) B.1.1 B.1.2.1 dX10_breaks_42 (by decide) ?_
        refine y_ci hf (fun q hq => x_runV (ci := 10) (C := RX10) B.1 B.2.2.2 hl hR hS cm_X10_193 ⟨rfl, rfl, Nat.le_of_ble_eq_true rfl, Nat.le_of_ble_eq_true rfl⟩ (by decide) rfl k_p0 (c_X10_get k_p0 hq) rfl rfl (Nat.le_of_ble_eq_true rfl) dX10_breaks_45 ⟨Nat.le_of_ble_eq_true rfl, Nat.le_of_ble_eq_true rfl⟩) hS (fun r3 S2 H locs hf hR hS => ?_)
        refine y_if_le (tgt := 53) B hf dX10_breaks_48 (by decide) (fun hf => ?_) (fun hf => ?_)
        · refine lv_aload_n B.1.1 B.1.2.1 dX10_breaks_53 rfl (hl.at 0 rfl) ?_
          refine lv_iconst (v := 0) B.1.1 B.1.2.1 dX10_breaks_54 (by decide) ?_
          refine y_putI B hR hS hf k_p0 fp_X10_7 dX10_breaks_55 (fun S4 H locs hf hR hS => ?_)
          refine y_iinc (d := 1) B hl hf dX10_breaks_58 rfl (by decide) (by decide) rfl (fun v5 ls hf hl => ?_)
          have hl : xL ls 4 [_, _, _, _] := hl
          refine lv_goto (tgt := 25) B.1.1 B.1.2.1 dX10_breaks_61 (by decide) ?_
          exact ih _ _ _ _ _ _ _ _ k_p0 hf hR hS hl
        · refine lv_iload_n B.1.1 B.1.2.1 dX10_breaks_51 rfl (hl.at 3 rfl) ?_
          refine y_istore_n B hl hf dX10_breaks_52 rfl (by decide) rfl (fun v6 ls hf hl => ?_)
          have hl : xL ls 4 [_, _, _, _] := hl
          refine lv_aload_n B.1.1 B.1.2.1 dX10_breaks_53 rfl (hl.at 0 rfl) ?_
          refine lv_iconst (v := 0) B.1.1 B.1.2.1 dX10_breaks_54 (by decide) ?_
          refine y_putI B hR hS hf k_p0 fp_X10_7 dX10_breaks_55 (fun S7 H locs hf hR hS => ?_)
          refine y_iinc (d := 1) B hl hf dX10_breaks_58 rfl (by decide) (by decide) rfl (fun v8 ls hf hl => ?_)
          have hl : xL ls 4 [_, _, _, _] := hl
          refine lv_goto (tgt := 25) B.1.1 B.1.2.1 dX10_breaks_61 (by decide) ?_
          exact ih _ _ _ _ _ _ _ _ k_p0 hf hR hS hl
def f_X10_breaks (T : xT) (S : xS) (p0 : Nat) (p1 : Int32) : Option (Int32 × xS) := xc (f_X10_get T S p0 ((0 : Int32))) (fun r2 S1 => if r2 = (0 : Int32) then some ((-1 : Int32), S1) else xc (f_X10_isIn T S1 p1 ((1 : Int32)) ((200 : Int32))) (fun r4 S3 => if r4 = (0 : Int32) then some ((-1 : Int32), S3) else xl ((-1 : Int32)) (fun v5 => xl ((1 : Int32)) (fun v6 => f_X10_breaks_25 T xfu S3 p0 p1 v5 v6))))
set_option maxRecDepth 100000 in
set_option maxHeartbeats 4000000 in
theorem c_X10_breaks {l : Launch} {z : Nat} {D : va_G} {dA : Nat → ClassId} {T : xT} {S : xS} {p0 : Nat} {p1 : Int32} (k_p0 : xlk T p0 10 = true) {q : Int32 × xS} (hf : f_X10_breaks T S p0 p1 = some q) : Met l yX10_breaks (xws yX10_breaks cX10_breaks 4 (some .int)) xr_X10_breaks (xPc z D dA T S [.ref (z + p0), .int p1]) (xQi z D dA T q) 0 0 (xA z) := by
  refine x_met RX10 (by decide) rfl (Nat.le_of_ble_eq_true rfl) ?_
  intro p e s m below meth c ls _ X hr hlk hml _ hR hS hl
  have B : xB p s m _ meth c cX10_breaks RX10 4 (some .int) D dA := ⟨X, hr, hlk, hml⟩
  have hl : xL ls 4 [_, _, _, _] := hl
  unfold f_X10_breaks at hf
  refine lv_aload_n B.1.1 B.1.2.1 dX10_breaks_0 rfl (hl.at 0 rfl) ?_
  refine lv_iconst (v := 0) B.1.1 B.1.2.1 dX10_breaks_1 (by decide) ?_
  refine y_ci hf (fun q hq => x_runV (ci := 10) (C := RX10) B.1 B.2.2.2 hl hR hS cm_X10_193 ⟨rfl, rfl, Nat.le_of_ble_eq_true rfl, Nat.le_of_ble_eq_true rfl⟩ (by decide) rfl k_p0 (c_X10_get k_p0 hq) rfl rfl (Nat.le_of_ble_eq_true rfl) dX10_breaks_2 ⟨Nat.le_of_ble_eq_true rfl, Nat.le_of_ble_eq_true rfl⟩) hS (fun r2 S1 H locs hf hR hS => ?_)
  refine y_if_eq (tgt := 19) B hf dX10_breaks_5 (by decide) (fun hf => ?_) (fun hf => ?_)
  · refine lv_iconst (v := -1) B.1.1 B.1.2.1 dX10_breaks_19 (by decide) ?_
    exact y_iret B hR hS hf dX10_breaks_20
  · refine lv_iload_n B.1.1 B.1.2.1 dX10_breaks_8 rfl (hl.at 1 rfl) ?_
    refine lv_iconst (v := 1) B.1.1 B.1.2.1 dX10_breaks_9 (by decide) ?_
    refine lv_sipush (v := 200) B.1.1 B.1.2.1 dX10_breaks_10 (by decide) ?_
    refine y_ci hf (fun q hq => y_runS B.1 B.2.2.2 hl hR hS cm_X10_81 ⟨rfl, rfl, Nat.le_of_ble_eq_true rfl, Nat.le_of_ble_eq_true rfl⟩ (c_X10_isIn hq) rfl rfl (Nat.le_of_ble_eq_true rfl) dX10_breaks_13 ⟨Nat.le_of_ble_eq_true rfl, Nat.le_of_ble_eq_true rfl⟩) hS (fun r4 S3 H locs hf hR hS => ?_)
    refine y_if_ne (tgt := 21) B hf dX10_breaks_16 (by decide) (fun hf => ?_) (fun hf => ?_)
    · refine lv_iconst (v := -1) B.1.1 B.1.2.1 dX10_breaks_21 (by decide) ?_
      refine y_istore_n B hl hf dX10_breaks_22 rfl (by decide) rfl (fun v5 ls hf hl => ?_)
      have hl : xL ls 4 [_, _, _, _] := hl
      refine lv_iconst (v := 1) B.1.1 B.1.2.1 dX10_breaks_23 (by decide) ?_
      refine y_istore_n B hl hf dX10_breaks_24 rfl (by decide) rfl (fun v6 ls hf hl => ?_)
      have hl : xL ls 4 [_, _, _, _] := hl
      exact w_X10_breaks_25 B xfu _ _ _ _ _ _ _ _ k_p0 hf hR hS hl
    · refine lv_iconst (v := -1) B.1.1 B.1.2.1 dX10_breaks_19 (by decide) ?_
      exact y_iret B hR hS hf dX10_breaks_20
abbrev xr_X10_actHere : Room := { frames := 6, cells := 0, slots := 0, locals := 128 }
def f_X10_actHere (T : xT) (S : xS) (p0 : Nat) : Option (Int32 × xS) := xc (f_X10_w5 T S ((99 : Int32)) ((108 : Int32)) ((111 : Int32)) ((115 : Int32)) ((101 : Int32))) (fun r2 S1 => xc (f_X10_isWord T S1 p0 r2) (fun r4 S3 => if r4 = (0 : Int32) then xc (f_X10_w4 T S3 ((101 : Int32)) ((97 : Int32)) ((114 : Int32)) ((110 : Int32))) (fun r6 S5 => xc (f_X10_isWord T S5 p0 r6) (fun r8 S7 => if r8 = (0 : Int32) then xc (f_X10_w4 T S7 ((108 : Int32)) ((111 : Int32)) ((115 : Int32)) ((101 : Int32))) (fun r10 S9 => xc (f_X10_isWord T S9 p0 r10) (fun r12 S11 => if r12 = (0 : Int32) then xc (f_X10_w6 T S11 ((98 : Int32)) ((111 : Int32)) ((114 : Int32)) ((114 : Int32)) ((111 : Int32)) ((119 : Int32))) (fun r14 S13 => xc (f_X10_isWord T S13 p0 r14) (fun r16 S15 => if r16 = (0 : Int32) then xc (f_X10_w5 T S15 ((114 : Int32)) ((101 : Int32)) ((112 : Int32)) ((97 : Int32)) ((121 : Int32))) (fun r18 S17 => xc (f_X10_isWord T S17 p0 r18) (fun r20 S19 => if r20 = (0 : Int32) then xc (f_X10_w6 T S19 ((109 : Int32)) ((97 : Int32)) ((114 : Int32)) ((107 : Int32)) ((101 : Int32)) ((116 : Int32))) (fun r22 S21 => xc (f_X10_isWord T S21 p0 r22) (fun r24 S23 => if r24 = (0 : Int32) then xc (f_X10_w3 T S23 ((112 : Int32)) ((97 : Int32)) ((121 : Int32))) (fun r26 S25 => xc (f_X10_isWord T S25 p0 r26) (fun r28 S27 => if r28 = (0 : Int32) then xc (f_X10_w4 T S27 ((100 : Int32)) ((114 : Int32)) ((97 : Int32)) ((119 : Int32))) (fun r30 S29 => xc (f_X10_isWord T S29 p0 r30) (fun r32 S31 => if r32 = (0 : Int32) then xc (f_X10_w4 T S31 ((99 : Int32)) ((111 : Int32)) ((109 : Int32)) ((101 : Int32))) (fun r34 S33 => xc (f_X10_isWord T S33 p0 r34) (fun r36 S35 => if r36 = (0 : Int32) then xc (f_X10_letter T S35 ((0 : Int64)) ((103 : Int32))) (fun r38 S37 => xc (f_X10_letter T S37 r38 ((111 : Int32))) (fun r40 S39 => xc (f_X10_isWord T S39 p0 r40) (fun r42 S41 => if r42 = (0 : Int32) then some ((-1 : Int32), S41) else some ((9 : Int32), S41)))) else some ((8 : Int32), S35))) else some ((7 : Int32), S31))) else some ((6 : Int32), S27))) else some ((5 : Int32), S23))) else some ((4 : Int32), S19))) else some ((3 : Int32), S15))) else some ((2 : Int32), S11))) else some ((1 : Int32), S7))) else some ((0 : Int32), S3)))
set_option maxRecDepth 100000 in
set_option maxHeartbeats 4000000 in
theorem c_X10_actHere {l : Launch} {z : Nat} {D : va_G} {dA : Nat → ClassId} {T : xT} {S : xS} {p0 : Nat} (k_p0 : xlk T p0 10 = true) {q : Int32 × xS} (hf : f_X10_actHere T S p0 = some q) : Met l yX10_actHere (xws yX10_actHere cX10_actHere 1 (some .int)) xr_X10_actHere (xPc z D dA T S [.ref (z + p0)]) (xQi z D dA T q) 0 0 (xA z) := by
  refine x_met RX10 (by decide) rfl (Nat.le_of_ble_eq_true rfl) ?_
  intro p e s m below meth c ls _ X hr hlk hml _ hR hS hl
  have B : xB p s m _ meth c cX10_actHere RX10 1 (some .int) D dA := ⟨X, hr, hlk, hml⟩
  have hl : xL ls 1 [_] := hl
  unfold f_X10_actHere at hf
  refine lv_aload_n B.1.1 B.1.2.1 dX10_actHere_0 rfl (hl.at 0 rfl) ?_
  refine lv_bipush (v := 99) B.1.1 B.1.2.1 dX10_actHere_1 (by decide) ?_
  refine lv_bipush (v := 108) B.1.1 B.1.2.1 dX10_actHere_3 (by decide) ?_
  refine lv_bipush (v := 111) B.1.1 B.1.2.1 dX10_actHere_5 (by decide) ?_
  refine lv_bipush (v := 115) B.1.1 B.1.2.1 dX10_actHere_7 (by decide) ?_
  refine lv_bipush (v := 101) B.1.1 B.1.2.1 dX10_actHere_9 (by decide) ?_
  refine y_cl hf (fun q hq => y_runS B.1 B.2.2.2 hl hR hS cm_X10_118 ⟨rfl, rfl, Nat.le_of_ble_eq_true rfl, Nat.le_of_ble_eq_true rfl⟩ (c_X10_w5 hq) rfl rfl (Nat.le_of_ble_eq_true rfl) dX10_actHere_11 ⟨Nat.le_of_ble_eq_true rfl, Nat.le_of_ble_eq_true rfl⟩) hS (fun r2 S1 H locs hf hR hS => ?_)
  refine y_ci hf (fun q hq => x_runV (ci := 10) (C := RX10) B.1 B.2.2.2 hl hR hS cm_X10_150 ⟨rfl, rfl, Nat.le_of_ble_eq_true rfl, Nat.le_of_ble_eq_true rfl⟩ (by decide) rfl k_p0 (c_X10_isWord k_p0 hq) rfl rfl (Nat.le_of_ble_eq_true rfl) dX10_actHere_14 ⟨Nat.le_of_ble_eq_true rfl, Nat.le_of_ble_eq_true rfl⟩) hS (fun r4 S3 H locs hf hR hS => ?_)
  refine y_if_eq (tgt := 22) B hf dX10_actHere_17 (by decide) (fun hf => ?_) (fun hf => ?_)
  · refine lv_aload_n B.1.1 B.1.2.1 dX10_actHere_22 rfl (hl.at 0 rfl) ?_
    refine lv_bipush (v := 101) B.1.1 B.1.2.1 dX10_actHere_23 (by decide) ?_
    refine lv_bipush (v := 97) B.1.1 B.1.2.1 dX10_actHere_25 (by decide) ?_
    refine lv_bipush (v := 114) B.1.1 B.1.2.1 dX10_actHere_27 (by decide) ?_
    refine lv_bipush (v := 110) B.1.1 B.1.2.1 dX10_actHere_29 (by decide) ?_
    refine y_cl hf (fun q hq => y_runS B.1 B.2.2.2 hl hR hS cm_X10_114 ⟨rfl, rfl, Nat.le_of_ble_eq_true rfl, Nat.le_of_ble_eq_true rfl⟩ (c_X10_w4 hq) rfl rfl (Nat.le_of_ble_eq_true rfl) dX10_actHere_31 ⟨Nat.le_of_ble_eq_true rfl, Nat.le_of_ble_eq_true rfl⟩) hS (fun r6 S5 H locs hf hR hS => ?_)
    refine y_ci hf (fun q hq => x_runV (ci := 10) (C := RX10) B.1 B.2.2.2 hl hR hS cm_X10_150 ⟨rfl, rfl, Nat.le_of_ble_eq_true rfl, Nat.le_of_ble_eq_true rfl⟩ (by decide) rfl k_p0 (c_X10_isWord k_p0 hq) rfl rfl (Nat.le_of_ble_eq_true rfl) dX10_actHere_34 ⟨Nat.le_of_ble_eq_true rfl, Nat.le_of_ble_eq_true rfl⟩) hS (fun r8 S7 H locs hf hR hS => ?_)
    refine y_if_eq (tgt := 42) B hf dX10_actHere_37 (by decide) (fun hf => ?_) (fun hf => ?_)
    · refine lv_aload_n B.1.1 B.1.2.1 dX10_actHere_42 rfl (hl.at 0 rfl) ?_
      refine lv_bipush (v := 108) B.1.1 B.1.2.1 dX10_actHere_43 (by decide) ?_
      refine lv_bipush (v := 111) B.1.1 B.1.2.1 dX10_actHere_45 (by decide) ?_
      refine lv_bipush (v := 115) B.1.1 B.1.2.1 dX10_actHere_47 (by decide) ?_
      refine lv_bipush (v := 101) B.1.1 B.1.2.1 dX10_actHere_49 (by decide) ?_
      refine y_cl hf (fun q hq => y_runS B.1 B.2.2.2 hl hR hS cm_X10_114 ⟨rfl, rfl, Nat.le_of_ble_eq_true rfl, Nat.le_of_ble_eq_true rfl⟩ (c_X10_w4 hq) rfl rfl (Nat.le_of_ble_eq_true rfl) dX10_actHere_51 ⟨Nat.le_of_ble_eq_true rfl, Nat.le_of_ble_eq_true rfl⟩) hS (fun r10 S9 H locs hf hR hS => ?_)
      refine y_ci hf (fun q hq => x_runV (ci := 10) (C := RX10) B.1 B.2.2.2 hl hR hS cm_X10_150 ⟨rfl, rfl, Nat.le_of_ble_eq_true rfl, Nat.le_of_ble_eq_true rfl⟩ (by decide) rfl k_p0 (c_X10_isWord k_p0 hq) rfl rfl (Nat.le_of_ble_eq_true rfl) dX10_actHere_54 ⟨Nat.le_of_ble_eq_true rfl, Nat.le_of_ble_eq_true rfl⟩) hS (fun r12 S11 H locs hf hR hS => ?_)
      refine y_if_eq (tgt := 62) B hf dX10_actHere_57 (by decide) (fun hf => ?_) (fun hf => ?_)
      · refine lv_aload_n B.1.1 B.1.2.1 dX10_actHere_62 rfl (hl.at 0 rfl) ?_
        refine lv_bipush (v := 98) B.1.1 B.1.2.1 dX10_actHere_63 (by decide) ?_
        refine lv_bipush (v := 111) B.1.1 B.1.2.1 dX10_actHere_65 (by decide) ?_
        refine lv_bipush (v := 114) B.1.1 B.1.2.1 dX10_actHere_67 (by decide) ?_
        refine lv_bipush (v := 114) B.1.1 B.1.2.1 dX10_actHere_69 (by decide) ?_
        refine lv_bipush (v := 111) B.1.1 B.1.2.1 dX10_actHere_71 (by decide) ?_
        refine lv_bipush (v := 119) B.1.1 B.1.2.1 dX10_actHere_73 (by decide) ?_
        refine y_cl hf (fun q hq => y_runS B.1 B.2.2.2 hl hR hS cm_X10_310 ⟨rfl, rfl, Nat.le_of_ble_eq_true rfl, Nat.le_of_ble_eq_true rfl⟩ (c_X10_w6 hq) rfl rfl (Nat.le_of_ble_eq_true rfl) dX10_actHere_75 ⟨Nat.le_of_ble_eq_true rfl, Nat.le_of_ble_eq_true rfl⟩) hS (fun r14 S13 H locs hf hR hS => ?_)
        refine y_ci hf (fun q hq => x_runV (ci := 10) (C := RX10) B.1 B.2.2.2 hl hR hS cm_X10_150 ⟨rfl, rfl, Nat.le_of_ble_eq_true rfl, Nat.le_of_ble_eq_true rfl⟩ (by decide) rfl k_p0 (c_X10_isWord k_p0 hq) rfl rfl (Nat.le_of_ble_eq_true rfl) dX10_actHere_78 ⟨Nat.le_of_ble_eq_true rfl, Nat.le_of_ble_eq_true rfl⟩) hS (fun r16 S15 H locs hf hR hS => ?_)
        refine y_if_eq (tgt := 86) B hf dX10_actHere_81 (by decide) (fun hf => ?_) (fun hf => ?_)
        · refine lv_aload_n B.1.1 B.1.2.1 dX10_actHere_86 rfl (hl.at 0 rfl) ?_
          refine lv_bipush (v := 114) B.1.1 B.1.2.1 dX10_actHere_87 (by decide) ?_
          refine lv_bipush (v := 101) B.1.1 B.1.2.1 dX10_actHere_89 (by decide) ?_
          refine lv_bipush (v := 112) B.1.1 B.1.2.1 dX10_actHere_91 (by decide) ?_
          refine lv_bipush (v := 97) B.1.1 B.1.2.1 dX10_actHere_93 (by decide) ?_
          refine lv_bipush (v := 121) B.1.1 B.1.2.1 dX10_actHere_95 (by decide) ?_
          refine y_cl hf (fun q hq => y_runS B.1 B.2.2.2 hl hR hS cm_X10_118 ⟨rfl, rfl, Nat.le_of_ble_eq_true rfl, Nat.le_of_ble_eq_true rfl⟩ (c_X10_w5 hq) rfl rfl (Nat.le_of_ble_eq_true rfl) dX10_actHere_97 ⟨Nat.le_of_ble_eq_true rfl, Nat.le_of_ble_eq_true rfl⟩) hS (fun r18 S17 H locs hf hR hS => ?_)
          refine y_ci hf (fun q hq => x_runV (ci := 10) (C := RX10) B.1 B.2.2.2 hl hR hS cm_X10_150 ⟨rfl, rfl, Nat.le_of_ble_eq_true rfl, Nat.le_of_ble_eq_true rfl⟩ (by decide) rfl k_p0 (c_X10_isWord k_p0 hq) rfl rfl (Nat.le_of_ble_eq_true rfl) dX10_actHere_100 ⟨Nat.le_of_ble_eq_true rfl, Nat.le_of_ble_eq_true rfl⟩) hS (fun r20 S19 H locs hf hR hS => ?_)
          refine y_if_eq (tgt := 108) B hf dX10_actHere_103 (by decide) (fun hf => ?_) (fun hf => ?_)
          · refine lv_aload_n B.1.1 B.1.2.1 dX10_actHere_108 rfl (hl.at 0 rfl) ?_
            refine lv_bipush (v := 109) B.1.1 B.1.2.1 dX10_actHere_109 (by decide) ?_
            refine lv_bipush (v := 97) B.1.1 B.1.2.1 dX10_actHere_111 (by decide) ?_
            refine lv_bipush (v := 114) B.1.1 B.1.2.1 dX10_actHere_113 (by decide) ?_
            refine lv_bipush (v := 107) B.1.1 B.1.2.1 dX10_actHere_115 (by decide) ?_
            refine lv_bipush (v := 101) B.1.1 B.1.2.1 dX10_actHere_117 (by decide) ?_
            refine lv_bipush (v := 116) B.1.1 B.1.2.1 dX10_actHere_119 (by decide) ?_
            refine y_cl hf (fun q hq => y_runS B.1 B.2.2.2 hl hR hS cm_X10_310 ⟨rfl, rfl, Nat.le_of_ble_eq_true rfl, Nat.le_of_ble_eq_true rfl⟩ (c_X10_w6 hq) rfl rfl (Nat.le_of_ble_eq_true rfl) dX10_actHere_121 ⟨Nat.le_of_ble_eq_true rfl, Nat.le_of_ble_eq_true rfl⟩) hS (fun r22 S21 H locs hf hR hS => ?_)
            refine y_ci hf (fun q hq => x_runV (ci := 10) (C := RX10) B.1 B.2.2.2 hl hR hS cm_X10_150 ⟨rfl, rfl, Nat.le_of_ble_eq_true rfl, Nat.le_of_ble_eq_true rfl⟩ (by decide) rfl k_p0 (c_X10_isWord k_p0 hq) rfl rfl (Nat.le_of_ble_eq_true rfl) dX10_actHere_124 ⟨Nat.le_of_ble_eq_true rfl, Nat.le_of_ble_eq_true rfl⟩) hS (fun r24 S23 H locs hf hR hS => ?_)
            refine y_if_eq (tgt := 132) B hf dX10_actHere_127 (by decide) (fun hf => ?_) (fun hf => ?_)
            · refine lv_aload_n B.1.1 B.1.2.1 dX10_actHere_132 rfl (hl.at 0 rfl) ?_
              refine lv_bipush (v := 112) B.1.1 B.1.2.1 dX10_actHere_133 (by decide) ?_
              refine lv_bipush (v := 97) B.1.1 B.1.2.1 dX10_actHere_135 (by decide) ?_
              refine lv_bipush (v := 121) B.1.1 B.1.2.1 dX10_actHere_137 (by decide) ?_
              refine y_cl hf (fun q hq => y_runS B.1 B.2.2.2 hl hR hS cm_X10_110 ⟨rfl, rfl, Nat.le_of_ble_eq_true rfl, Nat.le_of_ble_eq_true rfl⟩ (c_X10_w3 hq) rfl rfl (Nat.le_of_ble_eq_true rfl) dX10_actHere_139 ⟨Nat.le_of_ble_eq_true rfl, Nat.le_of_ble_eq_true rfl⟩) hS (fun r26 S25 H locs hf hR hS => ?_)
              refine y_ci hf (fun q hq => x_runV (ci := 10) (C := RX10) B.1 B.2.2.2 hl hR hS cm_X10_150 ⟨rfl, rfl, Nat.le_of_ble_eq_true rfl, Nat.le_of_ble_eq_true rfl⟩ (by decide) rfl k_p0 (c_X10_isWord k_p0 hq) rfl rfl (Nat.le_of_ble_eq_true rfl) dX10_actHere_142 ⟨Nat.le_of_ble_eq_true rfl, Nat.le_of_ble_eq_true rfl⟩) hS (fun r28 S27 H locs hf hR hS => ?_)
              refine y_if_eq (tgt := 151) B hf dX10_actHere_145 (by decide) (fun hf => ?_) (fun hf => ?_)
              · refine lv_aload_n B.1.1 B.1.2.1 dX10_actHere_151 rfl (hl.at 0 rfl) ?_
                refine lv_bipush (v := 100) B.1.1 B.1.2.1 dX10_actHere_152 (by decide) ?_
                refine lv_bipush (v := 114) B.1.1 B.1.2.1 dX10_actHere_154 (by decide) ?_
                refine lv_bipush (v := 97) B.1.1 B.1.2.1 dX10_actHere_156 (by decide) ?_
                refine lv_bipush (v := 119) B.1.1 B.1.2.1 dX10_actHere_158 (by decide) ?_
                refine y_cl hf (fun q hq => y_runS B.1 B.2.2.2 hl hR hS cm_X10_114 ⟨rfl, rfl, Nat.le_of_ble_eq_true rfl, Nat.le_of_ble_eq_true rfl⟩ (c_X10_w4 hq) rfl rfl (Nat.le_of_ble_eq_true rfl) dX10_actHere_160 ⟨Nat.le_of_ble_eq_true rfl, Nat.le_of_ble_eq_true rfl⟩) hS (fun r30 S29 H locs hf hR hS => ?_)
                refine y_ci hf (fun q hq => x_runV (ci := 10) (C := RX10) B.1 B.2.2.2 hl hR hS cm_X10_150 ⟨rfl, rfl, Nat.le_of_ble_eq_true rfl, Nat.le_of_ble_eq_true rfl⟩ (by decide) rfl k_p0 (c_X10_isWord k_p0 hq) rfl rfl (Nat.le_of_ble_eq_true rfl) dX10_actHere_163 ⟨Nat.le_of_ble_eq_true rfl, Nat.le_of_ble_eq_true rfl⟩) hS (fun r32 S31 H locs hf hR hS => ?_)
                refine y_if_eq (tgt := 172) B hf dX10_actHere_166 (by decide) (fun hf => ?_) (fun hf => ?_)
                · refine lv_aload_n B.1.1 B.1.2.1 dX10_actHere_172 rfl (hl.at 0 rfl) ?_
                  refine lv_bipush (v := 99) B.1.1 B.1.2.1 dX10_actHere_173 (by decide) ?_
                  refine lv_bipush (v := 111) B.1.1 B.1.2.1 dX10_actHere_175 (by decide) ?_
                  refine lv_bipush (v := 109) B.1.1 B.1.2.1 dX10_actHere_177 (by decide) ?_
                  refine lv_bipush (v := 101) B.1.1 B.1.2.1 dX10_actHere_179 (by decide) ?_
                  refine y_cl hf (fun q hq => y_runS B.1 B.2.2.2 hl hR hS cm_X10_114 ⟨rfl, rfl, Nat.le_of_ble_eq_true rfl, Nat.le_of_ble_eq_true rfl⟩ (c_X10_w4 hq) rfl rfl (Nat.le_of_ble_eq_true rfl) dX10_actHere_181 ⟨Nat.le_of_ble_eq_true rfl, Nat.le_of_ble_eq_true rfl⟩) hS (fun r34 S33 H locs hf hR hS => ?_)
                  refine y_ci hf (fun q hq => x_runV (ci := 10) (C := RX10) B.1 B.2.2.2 hl hR hS cm_X10_150 ⟨rfl, rfl, Nat.le_of_ble_eq_true rfl, Nat.le_of_ble_eq_true rfl⟩ (by decide) rfl k_p0 (c_X10_isWord k_p0 hq) rfl rfl (Nat.le_of_ble_eq_true rfl) dX10_actHere_184 ⟨Nat.le_of_ble_eq_true rfl, Nat.le_of_ble_eq_true rfl⟩) hS (fun r36 S35 H locs hf hR hS => ?_)
                  refine y_if_eq (tgt := 193) B hf dX10_actHere_187 (by decide) (fun hf => ?_) (fun hf => ?_)
                  · refine lv_aload_n B.1.1 B.1.2.1 dX10_actHere_193 rfl (hl.at 0 rfl) ?_
                    refine lv_lconst (v := 0) B.1.1 B.1.2.1 dX10_actHere_194 (by decide) ?_
                    refine lv_bipush (v := 103) B.1.1 B.1.2.1 dX10_actHere_195 (by decide) ?_
                    refine y_cl hf (fun q hq => y_runS B.1 B.2.2.2 hl hR hS cm_X10_106 ⟨rfl, rfl, Nat.le_of_ble_eq_true rfl, Nat.le_of_ble_eq_true rfl⟩ (c_X10_letter hq) rfl rfl (Nat.le_of_ble_eq_true rfl) dX10_actHere_197 ⟨Nat.le_of_ble_eq_true rfl, Nat.le_of_ble_eq_true rfl⟩) hS (fun r38 S37 H locs hf hR hS => ?_)
                    refine lv_bipush (v := 111) B.1.1 B.1.2.1 dX10_actHere_200 (by decide) ?_
                    refine y_cl hf (fun q hq => y_runS B.1 B.2.2.2 hl hR hS cm_X10_106 ⟨rfl, rfl, Nat.le_of_ble_eq_true rfl, Nat.le_of_ble_eq_true rfl⟩ (c_X10_letter hq) rfl rfl (Nat.le_of_ble_eq_true rfl) dX10_actHere_202 ⟨Nat.le_of_ble_eq_true rfl, Nat.le_of_ble_eq_true rfl⟩) hS (fun r40 S39 H locs hf hR hS => ?_)
                    refine y_ci hf (fun q hq => x_runV (ci := 10) (C := RX10) B.1 B.2.2.2 hl hR hS cm_X10_150 ⟨rfl, rfl, Nat.le_of_ble_eq_true rfl, Nat.le_of_ble_eq_true rfl⟩ (by decide) rfl k_p0 (c_X10_isWord k_p0 hq) rfl rfl (Nat.le_of_ble_eq_true rfl) dX10_actHere_205 ⟨Nat.le_of_ble_eq_true rfl, Nat.le_of_ble_eq_true rfl⟩) hS (fun r42 S41 H locs hf hR hS => ?_)
                    refine y_if_eq (tgt := 216) B hf dX10_actHere_208 (by decide) (fun hf => ?_) (fun hf => ?_)
                    · refine lv_iconst (v := -1) B.1.1 B.1.2.1 dX10_actHere_216 (by decide) ?_
                      exact y_iret B hR hS hf dX10_actHere_217
                    · refine lv_bipush (v := 9) B.1.1 B.1.2.1 dX10_actHere_211 (by decide) ?_
                      refine lv_goto (tgt := 217) B.1.1 B.1.2.1 dX10_actHere_213 (by decide) ?_
                      exact y_iret B hR hS hf dX10_actHere_217
                  · refine lv_bipush (v := 8) B.1.1 B.1.2.1 dX10_actHere_190 (by decide) ?_
                    exact y_iret B hR hS hf dX10_actHere_192
                · refine lv_bipush (v := 7) B.1.1 B.1.2.1 dX10_actHere_169 (by decide) ?_
                  exact y_iret B hR hS hf dX10_actHere_171
              · refine lv_bipush (v := 6) B.1.1 B.1.2.1 dX10_actHere_148 (by decide) ?_
                exact y_iret B hR hS hf dX10_actHere_150
            · refine lv_iconst (v := 5) B.1.1 B.1.2.1 dX10_actHere_130 (by decide) ?_
              exact y_iret B hR hS hf dX10_actHere_131
          · refine lv_iconst (v := 4) B.1.1 B.1.2.1 dX10_actHere_106 (by decide) ?_
            exact y_iret B hR hS hf dX10_actHere_107
        · refine lv_iconst (v := 3) B.1.1 B.1.2.1 dX10_actHere_84 (by decide) ?_
          exact y_iret B hR hS hf dX10_actHere_85
      · refine lv_iconst (v := 2) B.1.1 B.1.2.1 dX10_actHere_60 (by decide) ?_
        exact y_iret B hR hS hf dX10_actHere_61
    · refine lv_iconst (v := 1) B.1.1 B.1.2.1 dX10_actHere_40 (by decide) ?_
      exact y_iret B hR hS hf dX10_actHere_41
  · refine lv_iconst (v := 0) B.1.1 B.1.2.1 dX10_actHere_20 (by decide) ?_
    exact y_iret B hR hS hf dX10_actHere_21
abbrev xr_X10_readWho : Room := { frames := 4, cells := 0, slots := 0, locals := 77 }
def f_X10_readWho (T : xT) (S : xS) (p0 : Nat) (p1 : Int32) (p2 : Int32) : Option (Int32 × xS) := if (6 : Int32) ≤ p2 then xc (f_X10_takesPartner T S p0) (fun r2 S1 => xl r2 (fun v3 => xgr T S1 p0 27 20 (fun a4 => xst T S1 a4 ((p1 + (1 : Int32))) ((S1.1 p0 12)) (fun S5 => xgd (xnz v3) (some (v3, S5)))))) else xc (f_X10_takesNumber T S p0 ((0 : Int32)) ((7 : Int32))) (fun r7 S6 => xl r7 (fun v8 => xgr T S6 p0 27 20 (fun a9 => xst T S6 a9 ((p1 + (1 : Int32))) ((S6.1 p0 12)) (fun S10 => xgd (xnz v8) (some (v8, S10))))))
set_option maxRecDepth 100000 in
set_option maxHeartbeats 4000000 in
theorem c_X10_readWho {l : Launch} {z : Nat} {D : va_G} {dA : Nat → ClassId} {T : xT} {S : xS} {p0 : Nat} {p1 : Int32} {p2 : Int32} (k_p0 : xlk T p0 10 = true) {q : Int32 × xS} (hf : f_X10_readWho T S p0 p1 p2 = some q) : Met l yX10_readWho (xws yX10_readWho cX10_readWho 4 (some .boolean)) xr_X10_readWho (xPc z D dA T S [.ref (z + p0), .int p1, .int p2]) (xQi z D dA T q) 0 0 (xA z) := by
  refine x_met RX10 (by decide) rfl (Nat.le_of_ble_eq_true rfl) ?_
  intro p e s m below meth c ls _ X hr hlk hml _ hR hS hl
  have B : xB p s m _ meth c cX10_readWho RX10 4 (some .boolean) D dA := ⟨X, hr, hlk, hml⟩
  have hl : xL ls 4 [_, _, _, _] := hl
  unfold f_X10_readWho at hf
  refine lv_iload_n B.1.1 B.1.2.1 dX10_readWho_0 rfl (hl.at 2 rfl) ?_
  refine lv_bipush (v := 6) B.1.1 B.1.2.1 dX10_readWho_1 (by decide) ?_
  refine y_icmp_ge (tgt := 16) B hf dX10_readWho_3 (by decide) (fun hf => ?_) (fun hf => ?_)
  · refine lv_aload_n B.1.1 B.1.2.1 dX10_readWho_16 rfl (hl.at 0 rfl) ?_
    refine y_ci hf (fun q hq => x_runV (ci := 10) (C := RX10) B.1 B.2.2.2 hl hR hS cm_X10_324 ⟨rfl, rfl, Nat.le_of_ble_eq_true rfl, Nat.le_of_ble_eq_true rfl⟩ (by decide) rfl k_p0 (c_X10_takesPartner k_p0 hq) rfl rfl (Nat.le_of_ble_eq_true rfl) dX10_readWho_17 ⟨Nat.le_of_ble_eq_true rfl, Nat.le_of_ble_eq_true rfl⟩) hS (fun r2 S1 H locs hf hR hS => ?_)
    refine y_istore_n B hl hf dX10_readWho_20 rfl (by decide) rfl (fun v3 ls hf hl => ?_)
    have hl : xL ls 4 [_, _, _, _] := hl
    refine lv_aload_n B.1.1 B.1.2.1 dX10_readWho_21 rfl (hl.at 0 rfl) ?_
    refine y_getR B hR hf k_p0 fl_X10_56 dX10_readWho_22 (fun a4 k_a4 hf => ?_)
    refine lv_iload_n B.1.1 B.1.2.1 dX10_readWho_25 rfl (hl.at 1 rfl) ?_
    refine lv_iconst (v := 1) B.1.1 B.1.2.1 dX10_readWho_26 (by decide) ?_
    refine lv_iadd B.1.1 B.1.2.1 dX10_readWho_27 ?_
    refine lv_aload_n B.1.1 B.1.2.1 dX10_readWho_28 rfl (hl.at 0 rfl) ?_
    refine y_getI B hR k_p0 fl_X10_158 dX10_readWho_29 ?_
    refine y_iast B hR hS hf k_a4 dX10_readWho_32 (fun S5 H locs hf hR hS => ?_)
    refine lv_iload_n B.1.1 B.1.2.1 dX10_readWho_33 rfl (hl.at 3 rfl) ?_
    exact y_zret B hR hS hf dX10_readWho_34
  · refine lv_aload_n B.1.1 B.1.2.1 dX10_readWho_6 rfl (hl.at 0 rfl) ?_
    refine lv_iconst (v := 0) B.1.1 B.1.2.1 dX10_readWho_7 (by decide) ?_
    refine lv_bipush (v := 7) B.1.1 B.1.2.1 dX10_readWho_8 (by decide) ?_
    refine y_ci hf (fun q hq => x_runV (ci := 10) (C := RX10) B.1 B.2.2.2 hl hR hS cm_X10_166 ⟨rfl, rfl, Nat.le_of_ble_eq_true rfl, Nat.le_of_ble_eq_true rfl⟩ (by decide) rfl k_p0 (c_X10_takesNumber k_p0 hq) rfl rfl (Nat.le_of_ble_eq_true rfl) dX10_readWho_10 ⟨Nat.le_of_ble_eq_true rfl, Nat.le_of_ble_eq_true rfl⟩) hS (fun r7 S6 H locs hf hR hS => ?_)
    refine lv_goto (tgt := 20) B.1.1 B.1.2.1 dX10_readWho_13 (by decide) ?_
    refine y_istore_n B hl hf dX10_readWho_20 rfl (by decide) rfl (fun v8 ls hf hl => ?_)
    have hl : xL ls 4 [_, _, _, _] := hl
    refine lv_aload_n B.1.1 B.1.2.1 dX10_readWho_21 rfl (hl.at 0 rfl) ?_
    refine y_getR B hR hf k_p0 fl_X10_56 dX10_readWho_22 (fun a9 k_a9 hf => ?_)
    refine lv_iload_n B.1.1 B.1.2.1 dX10_readWho_25 rfl (hl.at 1 rfl) ?_
    refine lv_iconst (v := 1) B.1.1 B.1.2.1 dX10_readWho_26 (by decide) ?_
    refine lv_iadd B.1.1 B.1.2.1 dX10_readWho_27 ?_
    refine lv_aload_n B.1.1 B.1.2.1 dX10_readWho_28 rfl (hl.at 0 rfl) ?_
    refine y_getI B hR k_p0 fl_X10_158 dX10_readWho_29 ?_
    refine y_iast B hR hS hf k_a9 dX10_readWho_32 (fun S10 H locs hf hR hS => ?_)
    refine lv_iload_n B.1.1 B.1.2.1 dX10_readWho_33 rfl (hl.at 3 rfl) ?_
    exact y_zret B hR hS hf dX10_readWho_34
abbrev xr_X10_readMuch : Room := { frames := 4, cells := 0, slots := 0, locals := 77 }
def f_X10_readMuch (T : xT) (S : xS) (p0 : Nat) (p1 : Int32) : Option (Int32 × xS) := xc (f_X10_takesNumber T S p0 ((0 : Int32)) ((1000000 : Int32))) (fun r2 S1 => xl r2 (fun v3 => xgr T S1 p0 27 20 (fun a4 => xst T S1 a4 ((p1 + (2 : Int32))) ((S1.1 p0 12)) (fun S5 => xgd (xnz v3) (some (v3, S5))))))
set_option maxRecDepth 100000 in
set_option maxHeartbeats 4000000 in
theorem c_X10_readMuch {l : Launch} {z : Nat} {D : va_G} {dA : Nat → ClassId} {T : xT} {S : xS} {p0 : Nat} {p1 : Int32} (k_p0 : xlk T p0 10 = true) {q : Int32 × xS} (hf : f_X10_readMuch T S p0 p1 = some q) : Met l yX10_readMuch (xws yX10_readMuch cX10_readMuch 3 (some .boolean)) xr_X10_readMuch (xPc z D dA T S [.ref (z + p0), .int p1]) (xQi z D dA T q) 0 0 (xA z) := by
  refine x_met RX10 (by decide) rfl (Nat.le_of_ble_eq_true rfl) ?_
  intro p e s m below meth c ls _ X hr hlk hml _ hR hS hl
  have B : xB p s m _ meth c cX10_readMuch RX10 3 (some .boolean) D dA := ⟨X, hr, hlk, hml⟩
  have hl : xL ls 3 [_, _, _] := hl
  unfold f_X10_readMuch at hf
  refine lv_aload_n B.1.1 B.1.2.1 dX10_readMuch_0 rfl (hl.at 0 rfl) ?_
  refine lv_iconst (v := 0) B.1.1 B.1.2.1 dX10_readMuch_1 (by decide) ?_
  refine lv_ldc (v := 1000000) B.1.1 B.1.2.1 B.1.2.2.1 (B.1.2.2.2.1 _ tw_1240) dX10_readMuch_2 ?_
  refine y_ci hf (fun q hq => x_runV (ci := 10) (C := RX10) B.1 B.2.2.2 hl hR hS cm_X10_166 ⟨rfl, rfl, Nat.le_of_ble_eq_true rfl, Nat.le_of_ble_eq_true rfl⟩ (by decide) rfl k_p0 (c_X10_takesNumber k_p0 hq) rfl rfl (Nat.le_of_ble_eq_true rfl) dX10_readMuch_4 ⟨Nat.le_of_ble_eq_true rfl, Nat.le_of_ble_eq_true rfl⟩) hS (fun r2 S1 H locs hf hR hS => ?_)
  refine y_istore_n B hl hf dX10_readMuch_7 rfl (by decide) rfl (fun v3 ls hf hl => ?_)
  have hl : xL ls 3 [_, _, _] := hl
  refine lv_aload_n B.1.1 B.1.2.1 dX10_readMuch_8 rfl (hl.at 0 rfl) ?_
  refine y_getR B hR hf k_p0 fl_X10_56 dX10_readMuch_9 (fun a4 k_a4 hf => ?_)
  refine lv_iload_n B.1.1 B.1.2.1 dX10_readMuch_12 rfl (hl.at 1 rfl) ?_
  refine lv_iconst (v := 2) B.1.1 B.1.2.1 dX10_readMuch_13 (by decide) ?_
  refine lv_iadd B.1.1 B.1.2.1 dX10_readMuch_14 ?_
  refine lv_aload_n B.1.1 B.1.2.1 dX10_readMuch_15 rfl (hl.at 0 rfl) ?_
  refine y_getI B hR k_p0 fl_X10_158 dX10_readMuch_16 ?_
  refine y_iast B hR hS hf k_a4 dX10_readMuch_19 (fun S5 H locs hf hR hS => ?_)
  refine lv_iload_n B.1.1 B.1.2.1 dX10_readMuch_20 rfl (hl.at 2 rfl) ?_
  exact y_zret B hR hS hf dX10_readMuch_21
