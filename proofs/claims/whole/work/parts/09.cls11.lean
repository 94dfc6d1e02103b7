abbrev xr_X9_earn : Room := { frames := 8, cells := 0, slots := 0, locals := 188 }
def f_X9_earn (T : xT) (S : xS) (p0 : Nat) (p1 : Int32) : Option (Int32 × xS) := xc (f_X9_begins T S p0 ((1 : Int32)) ((0 : Int32)) p1) (fun r2 S1 => if r2 = (0 : Int32) then some ((-1000000000 : Int32), S1) else xc (f_X9_perform T S1 p0 ((1 : Int32)) ((0 : Int32)) p1) (fun r4 S3 => some (r4, S3)))
set_option maxRecDepth 100000 in
set_option maxHeartbeats 4000000 in
theorem c_X9_earn {l : Launch} {z : Nat} {D : va_G} {dA : Nat → ClassId} {T : xT} {S : xS} {p0 : Nat} {p1 : Int32} (k_p0 : xlk T p0 9 = true) {q : Int32 × xS} (hf : f_X9_earn T S p0 p1 = some q) : Met l yX9_earn (xws yX9_earn cX9_earn 2 (some .int)) xr_X9_earn (xPc z D dA T S [.ref (z + p0), .int p1]) (xQi z D dA T q) 0 0 (xA z) := by
  refine x_met RX9 (by decide) rfl (Nat.le_of_ble_eq_true rfl) ?_
  intro p e s m below meth c ls _ X hr hlk hml _ hR hS hl
  have B : xB p s m _ meth c cX9_earn RX9 2 (some .int) D dA := ⟨X, hr, hlk, hml⟩
  have hl : xL ls 2 [_, _] := hl
  unfold f_X9_earn at hf
  refine lv_aload_n B.1.1 B.1.2.1 dX9_earn_0 rfl (hl.at 0 rfl) ?_
  refine lv_iconst (v := 1) B.1.1 B.1.2.1 dX9_earn_1 (by decide) ?_
  refine lv_iconst (v := 0) B.1.1 B.1.2.1 dX9_earn_2 (by decide) ?_
  refine lv_iload_n B.1.1 B.1.2.1 dX9_earn_3 rfl (hl.at 1 rfl) ?_
  refine y_ci hf (fun q hq => x_runV (ci := 9) (C := RX9) B.1 B.2.2.2 hl hR hS cm_X9_199 ⟨rfl, rfl, Nat.le_of_ble_eq_true rfl, Nat.le_of_ble_eq_true rfl⟩ (by decide) rfl k_p0 (c_X9_begins k_p0 hq) rfl rfl (Nat.le_of_ble_eq_true rfl) dX9_earn_4 ⟨Nat.le_of_ble_eq_true rfl, Nat.le_of_ble_eq_true rfl⟩) hS (fun r2 S1 H locs hf hR hS => ?_)
  refine y_if_eq (tgt := 20) B hf dX9_earn_7 (by decide) (fun hf => ?_) (fun hf => ?_)
  · refine lv_ldc (v := -1000000000) B.1.1 B.1.2.1 B.1.2.2.1 (B.1.2.2.2.1 _ tw_555) dX9_earn_20 ?_
    exact y_iret B hR hS hf dX9_earn_22
  · refine lv_aload_n B.1.1 B.1.2.1 dX9_earn_10 rfl (hl.at 0 rfl) ?_
    refine lv_iconst (v := 1) B.1.1 B.1.2.1 dX9_earn_11 (by decide) ?_
    refine lv_iconst (v := 0) B.1.1 B.1.2.1 dX9_earn_12 (by decide) ?_
    refine lv_iload_n B.1.1 B.1.2.1 dX9_earn_13 rfl (hl.at 1 rfl) ?_
    refine y_ci hf (fun q hq => x_runV (ci := 9) (C := RX9) B.1 B.2.2.2 hl hR hS cm_X9_203 ⟨rfl, rfl, Nat.le_of_ble_eq_true rfl, Nat.le_of_ble_eq_true rfl⟩ (by decide) rfl k_p0 (c_X9_perform k_p0 hq) rfl rfl (Nat.le_of_ble_eq_true rfl) dX9_earn_14 ⟨Nat.le_of_ble_eq_true rfl, Nat.le_of_ble_eq_true rfl⟩) hS (fun r4 S3 H locs hf hR hS => ?_)
    refine lv_goto (tgt := 22) B.1.1 B.1.2.1 dX9_earn_17 (by decide) ?_
    exact y_iret B hR hS hf dX9_earn_22
abbrev xr_X9_close : Room := { frames := 8, cells := 0, slots := 0, locals := 188 }
def f_X9_close (T : xT) (S : xS) (p0 : Nat) : Option (Int32 × xS) := xc (f_X9_begins T S p0 ((0 : Int32)) ((0 : Int32)) ((0 : Int32))) (fun r2 S1 => if r2 = (0 : Int32) then some ((-1 : Int32), S1) else xc (f_X9_perform T S1 p0 ((0 : Int32)) ((0 : Int32)) ((0 : Int32))) (fun r4 S3 => some (r4, S3)))
set_option maxRecDepth 100000 in
set_option maxHeartbeats 4000000 in
theorem c_X9_close {l : Launch} {z : Nat} {D : va_G} {dA : Nat → ClassId} {T : xT} {S : xS} {p0 : Nat} (k_p0 : xlk T p0 9 = true) {q : Int32 × xS} (hf : f_X9_close T S p0 = some q) : Met l yX9_close (xws yX9_close cX9_close 1 (some .int)) xr_X9_close (xPc z D dA T S [.ref (z + p0)]) (xQi z D dA T q) 0 0 (xA z) := by
  refine x_met RX9 (by decide) rfl (Nat.le_of_ble_eq_true rfl) ?_
  intro p e s m below meth c ls _ X hr hlk hml _ hR hS hl
  have B : xB p s m _ meth c cX9_close RX9 1 (some .int) D dA := ⟨X, hr, hlk, hml⟩
  have hl : xL ls 1 [_] := hl
  unfold f_X9_close at hf
  refine lv_aload_n B.1.1 B.1.2.1 dX9_close_0 rfl (hl.at 0 rfl) ?_
  refine lv_iconst (v := 0) B.1.1 B.1.2.1 dX9_close_1 (by decide) ?_
  refine lv_iconst (v := 0) B.1.1 B.1.2.1 dX9_close_2 (by decide) ?_
  refine lv_iconst (v := 0) B.1.1 B.1.2.1 dX9_close_3 (by decide) ?_
  refine y_ci hf (fun q hq => x_runV (ci := 9) (C := RX9) B.1 B.2.2.2 hl hR hS cm_X9_199 ⟨rfl, rfl, Nat.le_of_ble_eq_true rfl, Nat.le_of_ble_eq_true rfl⟩ (by decide) rfl k_p0 (c_X9_begins k_p0 hq) rfl rfl (Nat.le_of_ble_eq_true rfl) dX9_close_4 ⟨Nat.le_of_ble_eq_true rfl, Nat.le_of_ble_eq_true rfl⟩) hS (fun r2 S1 H locs hf hR hS => ?_)
  refine y_if_eq (tgt := 20) B hf dX9_close_7 (by decide) (fun hf => ?_) (fun hf => ?_)
  · refine lv_iconst (v := -1) B.1.1 B.1.2.1 dX9_close_20 (by decide) ?_
    exact y_iret B hR hS hf dX9_close_21
  · refine lv_aload_n B.1.1 B.1.2.1 dX9_close_10 rfl (hl.at 0 rfl) ?_
    refine lv_iconst (v := 0) B.1.1 B.1.2.1 dX9_close_11 (by decide) ?_
    refine lv_iconst (v := 0) B.1.1 B.1.2.1 dX9_close_12 (by decide) ?_
    refine lv_iconst (v := 0) B.1.1 B.1.2.1 dX9_close_13 (by decide) ?_
    refine y_ci hf (fun q hq => x_runV (ci := 9) (C := RX9) B.1 B.2.2.2 hl hR hS cm_X9_203 ⟨rfl, rfl, Nat.le_of_ble_eq_true rfl, Nat.le_of_ble_eq_true rfl⟩ (by decide) rfl k_p0 (c_X9_perform k_p0 hq) rfl rfl (Nat.le_of_ble_eq_true rfl) dX9_close_14 ⟨Nat.le_of_ble_eq_true rfl, Nat.le_of_ble_eq_true rfl⟩) hS (fun r4 S3 H locs hf hR hS => ?_)
    refine lv_goto (tgt := 21) B.1.1 B.1.2.1 dX9_close_17 (by decide) ?_
    exact y_iret B hR hS hf dX9_close_21
abbrev xr_X9_step : Room := { frames := 2, cells := 0, slots := 0, locals := 35 }
def f_X9_step_45 (T : xT) (S : xS) (p1 : Int32) (p2 : Int32) (p3 : Nat) : Option (Int32 × xS) := if p2 < (0 : Int32) then some ((-1000000000 : Int32), S) else if p2 ≤ (6 : Int32) then if p1 = (-1 : Int32) then xc (f_X7_totalOf T S p3 p2) (fun r4 S3 => some (r4, S3)) else xgr T S p3 2 20 (fun a1 => xai T S a1 (((p2 * (8 : Int32)) + p1)) (fun v2 => some (v2, S))) else some ((-1000000000 : Int32), S)
set_option maxRecDepth 100000 in
set_option maxHeartbeats 4000000 in
theorem w_X9_step_45 {p : Program} {l : Launch} {e : Env} {s : State} {m : MethodId} {args : Array Value} {below : List Frame} {meth : Method} {c : Code} {z : Nat} {D : va_G} {dA : Nat → ClassId} {T : xT} (B : xB p s m args meth c cX9_step RX9 4 (some .int) D dA) {q : Int32 × xS} : ∀ (S : xS) (H : Heap) (locs : List Loc) (ls : Array Slot) (p1 : Int32) (p2 : Int32) (p3 : Nat), xlk T p3 7 = true → f_X9_step_45 T S p1 p2 p3 = some q → xRel z D dA T S H → va_S (xA z) s.heap H locs → xL ls 4 [none, some (.int p1), some (.int p2), some (.ref (z + p3))] → xGi p l e xr_X9_step s m args below meth c z D dA T q H locs 45 ls [] := by
  intro S H locs ls p1 p2 p3 k_p3 hf hR hS hl
  unfold f_X9_step_45 at hf
  refine lv_iload_n B.1.1 B.1.2.1 dX9_step_45 rfl (hl.at 2 rfl) ?_
  refine y_if_lt (tgt := 55) B hf dX9_step_46 (by decide) (fun hf => ?_) (fun hf => ?_)
  · refine lv_ldc (v := -1000000000) B.1.1 B.1.2.1 B.1.2.2.1 (B.1.2.2.2.1 _ tw_555) dX9_step_55 ?_
    exact y_iret B hR hS hf dX9_step_57
  · refine lv_iload_n B.1.1 B.1.2.1 dX9_step_49 rfl (hl.at 2 rfl) ?_
    refine lv_bipush (v := 6) B.1.1 B.1.2.1 dX9_step_50 (by decide) ?_
    refine y_icmp_le (tgt := 58) B hf dX9_step_52 (by decide) (fun hf => ?_) (fun hf => ?_)
    · refine lv_iload_n B.1.1 B.1.2.1 dX9_step_58 rfl (hl.at 1 rfl) ?_
      refine lv_iconst (v := -1) B.1.1 B.1.2.1 dX9_step_59 (by decide) ?_
      refine y_icmp_ne (tgt := 71) B hf dX9_step_60 (by decide) (fun hf => ?_) (fun hf => ?_)
      · refine lv_aload_n B.1.1 B.1.2.1 dX9_step_71 rfl (hl.at 3 rfl) ?_
        refine y_getR B hR hf k_p3 fl_X9_230 dX9_step_72 (fun a1 k_a1 hf => ?_)
        refine lv_iload_n B.1.1 B.1.2.1 dX9_step_75 rfl (hl.at 2 rfl) ?_
        refine lv_bipush (v := 8) B.1.1 B.1.2.1 dX9_step_76 (by decide) ?_
        refine lv_imul B.1.1 B.1.2.1 dX9_step_78 ?_
        refine lv_iload_n B.1.1 B.1.2.1 dX9_step_79 rfl (hl.at 1 rfl) ?_
        refine lv_iadd B.1.1 B.1.2.1 dX9_step_80 ?_
        refine y_iald B hR hf k_a1 dX9_step_81 (fun v2 hf => ?_)
        exact y_iret B hR hS hf dX9_step_82
      · refine lv_aload_n B.1.1 B.1.2.1 dX9_step_63 rfl (hl.at 3 rfl) ?_
        refine lv_iload_n B.1.1 B.1.2.1 dX9_step_64 rfl (hl.at 2 rfl) ?_
        refine y_ci hf (fun q hq => x_runV (ci := 7) (C := RX7) B.1 B.2.2.2 hl hR hS cm_X9_227 ⟨rfl, rfl, Nat.le_of_ble_eq_true rfl, Nat.le_of_ble_eq_true rfl⟩ (by decide) rfl k_p3 (c_X7_totalOf k_p3 hq) rfl rfl (Nat.le_of_ble_eq_true rfl) dX9_step_65 ⟨Nat.le_of_ble_eq_true rfl, Nat.le_of_ble_eq_true rfl⟩) hS (fun r4 S3 H locs hf hR hS => ?_)
        refine lv_goto (tgt := 82) B.1.1 B.1.2.1 dX9_step_68 (by decide) ?_
        exact y_iret B hR hS hf dX9_step_82
    · refine lv_ldc (v := -1000000000) B.1.1 B.1.2.1 B.1.2.2.1 (B.1.2.2.2.1 _ tw_555) dX9_step_55 ?_
      exact y_iret B hR hS hf dX9_step_57
def f_X9_step (T : xT) (S : xS) (p0 : Nat) (p1 : Int32) (p2 : Int32) : Option (Int32 × xS) := xgr T S p0 4 5 (fun a1 => xgr T S a1 1 7 (fun a2 => if (S.1 a2 0) = (0 : Int32) then some ((-1000000000 : Int32), S) else if p1 < (-1 : Int32) then some ((-1000000000 : Int32), S) else if p1 < (8 : Int32) then if p2 = (7 : Int32) then if p1 = (-1 : Int32) then some ((S.1 a2 1), S) else f_X9_step_45 T S p1 p2 a2 else f_X9_step_45 T S p1 p2 a2 else some ((-1000000000 : Int32), S)))
set_option maxRecDepth 100000 in
set_option maxHeartbeats 4000000 in
theorem c_X9_step {l : Launch} {z : Nat} {D : va_G} {dA : Nat → ClassId} {T : xT} {S : xS} {p0 : Nat} {p1 : Int32} {p2 : Int32} (k_p0 : xlk T p0 9 = true) {q : Int32 × xS} (hf : f_X9_step T S p0 p1 p2 = some q) : Met l yX9_step (xws yX9_step cX9_step 4 (some .int)) xr_X9_step (xPc z D dA T S [.ref (z + p0), .int p1, .int p2]) (xQi z D dA T q) 0 0 (xA z) := by
  refine x_met RX9 (by decide) rfl (Nat.le_of_ble_eq_true rfl) ?_
  intro p e s m below meth c ls _ X hr hlk hml _ hR hS hl
  have B : xB p s m _ meth c cX9_step RX9 4 (some .int) D dA := ⟨X, hr, hlk, hml⟩
  have hl : xL ls 4 [_, _, _, _] := hl
  unfold f_X9_step at hf
  refine lv_aload_n B.1.1 B.1.2.1 dX9_step_0 rfl (hl.at 0 rfl) ?_
  refine y_getR B hR hf k_p0 fl_X9_48 dX9_step_1 (fun a1 k_a1 hf => ?_)
  refine y_getR B hR hf k_a1 fl_X9_217 dX9_step_4 (fun a2 k_a2 hf => ?_)
  refine y_astore_n B hl dX9_step_7 rfl (by decide) rfl (fun ls hl => ?_)
  have hl : xL ls 4 [_, _, _, _] := hl
  refine lv_aload_n B.1.1 B.1.2.1 dX9_step_8 rfl (hl.at 3 rfl) ?_
  refine y_getI B hR k_a2 fl_X9_220 dX9_step_9 ?_
  refine y_if_eq (tgt := 26) B hf dX9_step_12 (by decide) (fun hf => ?_) (fun hf => ?_)
  · refine lv_ldc (v := -1000000000) B.1.1 B.1.2.1 B.1.2.2.1 (B.1.2.2.2.1 _ tw_555) dX9_step_26 ?_
    exact y_iret B hR hS hf dX9_step_28
  · refine lv_iload_n B.1.1 B.1.2.1 dX9_step_15 rfl (hl.at 1 rfl) ?_
    refine lv_iconst (v := -1) B.1.1 B.1.2.1 dX9_step_16 (by decide) ?_
    refine y_icmp_lt (tgt := 26) B hf dX9_step_17 (by decide) (fun hf => ?_) (fun hf => ?_)
    · refine lv_ldc (v := -1000000000) B.1.1 B.1.2.1 B.1.2.2.1 (B.1.2.2.2.1 _ tw_555) dX9_step_26 ?_
      exact y_iret B hR hS hf dX9_step_28
    · refine lv_iload_n B.1.1 B.1.2.1 dX9_step_20 rfl (hl.at 1 rfl) ?_
      refine lv_bipush (v := 8) B.1.1 B.1.2.1 dX9_step_21 (by decide) ?_
      refine y_icmp_lt (tgt := 29) B hf dX9_step_23 (by decide) (fun hf => ?_) (fun hf => ?_)
      · refine lv_iload_n B.1.1 B.1.2.1 dX9_step_29 rfl (hl.at 2 rfl) ?_
        refine lv_bipush (v := 7) B.1.1 B.1.2.1 dX9_step_30 (by decide) ?_
        refine y_icmp_ne (tgt := 45) B hf dX9_step_32 (by decide) (fun hf => ?_) (fun hf => ?_)
        · exact w_X9_step_45 B _ _ _ _ _ _ _ k_a2 hf hR hS (hl.drop [false, true, true, true] rfl)
        · refine lv_iload_n B.1.1 B.1.2.1 dX9_step_35 rfl (hl.at 1 rfl) ?_
          refine lv_iconst (v := -1) B.1.1 B.1.2.1 dX9_step_36 (by decide) ?_
          refine y_icmp_ne (tgt := 45) B hf dX9_step_37 (by decide) (fun hf => ?_) (fun hf => ?_)
          · exact w_X9_step_45 B _ _ _ _ _ _ _ k_a2 hf hR hS (hl.drop [false, true, true, true] rfl)
          · refine lv_aload_n B.1.1 B.1.2.1 dX9_step_40 rfl (hl.at 3 rfl) ?_
            refine y_getI B hR k_a2 fl_X9_224 dX9_step_41 ?_
            exact y_iret B hR hS hf dX9_step_44
      · refine lv_ldc (v := -1000000000) B.1.1 B.1.2.1 B.1.2.2.1 (B.1.2.2.2.1 _ tw_555) dX9_step_26 ?_
        exact y_iret B hR hS hf dX9_step_28
abbrev xr_X9_special : Room := { frames := 5, cells := 0, slots := 0, locals := 108 }
def f_X9_special (T : xT) (S : xS) (p0 : Nat) (p1 : Int32) (p2 : Int32) : Option (Int32 × xS) := xgr T S p0 4 5 (fun a1 => xgr T S a1 3 4 (fun a2 => if p1 < (0 : Int32) then some ((-1000000000 : Int32), S) else if p1 < (S.1 a2 0) then if p2 = (0 : Int32) then xgr T S a2 2 20 (fun a4 => xai T S a4 p1 (fun v5 => some (v5, S))) else if p2 = (1 : Int32) then xgr T S p0 4 5 (fun a7 => xgr T S a7 0 1 (fun a8 => xc (f_X4_sumOf T S a2 p1 a8) (fun r10 S9 => some (r10, S9)))) else if p2 = (2 : Int32) then xgr T S p0 4 5 (fun a12 => xgr T S a12 0 1 (fun a13 => xc (f_X4_gift T S a2 p1 a13) (fun r15 S14 => some (r15, S14)))) else some ((-1000000000 : Int32), S) else some ((-1000000000 : Int32), S)))
set_option maxRecDepth 100000 in
set_option maxHeartbeats 4000000 in
theorem c_X9_special {l : Launch} {z : Nat} {D : va_G} {dA : Nat → ClassId} {T : xT} {S : xS} {p0 : Nat} {p1 : Int32} {p2 : Int32} (k_p0 : xlk T p0 9 = true) {q : Int32 × xS} (hf : f_X9_special T S p0 p1 p2 = some q) : Met l yX9_special (xws yX9_special cX9_special 4 (some .int)) xr_X9_special (xPc z D dA T S [.ref (z + p0), .int p1, .int p2]) (xQi z D dA T q) 0 0 (xA z) := by
  refine x_met RX9 (by decide) rfl (Nat.le_of_ble_eq_true rfl) ?_
  intro p e s m below meth c ls _ X hr hlk hml _ hR hS hl
  have B : xB p s m _ meth c cX9_special RX9 4 (some .int) D dA := ⟨X, hr, hlk, hml⟩
  have hl : xL ls 4 [_, _, _, _] := hl
  unfold f_X9_special at hf
  refine lv_aload_n B.1.1 B.1.2.1 dX9_special_0 rfl (hl.at 0 rfl) ?_
  refine y_getR B hR hf k_p0 fl_X9_48 dX9_special_1 (fun a1 k_a1 hf => ?_)
  refine y_getR B hR hf k_a1 fl_X9_60 dX9_special_4 (fun a2 k_a2 hf => ?_)
  refine y_astore_n B hl dX9_special_7 rfl (by decide) rfl (fun ls hl => ?_)
  have hl : xL ls 4 [_, _, _, _] := hl
  refine lv_iload_n B.1.1 B.1.2.1 dX9_special_8 rfl (hl.at 1 rfl) ?_
  refine y_if_lt (tgt := 20) B hf dX9_special_9 (by decide) (fun hf => ?_) (fun hf => ?_)
  · refine lv_ldc (v := -1000000000) B.1.1 B.1.2.1 B.1.2.2.1 (B.1.2.2.2.1 _ tw_555) dX9_special_20 ?_
    exact y_iret B hR hS hf dX9_special_22
  · refine lv_iload_n B.1.1 B.1.2.1 dX9_special_12 rfl (hl.at 1 rfl) ?_
    refine lv_aload_n B.1.1 B.1.2.1 dX9_special_13 rfl (hl.at 3 rfl) ?_
    refine y_getI B hR k_a2 fl_X9_236 dX9_special_14 ?_
    refine y_icmp_lt (tgt := 23) B hf dX9_special_17 (by decide) (fun hf => ?_) (fun hf => ?_)
    · refine lv_iload_n B.1.1 B.1.2.1 dX9_special_23 rfl (hl.at 2 rfl) ?_
      refine x_if hf (fun c3 hf => ?_) (fun c3 hf => ?_)
      · refine y_tcase (k := 0) (off := 28) (tgt := 52) B c3 dX9_special_24 (by decide) (by decide) (by decide) (by decide) ?_
        refine lv_aload_n B.1.1 B.1.2.1 dX9_special_52 rfl (hl.at 3 rfl) ?_
        refine y_getR B hR hf k_a2 fl_X9_237 dX9_special_53 (fun a4 k_a4 hf => ?_)
        refine lv_iload_n B.1.1 B.1.2.1 dX9_special_56 rfl (hl.at 1 rfl) ?_
        refine y_iald B hR hf k_a4 dX9_special_57 (fun v5 hf => ?_)
        exact y_iret B hR hS hf dX9_special_58
      refine x_if hf (fun c6 hf => ?_) (fun c6 hf => ?_)
      · refine y_tcase (k := 1) (off := 35) (tgt := 59) B c6 dX9_special_24 (by decide) (by decide) (by decide) (by decide) ?_
        refine lv_aload_n B.1.1 B.1.2.1 dX9_special_59 rfl (hl.at 3 rfl) ?_
        refine lv_iload_n B.1.1 B.1.2.1 dX9_special_60 rfl (hl.at 1 rfl) ?_
        refine lv_aload_n B.1.1 B.1.2.1 dX9_special_61 rfl (hl.at 0 rfl) ?_
        refine y_getR B hR hf k_p0 fl_X9_48 dX9_special_62 (fun a7 k_a7 hf => ?_)
        refine y_getR B hR hf k_a7 fl_X9_114 dX9_special_65 (fun a8 k_a8 hf => ?_)
        refine y_ci hf (fun q hq => x_runV (ci := 4) (C := RX4) B.1 B.2.2.2 hl hR hS cm_X9_240 ⟨rfl, rfl, Nat.le_of_ble_eq_true rfl, Nat.le_of_ble_eq_true rfl⟩ (by decide) rfl k_a2 (c_X4_sumOf k_a2 k_a8 hq) rfl rfl (Nat.le_of_ble_eq_true rfl) dX9_special_68 ⟨Nat.le_of_ble_eq_true rfl, Nat.le_of_ble_eq_true rfl⟩) hS (fun r10 S9 H locs hf hR hS => ?_)
        exact y_iret B hR hS hf dX9_special_71
      refine x_if hf (fun c11 hf => ?_) (fun c11 hf => ?_)
      · refine y_tcase (k := 2) (off := 48) (tgt := 72) B c11 dX9_special_24 (by decide) (by decide) (by decide) (by decide) ?_
        refine lv_aload_n B.1.1 B.1.2.1 dX9_special_72 rfl (hl.at 3 rfl) ?_
        refine lv_iload_n B.1.1 B.1.2.1 dX9_special_73 rfl (hl.at 1 rfl) ?_
        refine lv_aload_n B.1.1 B.1.2.1 dX9_special_74 rfl (hl.at 0 rfl) ?_
        refine y_getR B hR hf k_p0 fl_X9_48 dX9_special_75 (fun a12 k_a12 hf => ?_)
        refine y_getR B hR hf k_a12 fl_X9_114 dX9_special_78 (fun a13 k_a13 hf => ?_)
        refine y_ci hf (fun q hq => x_runV (ci := 4) (C := RX4) B.1 B.2.2.2 hl hR hS cm_X9_244 ⟨rfl, rfl, Nat.le_of_ble_eq_true rfl, Nat.le_of_ble_eq_true rfl⟩ (by decide) rfl k_a2 (c_X4_gift k_a2 k_a13 hq) rfl rfl (Nat.le_of_ble_eq_true rfl) dX9_special_81 ⟨Nat.le_of_ble_eq_true rfl, Nat.le_of_ble_eq_true rfl⟩) hS (fun r15 S14 H locs hf hR hS => ?_)
        exact y_iret B hR hS hf dX9_special_84
      have n0 := lv_neT c3 (a := 0) (by decide)
      have n1 := lv_neT c6 (a := 1) (by decide)
      have n2 := lv_neT c11 (a := 2) (by decide)
      refine y_tdef (tgt := 85) B dX9_special_24 (by omega) (by decide) ?_
      refine lv_ldc (v := -1000000000) B.1.1 B.1.2.1 B.1.2.2.1 (B.1.2.2.2.1 _ tw_555) dX9_special_85 ?_
      exact y_iret B hR hS hf dX9_special_87
    · refine lv_ldc (v := -1000000000) B.1.1 B.1.2.1 B.1.2.2.1 (B.1.2.2.2.1 _ tw_555) dX9_special_20 ?_
      exact y_iret B hR hS hf dX9_special_22
abbrev xr_X9_tapeWasRead : Room := { frames := 1, cells := 0, slots := 0, locals := 12 }
def f_X9_tapeWasRead (T : xT) (S : xS) (p0 : Nat) : Option (xS) := xgr T S p0 0 3 (fun a1 => xpi S p0 11 ((S.1 a1 2)) (fun S2 => xgr T S2 p0 0 3 (fun a3 => xpi S2 a3 1 ((0 : Int32)) (fun S4 => some S4))))
set_option maxRecDepth 100000 in
set_option maxHeartbeats 4000000 in
theorem c_X9_tapeWasRead {l : Launch} {z : Nat} {D : va_G} {dA : Nat → ClassId} {T : xT} {S : xS} {p0 : Nat} (k_p0 : xlk T p0 9 = true) {q : xS} (hf : f_X9_tapeWasRead T S p0 = some q) : Met l yX9_tapeWasRead (xws yX9_tapeWasRead cX9_tapeWasRead 1 none) xr_X9_tapeWasRead (xPc z D dA T S [.ref (z + p0)]) (xQv z D dA T q) 0 0 (xA z) := by
  refine x_met RX9 (by decide) rfl (Nat.le_of_ble_eq_true rfl) ?_
  intro p e s m below meth c ls _ X hr hlk hml _ hR hS hl
  have B : xB p s m _ meth c cX9_tapeWasRead RX9 1 none D dA := ⟨X, hr, hlk, hml⟩
  have hl : xL ls 1 [_] := hl
  unfold f_X9_tapeWasRead at hf
  refine lv_aload_n B.1.1 B.1.2.1 dX9_tapeWasRead_0 rfl (hl.at 0 rfl) ?_
  refine lv_aload_n B.1.1 B.1.2.1 dX9_tapeWasRead_1 rfl (hl.at 0 rfl) ?_
  refine y_getR B hR hf k_p0 fl_X9_10 dX9_tapeWasRead_2 (fun a1 k_a1 hf => ?_)
  refine y_getI B hR k_a1 fl_X9_361 dX9_tapeWasRead_5 ?_
  refine y_putI B hR hS hf k_p0 fp_X9_81 dX9_tapeWasRead_8 (fun S2 H locs hf hR hS => ?_)
  refine lv_aload_n B.1.1 B.1.2.1 dX9_tapeWasRead_11 rfl (hl.at 0 rfl) ?_
  refine y_getR B hR hf k_p0 fl_X9_10 dX9_tapeWasRead_12 (fun a3 k_a3 hf => ?_)
  refine lv_iconst (v := 0) B.1.1 B.1.2.1 dX9_tapeWasRead_15 (by decide) ?_
  refine y_putI B hR hS hf k_a3 fp_X9_85 dX9_tapeWasRead_16 (fun S4 H locs hf hR hS => ?_)
  exact y_vret B hR hS hf dX9_tapeWasRead_19
abbrev xr_X9_acts : Room := { frames := 9, cells := 0, slots := 0, locals := 188 }
def f_X9_acts_32 (T : xT) : Nat → xS → Nat → Int32 → Int32 → Option (Int32 × xS)
  | 0, _, _, _, _ => none
  | n + 1, S, p0, p1, p2 => if p1 ≤ p2 then xgr T S p0 2 0 (fun a1 => some ((S.1 a1 0), S)) else xgr T S p0 2 0 (fun a2 => xgr T S a2 3 20 (fun a3 => xai T S a3 p2 (fun v4 => xl v4 (fun v5 => xgr T S p0 2 0 (fun a6 => xgr T S a6 4 20 (fun a7 => xai T S a7 p2 (fun v8 => xl v8 (fun v9 => xgr T S p0 2 0 (fun a10 => xgr T S a10 5 20 (fun a11 => xai T S a11 p2 (fun v12 => xl v12 (fun v13 => xc (f_X9_begins T S p0 v5 v9 v13) (fun r15 S14 => if r15 = (0 : Int32) then xgr T S14 p0 2 0 (fun a21 => xpi S14 a21 1 p2 (fun S22 => xgr T S22 p0 2 0 (fun a23 => some ((S22.1 a23 0), S22)))) else xgr T S14 p0 2 0 (fun a16 => xc (f_X9_perform T S14 p0 v5 v9 v13) (fun r18 S17 => xcv (f_X0_addRow T S17 a16 r18) (fun S19 => xl (p2 + (1 : Int32)) (fun v20 => f_X9_acts_32 T n S19 p0 p1 v20)))))))))))))))))
set_option maxRecDepth 100000 in
set_option maxHeartbeats 4000000 in
theorem w_X9_acts_32 {p : Program} {l : Launch} {e : Env} {s : State} {m : MethodId} {args : Array Value} {below : List Frame} {meth : Method} {c : Code} {z : Nat} {D : va_G} {dA : Nat → ClassId} {T : xT} (B : xB p s m args meth c cX9_acts RX9 6 (some .int) D dA) {q : Int32 × xS} : ∀ (n : Nat), ∀ (S : xS) (H : Heap) (locs : List Loc) (ls : Array Slot) (p0 : Nat) (p1 : Int32) (p2 : Int32), xlk T p0 9 = true → f_X9_acts_32 T n S p0 p1 p2 = some q → xRel z D dA T S H → va_S (xA z) s.heap H locs → xL ls 6 [some (.ref (z + p0)), some (.int p1), some (.int p2), none, none, none] → xGi p l e xr_X9_acts s m args below meth c z D dA T q H locs 32 ls [] := by
  intro n
  induction n with
  | zero =>
    intro S H locs ls p0 p1 p2 k_p0 hf hR hS hl
    exact absurd hf (by simp [f_X9_acts_32])
  | succ n ih =>
    intro S H locs ls p0 p1 p2 k_p0 hf hR hS hl
    unfold f_X9_acts_32 at hf
    refine lv_iload_n B.1.1 B.1.2.1 dX9_acts_32 rfl (hl.at 2 rfl) ?_
    refine lv_iload_n B.1.1 B.1.2.1 dX9_acts_33 rfl (hl.at 1 rfl) ?_
    refine y_icmp_ge (tgt := 114) B hf dX9_acts_34 (by decide) (fun hf => ?_) (fun hf => ?_)
    · refine lv_aload_n B.1.1 B.1.2.1 dX9_acts_114 rfl (hl.at 0 rfl) ?_
      refine y_getR B hR hf k_p0 fl_X9_26 dX9_acts_115 (fun a1 k_a1 hf => ?_)
      refine y_getI B hR k_a1 fl_X9_268 dX9_acts_118 ?_
      exact y_iret B hR hS hf dX9_acts_121
    · refine lv_aload_n B.1.1 B.1.2.1 dX9_acts_37 rfl (hl.at 0 rfl) ?_
      refine y_getR B hR hf k_p0 fl_X9_26 dX9_acts_38 (fun a2 k_a2 hf => ?_)
      refine y_getR B hR hf k_a2 fl_X9_253 dX9_acts_41 (fun a3 k_a3 hf => ?_)
      refine lv_iload_n B.1.1 B.1.2.1 dX9_acts_44 rfl (hl.at 2 rfl) ?_
      refine y_iald B hR hf k_a3 dX9_acts_45 (fun v4 hf => ?_)
      refine y_istore_n B hl hf dX9_acts_46 rfl (by decide) rfl (fun v5 ls hf hl => ?_)
      have hl : xL ls 6 [_, _, _, _, _, _] := hl
      refine lv_aload_n B.1.1 B.1.2.1 dX9_acts_47 rfl (hl.at 0 rfl) ?_
      refine y_getR B hR hf k_p0 fl_X9_26 dX9_acts_48 (fun a6 k_a6 hf => ?_)
      refine y_getR B hR hf k_a6 fl_X9_256 dX9_acts_51 (fun a7 k_a7 hf => ?_)
      refine lv_iload_n B.1.1 B.1.2.1 dX9_acts_54 rfl (hl.at 2 rfl) ?_
      refine y_iald B hR hf k_a7 dX9_acts_55 (fun v8 hf => ?_)
      refine y_istore B hl hf dX9_acts_56 (by decide) rfl (fun v9 ls hf hl => ?_)
      have hl : xL ls 6 [_, _, _, _, _, _] := hl
      refine lv_aload_n B.1.1 B.1.2.1 dX9_acts_58 rfl (hl.at 0 rfl) ?_
      refine y_getR B hR hf k_p0 fl_X9_26 dX9_acts_59 (fun a10 k_a10 hf => ?_)
      refine y_getR B hR hf k_a10 fl_X9_259 dX9_acts_62 (fun a11 k_a11 hf => ?_)
      refine lv_iload_n B.1.1 B.1.2.1 dX9_acts_65 rfl (hl.at 2 rfl) ?_
      refine y_iald B hR hf k_a11 dX9_acts_66 (fun v12 hf => ?_)
      refine y_istore B hl hf dX9_acts_67 (by decide) rfl (fun v13 ls hf hl => ?_)
      have hl : xL ls 6 [_, _, _, _, _, _] := hl
      refine lv_aload_n B.1.1 B.1.2.1 dX9_acts_69 rfl (hl.at 0 rfl) ?_
      refine lv_iload_n B.1.1 B.1.2.1 dX9_acts_70 rfl (hl.at 3 rfl) ?_
      refine lv_iload B.1.1 B.1.2.1 dX9_acts_71 (hl.at 4 rfl) ?_
      refine lv_iload B.1.1 B.1.2.1 dX9_acts_73 (hl.at 5 rfl) ?_
      refine y_ci hf (fun q hq => x_runV (ci := 9) (C := RX9) B.1 B.2.2.2 hl hR hS cm_X9_199 ⟨rfl, rfl, Nat.le_of_ble_eq_true rfl, Nat.le_of_ble_eq_true rfl⟩ (by decide) rfl k_p0 (c_X9_begins k_p0 hq) rfl rfl (Nat.le_of_ble_eq_true rfl) dX9_acts_75 ⟨Nat.le_of_ble_eq_true rfl, Nat.le_of_ble_eq_true rfl⟩) hS (fun r15 S14 H locs hf hR hS => ?_)
      refine y_if_ne (tgt := 92) B hf dX9_acts_78 (by decide) (fun hf => ?_) (fun hf => ?_)
      · refine lv_aload_n B.1.1 B.1.2.1 dX9_acts_92 rfl (hl.at 0 rfl) ?_
        refine y_getR B hR hf k_p0 fl_X9_26 dX9_acts_93 (fun a16 k_a16 hf => ?_)
        refine lv_aload_n B.1.1 B.1.2.1 dX9_acts_96 rfl (hl.at 0 rfl) ?_
        refine lv_iload_n B.1.1 B.1.2.1 dX9_acts_97 rfl (hl.at 3 rfl) ?_
        refine lv_iload B.1.1 B.1.2.1 dX9_acts_98 (hl.at 4 rfl) ?_
        refine lv_iload B.1.1 B.1.2.1 dX9_acts_100 (hl.at 5 rfl) ?_
        refine y_ci hf (fun q hq => x_runV (ci := 9) (C := RX9) B.1 B.2.2.2 hl hR hS cm_X9_203 ⟨rfl, rfl, Nat.le_of_ble_eq_true rfl, Nat.le_of_ble_eq_true rfl⟩ (by decide) rfl k_p0 (c_X9_perform k_p0 hq) rfl rfl (Nat.le_of_ble_eq_true rfl) dX9_acts_102 ⟨Nat.le_of_ble_eq_true rfl, Nat.le_of_ble_eq_true rfl⟩) hS (fun r18 S17 H locs hf hR hS => ?_)
        refine y_cv hf (fun q hq => x_runV (ci := 0) (C := RX0) B.1 B.2.2.2 hl hR hS cm_X9_265 ⟨rfl, rfl, Nat.le_of_ble_eq_true rfl, Nat.le_of_ble_eq_true rfl⟩ (by decide) rfl k_a16 (c_X0_addRow k_a16 hq) rfl rfl (Nat.le_of_ble_eq_true rfl) dX9_acts_105 ⟨Nat.le_of_ble_eq_true rfl, Nat.le_of_ble_eq_true rfl⟩) hS (fun S19 H locs hf hR hS => ?_)
        refine y_iinc (d := 1) B hl hf dX9_acts_108 rfl (by decide) (by decide) rfl (fun v20 ls hf hl => ?_)
        have hl : xL ls 6 [_, _, _, _, _, _] := hl
        refine lv_goto (tgt := 32) B.1.1 B.1.2.1 dX9_acts_111 (by decide) ?_
        exact ih _ _ _ _ _ _ _ k_p0 hf hR hS (hl.drop [true, true, true, false, false, false] rfl)
      · refine lv_aload_n B.1.1 B.1.2.1 dX9_acts_81 rfl (hl.at 0 rfl) ?_
        refine y_getR B hR hf k_p0 fl_X9_26 dX9_acts_82 (fun a21 k_a21 hf => ?_)
        refine lv_iload_n B.1.1 B.1.2.1 dX9_acts_85 rfl (hl.at 2 rfl) ?_
        refine y_putI B hR hS hf k_a21 fp_X9_262 dX9_acts_86 (fun S22 H locs hf hR hS => ?_)
        refine lv_goto (tgt := 114) B.1.1 B.1.2.1 dX9_acts_89 (by decide) ?_
        refine lv_aload_n B.1.1 B.1.2.1 dX9_acts_114 rfl (hl.at 0 rfl) ?_
        refine y_getR B hR hf k_p0 fl_X9_26 dX9_acts_115 (fun a23 k_a23 hf => ?_)
        refine y_getI B hR k_a23 fl_X9_268 dX9_acts_118 ?_
        exact y_iret B hR hS hf dX9_acts_121
def f_X9_acts (T : xT) (S : xS) (p0 : Nat) : Option (Int32 × xS) := xgr T S p0 2 0 (fun a1 => xgr T S p0 0 3 (fun a2 => xc (f_X0_readActs T S a1 a2) (fun r4 S3 => xl r4 (fun v5 => xcv (f_X9_tapeWasRead T S3 p0) (fun S6 => if v5 = (-1 : Int32) then some ((-1 : Int32), S6) else xgr T S6 p0 2 0 (fun a7 => xcv (f_X0_startRows T S6 a7) (fun S8 => xl ((0 : Int32)) (fun v9 => f_X9_acts_32 T xfu S8 p0 v5 v9))))))))
set_option maxRecDepth 100000 in
set_option maxHeartbeats 4000000 in
theorem c_X9_acts {l : Launch} {z : Nat} {D : va_G} {dA : Nat → ClassId} {T : xT} {S : xS} {p0 : Nat} (k_p0 : xlk T p0 9 = true) {q : Int32 × xS} (hf : f_X9_acts T S p0 = some q) : Met l yX9_acts (xws yX9_acts cX9_acts 6 (some .int)) xr_X9_acts (xPc z D dA T S [.ref (z + p0)]) (xQi z D dA T q) 0 0 (xA z) := by
  refine x_met RX9 (by decide) rfl (Nat.le_of_ble_eq_true rfl) ?_
  intro p e s m below meth c ls _ X hr hlk hml _ hR hS hl
  have B : xB p s m _ meth c cX9_acts RX9 6 (some .int) D dA := ⟨X, hr, hlk, hml⟩
  have hl : xL ls 6 [_, _, _, _, _, _] := hl
  unfold f_X9_acts at hf
  refine lv_aload_n B.1.1 B.1.2.1 dX9_acts_0 rfl (hl.at 0 rfl) ?_
  refine y_getR B hR hf k_p0 fl_X9_26 dX9_acts_1 (fun a1 k_a1 hf => ?_)
  refine lv_aload_n B.1.1 B.1.2.1 dX9_acts_4 rfl (hl.at 0 rfl) ?_
  refine y_getR B hR hf k_p0 fl_X9_10 dX9_acts_5 (fun a2 k_a2 hf => ?_)
  refine y_ci hf (fun q hq => x_runV (ci := 0) (C := RX0) B.1 B.2.2.2 hl hR hS cm_X9_247 ⟨rfl, rfl, Nat.le_of_ble_eq_true rfl, Nat.le_of_ble_eq_true rfl⟩ (by decide) rfl k_a1 (c_X0_readActs k_a1 k_a2 hq) rfl rfl (Nat.le_of_ble_eq_true rfl) dX9_acts_8 ⟨Nat.le_of_ble_eq_true rfl, Nat.le_of_ble_eq_true rfl⟩) hS (fun r4 S3 H locs hf hR hS => ?_)
  refine y_istore_n B hl hf dX9_acts_11 rfl (by decide) rfl (fun v5 ls hf hl => ?_)
  have hl : xL ls 6 [_, _, _, _, _, _] := hl
  refine lv_aload_n B.1.1 B.1.2.1 dX9_acts_12 rfl (hl.at 0 rfl) ?_
  refine y_cv hf (fun q hq => x_runV (ci := 9) (C := RX9) B.1 B.2.2.2 hl hR hS cm_X9_96 ⟨rfl, rfl, Nat.le_of_ble_eq_true rfl, Nat.le_of_ble_eq_true rfl⟩ (by decide) rfl k_p0 (c_X9_tapeWasRead k_p0 hq) rfl rfl (Nat.le_of_ble_eq_true rfl) dX9_acts_13 ⟨Nat.le_of_ble_eq_true rfl, Nat.le_of_ble_eq_true rfl⟩) hS (fun S6 H locs hf hR hS => ?_)
  refine lv_iload_n B.1.1 B.1.2.1 dX9_acts_16 rfl (hl.at 1 rfl) ?_
  refine lv_iconst (v := -1) B.1.1 B.1.2.1 dX9_acts_17 (by decide) ?_
  refine y_icmp_ne (tgt := 23) B hf dX9_acts_18 (by decide) (fun hf => ?_) (fun hf => ?_)
  · refine lv_aload_n B.1.1 B.1.2.1 dX9_acts_23 rfl (hl.at 0 rfl) ?_
    refine y_getR B hR hf k_p0 fl_X9_26 dX9_acts_24 (fun a7 k_a7 hf => ?_)
    refine y_cv hf (fun q hq => x_runV (ci := 0) (C := RX0) B.1 B.2.2.2 hl hR hS cm_X9_250 ⟨rfl, rfl, Nat.le_of_ble_eq_true rfl, Nat.le_of_ble_eq_true rfl⟩ (by decide) rfl k_a7 (c_X0_startRows k_a7 hq) rfl rfl (Nat.le_of_ble_eq_true rfl) dX9_acts_27 ⟨Nat.le_of_ble_eq_true rfl, Nat.le_of_ble_eq_true rfl⟩) hS (fun S8 H locs hf hR hS => ?_)
    refine lv_iconst (v := 0) B.1.1 B.1.2.1 dX9_acts_30 (by decide) ?_
    refine y_istore_n B hl hf dX9_acts_31 rfl (by decide) rfl (fun v9 ls hf hl => ?_)
    have hl : xL ls 6 [_, _, _, _, _, _] := hl
    exact w_X9_acts_32 B xfu _ _ _ _ _ _ _ k_p0 hf hR hS hl
  · refine lv_iconst (v := -1) B.1.1 B.1.2.1 dX9_acts_21 (by decide) ?_
    exact y_iret B hR hS hf dX9_acts_22
abbrev xr_X9_ended : Room := { frames := 1, cells := 0, slots := 0, locals := 12 }
def f_X9_ended (T : xT) (S : xS) (p0 : Nat) : Option (Int32 × xS) := xgr T S p0 2 0 (fun a1 => some ((S.1 a1 1), S))
set_option maxRecDepth 100000 in
set_option maxHeartbeats 4000000 in
theorem c_X9_ended {l : Launch} {z : Nat} {D : va_G} {dA : Nat → ClassId} {T : xT} {S : xS} {p0 : Nat} (k_p0 : xlk T p0 9 = true) {q : Int32 × xS} (hf : f_X9_ended T S p0 = some q) : Met l yX9_ended (xws yX9_ended cX9_ended 1 (some .int)) xr_X9_ended (xPc z D dA T S [.ref (z + p0)]) (xQi z D dA T q) 0 0 (xA z) := by
  refine x_met RX9 (by decide) rfl (Nat.le_of_ble_eq_true rfl) ?_
  intro p e s m below meth c ls _ X hr hlk hml _ hR hS hl
  have B : xB p s m _ meth c cX9_ended RX9 1 (some .int) D dA := ⟨X, hr, hlk, hml⟩
  have hl : xL ls 1 [_] := hl
  unfold f_X9_ended at hf
  refine lv_aload_n B.1.1 B.1.2.1 dX9_ended_0 rfl (hl.at 0 rfl) ?_
  refine y_getR B hR hf k_p0 fl_X9_26 dX9_ended_1 (fun a1 k_a1 hf => ?_)
  refine y_getI B hR k_a1 fl_X9_262 dX9_ended_4 ?_
  exact y_iret B hR hS hf dX9_ended_7
abbrev xr_X9_row : Room := { frames := 1, cells := 0, slots := 0, locals := 12 }
def f_X9_row (T : xT) (S : xS) (p0 : Nat) (p1 : Int32) : Option (Int32 × xS) := if p1 < (0 : Int32) then some ((-1000000000 : Int32), S) else xgr T S p0 2 0 (fun a1 => if (S.1 a1 0) ≤ p1 then some ((-1000000000 : Int32), S) else xgr T S p0 2 0 (fun a2 => xgr T S a2 2 20 (fun a3 => xai T S a3 p1 (fun v4 => some (v4, S)))))
set_option maxRecDepth 100000 in
set_option maxHeartbeats 4000000 in
theorem c_X9_row {l : Launch} {z : Nat} {D : va_G} {dA : Nat → ClassId} {T : xT} {S : xS} {p0 : Nat} {p1 : Int32} (k_p0 : xlk T p0 9 = true) {q : Int32 × xS} (hf : f_X9_row T S p0 p1 = some q) : Met l yX9_row (xws yX9_row cX9_row 2 (some .int)) xr_X9_row (xPc z D dA T S [.ref (z + p0), .int p1]) (xQi z D dA T q) 0 0 (xA z) := by
  refine x_met RX9 (by decide) rfl (Nat.le_of_ble_eq_true rfl) ?_
  intro p e s m below meth c ls _ X hr hlk hml _ hR hS hl
  have B : xB p s m _ meth c cX9_row RX9 2 (some .int) D dA := ⟨X, hr, hlk, hml⟩
  have hl : xL ls 2 [_, _] := hl
  unfold f_X9_row at hf
  refine lv_iload_n B.1.1 B.1.2.1 dX9_row_0 rfl (hl.at 1 rfl) ?_
  refine y_if_lt (tgt := 27) B hf dX9_row_1 (by decide) (fun hf => ?_) (fun hf => ?_)
  · refine lv_ldc (v := -1000000000) B.1.1 B.1.2.1 B.1.2.2.1 (B.1.2.2.2.1 _ tw_555) dX9_row_27 ?_
    exact y_iret B hR hS hf dX9_row_29
  · refine lv_iload_n B.1.1 B.1.2.1 dX9_row_4 rfl (hl.at 1 rfl) ?_
    refine lv_aload_n B.1.1 B.1.2.1 dX9_row_5 rfl (hl.at 0 rfl) ?_
    refine y_getR B hR hf k_p0 fl_X9_26 dX9_row_6 (fun a1 k_a1 hf => ?_)
    refine y_getI B hR k_a1 fl_X9_268 dX9_row_9 ?_
    refine y_icmp_ge (tgt := 27) B hf dX9_row_12 (by decide) (fun hf => ?_) (fun hf => ?_)
    · refine lv_ldc (v := -1000000000) B.1.1 B.1.2.1 B.1.2.2.1 (B.1.2.2.2.1 _ tw_555) dX9_row_27 ?_
      exact y_iret B hR hS hf dX9_row_29
    · refine lv_aload_n B.1.1 B.1.2.1 dX9_row_15 rfl (hl.at 0 rfl) ?_
      refine y_getR B hR hf k_p0 fl_X9_26 dX9_row_16 (fun a2 k_a2 hf => ?_)
      refine y_getR B hR hf k_a2 fl_X9_271 dX9_row_19 (fun a3 k_a3 hf => ?_)
      refine lv_iload_n B.1.1 B.1.2.1 dX9_row_22 rfl (hl.at 1 rfl) ?_
      refine y_iald B hR hf k_a3 dX9_row_23 (fun v4 hf => ?_)
      refine lv_goto (tgt := 29) B.1.1 B.1.2.1 dX9_row_24 (by decide) ?_
      exact y_iret B hR hS hf dX9_row_29
abbrev xr_X9_passOn : Room := { frames := 1, cells := 0, slots := 0, locals := 12 }
def f_X9_passOn (T : xT) (S : xS) (p0 : Nat) (p1 : Int32) (p2 : Int32) (p3 : Int32) : Option (xS) := xai T S p0 p1 (fun v1 => xgd (xm0 (100 : Int64)) (xl (((((v1).toInt64 * (p3).toInt64) / (100 : Int64))).toInt32) (fun v2 => xai T S p0 p1 (fun v3 => xst T S p0 p1 ((v3 - v2)) (fun S4 => xai T S4 p0 p2 (fun v5 => xst T S4 p0 p2 ((v5 + v2)) (fun S6 => some S6)))))))
set_option maxRecDepth 100000 in
set_option maxHeartbeats 4000000 in
theorem c_X9_passOn {l : Launch} {z : Nat} {D : va_G} {dA : Nat → ClassId} {T : xT} {S : xS} {p0 : Nat} {p1 : Int32} {p2 : Int32} {p3 : Int32} (k_p0 : xlk T p0 20 = true) {q : xS} (hf : f_X9_passOn T S p0 p1 p2 p3 = some q) : Met l yX9_passOn (xws yX9_passOn cX9_passOn 5 none) xr_X9_passOn (xPc z D dA T S [.ref (z + p0), .int p1, .int p2, .int p3]) (xQv z D dA T q) 0 0 (xA z) := by
  refine x_met RX9 (by decide) rfl (Nat.le_of_ble_eq_true rfl) ?_
  intro p e s m below meth c ls _ X hr hlk hml _ hR hS hl
  have B : xB p s m _ meth c cX9_passOn RX9 5 none D dA := ⟨X, hr, hlk, hml⟩
  have hl : xL ls 5 [_, _, _, _, _] := hl
  unfold f_X9_passOn at hf
  refine lv_aload_n B.1.1 B.1.2.1 dX9_passOn_0 rfl (hl.at 0 rfl) ?_
  refine lv_iload_n B.1.1 B.1.2.1 dX9_passOn_1 rfl (hl.at 1 rfl) ?_
  refine y_iald B hR hf k_p0 dX9_passOn_2 (fun v1 hf => ?_)
  refine lv_i2l B.1.1 B.1.2.1 dX9_passOn_3 rfl ?_
  refine lv_iload_n B.1.1 B.1.2.1 dX9_passOn_4 rfl (hl.at 3 rfl) ?_
  refine lv_i2l B.1.1 B.1.2.1 dX9_passOn_5 rfl ?_
  refine lv_lmul B.1.1 B.1.2.1 dX9_passOn_6 ?_
  refine lv_ldc2 (v := 100) B.1.1 B.1.2.1 B.1.2.2.1 (B.1.2.2.2.1 _ tw_971) dX9_passOn_7 ?_
  refine y_ldiv B hf dX9_passOn_10 (fun hf => ?_)
  refine lv_l2i B.1.1 B.1.2.1 dX9_passOn_11 rfl ?_
  refine y_istore B hl hf dX9_passOn_12 (by decide) rfl (fun v2 ls hf hl => ?_)
  have hl : xL ls 5 [_, _, _, _, _] := hl
  refine lv_aload_n B.1.1 B.1.2.1 dX9_passOn_14 rfl (hl.at 0 rfl) ?_
  refine lv_iload_n B.1.1 B.1.2.1 dX9_passOn_15 rfl (hl.at 1 rfl) ?_
  refine lv_dup2_11 B.1.1 B.1.2.1 dX9_passOn_16 rfl rfl ?_
  refine y_iald B hR hf k_p0 dX9_passOn_17 (fun v3 hf => ?_)
  refine lv_iload B.1.1 B.1.2.1 dX9_passOn_18 (hl.at 4 rfl) ?_
  refine lv_isub B.1.1 B.1.2.1 dX9_passOn_20 ?_
  refine y_iast B hR hS hf k_p0 dX9_passOn_21 (fun S4 H locs hf hR hS => ?_)
  refine lv_aload_n B.1.1 B.1.2.1 dX9_passOn_22 rfl (hl.at 0 rfl) ?_
  refine lv_iload_n B.1.1 B.1.2.1 dX9_passOn_23 rfl (hl.at 2 rfl) ?_
  refine lv_dup2_11 B.1.1 B.1.2.1 dX9_passOn_24 rfl rfl ?_
  refine y_iald B hR hf k_p0 dX9_passOn_25 (fun v5 hf => ?_)
  refine lv_iload B.1.1 B.1.2.1 dX9_passOn_26 (hl.at 4 rfl) ?_
  refine lv_iadd B.1.1 B.1.2.1 dX9_passOn_28 ?_
  refine y_iast B hR hS hf k_p0 dX9_passOn_29 (fun S6 H locs hf hR hS => ?_)
  exact y_vret B hR hS hf dX9_passOn_30
abbrev xr_X9_hand : Room := { frames := 5, cells := 0, slots := 0, locals := 120 }
def f_X9_hand_66 (T : xT) (S : xS) (p1 : Int32) (p2 : Int32) (p3 : Int32) (p4 : Nat) : Option (Int32 × xS) := xgr T S p4 6 20 (fun a1 => xcv (f_X9_passOn T S a1 p1 p2 p3) (fun S2 => xgr T S2 p4 9 20 (fun a3 => xcv (f_X9_passOn T S2 a3 p1 p2 p3) (fun S4 => xgr T S4 p4 10 20 (fun a5 => xcv (f_X9_passOn T S4 a5 p1 p2 p3) (fun S6 => xgr T S6 p4 6 20 (fun a7 => xai T S6 a7 p2 (fun v8 => some (v8, S6)))))))))
set_option maxRecDepth 100000 in
set_option maxHeartbeats 4000000 in
theorem w_X9_hand_66 {p : Program} {l : Launch} {e : Env} {s : State} {m : MethodId} {args : Array Value} {below : List Frame} {meth : Method} {c : Code} {z : Nat} {D : va_G} {dA : Nat → ClassId} {T : xT} (B : xB p s m args meth c cX9_hand RX9 5 (some .int) D dA) {q : Int32 × xS} : ∀ (S : xS) (H : Heap) (locs : List Loc) (ls : Array Slot) (p1 : Int32) (p2 : Int32) (p3 : Int32) (p4 : Nat), xlk T p4 1 = true → f_X9_hand_66 T S p1 p2 p3 p4 = some q → xRel z D dA T S H → va_S (xA z) s.heap H locs → xL ls 5 [none, some (.int p1), some (.int p2), some (.int p3), some (.ref (z + p4))] → xGi p l e xr_X9_hand s m args below meth c z D dA T q H locs 66 ls [] := by
  intro S H locs ls p1 p2 p3 p4 k_p4 hf hR hS hl
  unfold f_X9_hand_66 at hf
  refine lv_aload B.1.1 B.1.2.1 dX9_hand_66 (hl.at 4 rfl) ?_
  refine y_getR B hR hf k_p4 fl_X9_154 dX9_hand_68 (fun a1 k_a1 hf => ?_)
  refine lv_iload_n B.1.1 B.1.2.1 dX9_hand_71 rfl (hl.at 1 rfl) ?_
  refine lv_iload_n B.1.1 B.1.2.1 dX9_hand_72 rfl (hl.at 2 rfl) ?_
  refine lv_iload_n B.1.1 B.1.2.1 dX9_hand_73 rfl (hl.at 3 rfl) ?_
  refine y_cv hf (fun q hq => y_runS B.1 B.2.2.2 hl hR hS cm_X9_275 ⟨rfl, rfl, Nat.le_of_ble_eq_true rfl, Nat.le_of_ble_eq_true rfl⟩ (c_X9_passOn k_a1 hq) rfl rfl (Nat.le_of_ble_eq_true rfl) dX9_hand_74 ⟨Nat.le_of_ble_eq_true rfl, Nat.le_of_ble_eq_true rfl⟩) hS (fun S2 H locs hf hR hS => ?_)
  refine lv_aload B.1.1 B.1.2.1 dX9_hand_77 (hl.at 4 rfl) ?_
  refine y_getR B hR hf k_p4 fl_X9_161 dX9_hand_79 (fun a3 k_a3 hf => ?_)
  refine lv_iload_n B.1.1 B.1.2.1 dX9_hand_82 rfl (hl.at 1 rfl) ?_
  refine lv_iload_n B.1.1 B.1.2.1 dX9_hand_83 rfl (hl.at 2 rfl) ?_
  refine lv_iload_n B.1.1 B.1.2.1 dX9_hand_84 rfl (hl.at 3 rfl) ?_
  refine y_cv hf (fun q hq => y_runS B.1 B.2.2.2 hl hR hS cm_X9_275 ⟨rfl, rfl, Nat.le_of_ble_eq_true rfl, Nat.le_of_ble_eq_true rfl⟩ (c_X9_passOn k_a3 hq) rfl rfl (Nat.le_of_ble_eq_true rfl) dX9_hand_85 ⟨Nat.le_of_ble_eq_true rfl, Nat.le_of_ble_eq_true rfl⟩) hS (fun S4 H locs hf hR hS => ?_)
  refine lv_aload B.1.1 B.1.2.1 dX9_hand_88 (hl.at 4 rfl) ?_
  refine y_getR B hR hf k_p4 fl_X9_164 dX9_hand_90 (fun a5 k_a5 hf => ?_)
  refine lv_iload_n B.1.1 B.1.2.1 dX9_hand_93 rfl (hl.at 1 rfl) ?_
  refine lv_iload_n B.1.1 B.1.2.1 dX9_hand_94 rfl (hl.at 2 rfl) ?_
  refine lv_iload_n B.1.1 B.1.2.1 dX9_hand_95 rfl (hl.at 3 rfl) ?_
  refine y_cv hf (fun q hq => y_runS B.1 B.2.2.2 hl hR hS cm_X9_275 ⟨rfl, rfl, Nat.le_of_ble_eq_true rfl, Nat.le_of_ble_eq_true rfl⟩ (c_X9_passOn k_a5 hq) rfl rfl (Nat.le_of_ble_eq_true rfl) dX9_hand_96 ⟨Nat.le_of_ble_eq_true rfl, Nat.le_of_ble_eq_true rfl⟩) hS (fun S6 H locs hf hR hS => ?_)
  refine lv_aload B.1.1 B.1.2.1 dX9_hand_99 (hl.at 4 rfl) ?_
  refine y_getR B hR hf k_p4 fl_X9_154 dX9_hand_101 (fun a7 k_a7 hf => ?_)
  refine lv_iload_n B.1.1 B.1.2.1 dX9_hand_104 rfl (hl.at 2 rfl) ?_
  refine y_iald B hR hf k_a7 dX9_hand_105 (fun v8 hf => ?_)
  exact y_iret B hR hS hf dX9_hand_106
def f_X9_hand (T : xT) (S : xS) (p0 : Nat) (p1 : Int32) (p2 : Int32) (p3 : Int32) : Option (Int32 × xS) := xgr T S p0 4 5 (fun a1 => xgr T S a1 0 1 (fun a2 => xc (f_X1_hasPartner T S a2 p1) (fun r4 S3 => if r4 = (0 : Int32) then some ((-1000000000 : Int32), S3) else if p2 < (0 : Int32) then some ((-1000000000 : Int32), S3) else if (8 : Int32) ≤ p2 then some ((-1000000000 : Int32), S3) else if p2 = p1 then some ((-1000000000 : Int32), S3) else if p3 < (1 : Int32) then some ((-1000000000 : Int32), S3) else if p3 ≤ (100 : Int32) then xcv (f_X9_remember T S3 p0) (fun S5 => xc (f_X1_hasPartner T S5 a2 p2) (fun r7 S6 => if r7 = (0 : Int32) then xcv (f_X1_admit T S6 a2 p2) (fun S8 => f_X9_hand_66 T S8 p1 p2 p3 a2) else f_X9_hand_66 T S6 p1 p2 p3 a2)) else some ((-1000000000 : Int32), S3))))
set_option maxRecDepth 100000 in
set_option maxHeartbeats 4000000 in
theorem c_X9_hand {l : Launch} {z : Nat} {D : va_G} {dA : Nat → ClassId} {T : xT} {S : xS} {p0 : Nat} {p1 : Int32} {p2 : Int32} {p3 : Int32} (k_p0 : xlk T p0 9 = true) {q : Int32 × xS} (hf : f_X9_hand T S p0 p1 p2 p3 = some q) : Met l yX9_hand (xws yX9_hand cX9_hand 5 (some .int)) xr_X9_hand (xPc z D dA T S [.ref (z + p0), .int p1, .int p2, .int p3]) (xQi z D dA T q) 0 0 (xA z) := by
  refine x_met RX9 (by decide) rfl (Nat.le_of_ble_eq_true rfl) ?_
  intro p e s m below meth c ls _ X hr hlk hml _ hR hS hl
  have B : xB p s m _ meth c cX9_hand RX9 5 (some .int) D dA := ⟨X, hr, hlk, hml⟩
  have hl : xL ls 5 [_, _, _, _, _] := hl
  unfold f_X9_hand at hf
  refine lv_aload_n B.1.1 B.1.2.1 dX9_hand_0 rfl (hl.at 0 rfl) ?_
  refine y_getR B hR hf k_p0 fl_X9_48 dX9_hand_1 (fun a1 k_a1 hf => ?_)
  refine y_getR B hR hf k_a1 fl_X9_114 dX9_hand_4 (fun a2 k_a2 hf => ?_)
  refine y_astore B hl dX9_hand_7 (by decide) rfl (fun ls hl => ?_)
  have hl : xL ls 5 [_, _, _, _, _] := hl
  refine lv_aload B.1.1 B.1.2.1 dX9_hand_9 (hl.at 4 rfl) ?_
  refine lv_iload_n B.1.1 B.1.2.1 dX9_hand_11 rfl (hl.at 1 rfl) ?_
  refine y_ci hf (fun q hq => x_runV (ci := 1) (C := RX1) B.1 B.2.2.2 hl hR hS cm_X9_117 ⟨rfl, rfl, Nat.le_of_ble_eq_true rfl, Nat.le_of_ble_eq_true rfl⟩ (by decide) rfl k_a2 (c_X1_hasPartner k_a2 hq) rfl rfl (Nat.le_of_ble_eq_true rfl) dX9_hand_12 ⟨Nat.le_of_ble_eq_true rfl, Nat.le_of_ble_eq_true rfl⟩) hS (fun r4 S3 H locs hf hR hS => ?_)
  refine y_if_eq (tgt := 44) B hf dX9_hand_15 (by decide) (fun hf => ?_) (fun hf => ?_)
  · refine lv_ldc (v := -1000000000) B.1.1 B.1.2.1 B.1.2.2.1 (B.1.2.2.2.1 _ tw_555) dX9_hand_44 ?_
    exact y_iret B hR hS hf dX9_hand_46
  · refine lv_iload_n B.1.1 B.1.2.1 dX9_hand_18 rfl (hl.at 2 rfl) ?_
    refine y_if_lt (tgt := 44) B hf dX9_hand_19 (by decide) (fun hf => ?_) (fun hf => ?_)
    · refine lv_ldc (v := -1000000000) B.1.1 B.1.2.1 B.1.2.2.1 (B.1.2.2.2.1 _ tw_555) dX9_hand_44 ?_
      exact y_iret B hR hS hf dX9_hand_46
    · refine lv_iload_n B.1.1 B.1.2.1 dX9_hand_22 rfl (hl.at 2 rfl) ?_
      refine lv_bipush (v := 8) B.1.1 B.1.2.1 dX9_hand_23 (by decide) ?_
      refine y_icmp_ge (tgt := 44) B hf dX9_hand_25 (by decide) (fun hf => ?_) (fun hf => ?_)
      · refine lv_ldc (v := -1000000000) B.1.1 B.1.2.1 B.1.2.2.1 (B.1.2.2.2.1 _ tw_555) dX9_hand_44 ?_
        exact y_iret B hR hS hf dX9_hand_46
      · refine lv_iload_n B.1.1 B.1.2.1 dX9_hand_28 rfl (hl.at 2 rfl) ?_
        refine lv_iload_n B.1.1 B.1.2.1 dX9_hand_29 rfl (hl.at 1 rfl) ?_
        refine y_icmp_eq (tgt := 44) B hf dX9_hand_30 (by decide) (fun hf => ?_) (fun hf => ?_)
        · refine lv_ldc (v := -1000000000) B.1.1 B.1.2.1 B.1.2.2.1 (B.1.2.2.2.1 _ tw_555) dX9_hand_44 ?_
          exact y_iret B hR hS hf dX9_hand_46
        · refine lv_iload_n B.1.1 B.1.2.1 dX9_hand_33 rfl (hl.at 3 rfl) ?_
          refine lv_iconst (v := 1) B.1.1 B.1.2.1 dX9_hand_34 (by decide) ?_
          refine y_icmp_lt (tgt := 44) B hf dX9_hand_35 (by decide) (fun hf => ?_) (fun hf => ?_)
          · refine lv_ldc (v := -1000000000) B.1.1 B.1.2.1 B.1.2.2.1 (B.1.2.2.2.1 _ tw_555) dX9_hand_44 ?_
            exact y_iret B hR hS hf dX9_hand_46
          · refine lv_iload_n B.1.1 B.1.2.1 dX9_hand_38 rfl (hl.at 3 rfl) ?_
            refine lv_bipush (v := 100) B.1.1 B.1.2.1 dX9_hand_39 (by decide) ?_
            refine y_icmp_le (tgt := 47) B hf dX9_hand_41 (by decide) (fun hf => ?_) (fun hf => ?_)
            · refine lv_aload_n B.1.1 B.1.2.1 dX9_hand_47 rfl (hl.at 0 rfl) ?_
              refine y_cv hf (fun q hq => x_runV (ci := 9) (C := RX9) B.1 B.2.2.2 hl hR hS cm_X9_99 ⟨rfl, rfl, Nat.le_of_ble_eq_true rfl, Nat.le_of_ble_eq_true rfl⟩ (by decide) rfl k_p0 (c_X9_remember k_p0 hq) rfl rfl (Nat.le_of_ble_eq_true rfl) dX9_hand_48 ⟨Nat.le_of_ble_eq_true rfl, Nat.le_of_ble_eq_true rfl⟩) hS (fun S5 H locs hf hR hS => ?_)
              refine lv_aload B.1.1 B.1.2.1 dX9_hand_51 (hl.at 4 rfl) ?_
              refine lv_iload_n B.1.1 B.1.2.1 dX9_hand_53 rfl (hl.at 2 rfl) ?_
              refine y_ci hf (fun q hq => x_runV (ci := 1) (C := RX1) B.1 B.2.2.2 hl hR hS cm_X9_117 ⟨rfl, rfl, Nat.le_of_ble_eq_true rfl, Nat.le_of_ble_eq_true rfl⟩ (by decide) rfl k_a2 (c_X1_hasPartner k_a2 hq) rfl rfl (Nat.le_of_ble_eq_true rfl) dX9_hand_54 ⟨Nat.le_of_ble_eq_true rfl, Nat.le_of_ble_eq_true rfl⟩) hS (fun r7 S6 H locs hf hR hS => ?_)
              refine y_if_ne (tgt := 66) B hf dX9_hand_57 (by decide) (fun hf => ?_) (fun hf => ?_)
              · exact w_X9_hand_66 B _ _ _ _ _ _ _ _ k_a2 hf hR hS (hl.drop [false, true, true, true, true] rfl)
              · refine lv_aload B.1.1 B.1.2.1 dX9_hand_60 (hl.at 4 rfl) ?_
                refine lv_iload_n B.1.1 B.1.2.1 dX9_hand_62 rfl (hl.at 2 rfl) ?_
                refine y_cv hf (fun q hq => x_runV (ci := 1) (C := RX1) B.1 B.2.2.2 hl hR hS cm_X9_272 ⟨rfl, rfl, Nat.le_of_ble_eq_true rfl, Nat.le_of_ble_eq_true rfl⟩ (by decide) rfl k_a2 (c_X1_admit k_a2 hq) rfl rfl (Nat.le_of_ble_eq_true rfl) dX9_hand_63 ⟨Nat.le_of_ble_eq_true rfl, Nat.le_of_ble_eq_true rfl⟩) hS (fun S8 H locs hf hR hS => ?_)
                exact w_X9_hand_66 B _ _ _ _ _ _ _ _ k_a2 hf hR hS (hl.drop [false, true, true, true, true] rfl)
            · refine lv_ldc (v := -1000000000) B.1.1 B.1.2.1 B.1.2.2.1 (B.1.2.2.2.1 _ tw_555) dX9_hand_44 ?_
              exact y_iret B hR hS hf dX9_hand_46
abbrev xr_X9_closeOnPaper : Room := { frames := 7, cells := 0, slots := 0, locals := 164 }
def f_X9_closeOnPaper (T : xT) (S : xS) (p0 : Nat) (p1 : Int32) : Option (xS) := xgr T S p0 9 1 (fun a1 => xc (f_X1_earnMore T S a1 p1) (fun r3 S2 => xgr T S2 p0 1 2 (fun a4 => xgr T S2 p0 9 1 (fun a5 => xgr T S2 p0 4 5 (fun a6 => xgr T S2 a6 2 8 (fun a7 => xgr T S2 p0 4 5 (fun a8 => xgr T S2 a8 3 4 (fun a9 => xgr T S2 p0 10 7 (fun a10 => xc (f_X2_closeYear T S2 a4 a5 a7 a9 a10) (fun r12 S11 => some S11))))))))))
set_option maxRecDepth 100000 in
set_option maxHeartbeats 4000000 in
theorem c_X9_closeOnPaper {l : Launch} {z : Nat} {D : va_G} {dA : Nat → ClassId} {T : xT} {S : xS} {p0 : Nat} {p1 : Int32} (k_p0 : xlk T p0 9 = true) {q : xS} (hf : f_X9_closeOnPaper T S p0 p1 = some q) : Met l yX9_closeOnPaper (xws yX9_closeOnPaper cX9_closeOnPaper 2 none) xr_X9_closeOnPaper (xPc z D dA T S [.ref (z + p0), .int p1]) (xQv z D dA T q) 0 0 (xA z) := by
  refine x_met RX9 (by decide) rfl (Nat.le_of_ble_eq_true rfl) ?_
  intro p e s m below meth c ls _ X hr hlk hml _ hR hS hl
  have B : xB p s m _ meth c cX9_closeOnPaper RX9 2 none D dA := ⟨X, hr, hlk, hml⟩
  have hl : xL ls 2 [_, _] := hl
  unfold f_X9_closeOnPaper at hf
  refine lv_aload_n B.1.1 B.1.2.1 dX9_closeOnPaper_0 rfl (hl.at 0 rfl) ?_
  refine y_getR B hR hf k_p0 fl_X9_70 dX9_closeOnPaper_1 (fun a1 k_a1 hf => ?_)
  refine lv_iload_n B.1.1 B.1.2.1 dX9_closeOnPaper_4 rfl (hl.at 1 rfl) ?_
  refine y_ci hf (fun q hq => x_runV (ci := 1) (C := RX1) B.1 B.2.2.2 hl hR hS cm_X9_333 ⟨rfl, rfl, Nat.le_of_ble_eq_true rfl, Nat.le_of_ble_eq_true rfl⟩ (by decide) rfl k_a1 (c_X1_earnMore k_a1 hq) rfl rfl (Nat.le_of_ble_eq_true rfl) dX9_closeOnPaper_5 ⟨Nat.le_of_ble_eq_true rfl, Nat.le_of_ble_eq_true rfl⟩) hS (fun r3 S2 H locs hf hR hS => ?_)
  refine lv_pop B.1.1 B.1.2.1 dX9_closeOnPaper_8 rfl ?_
  refine lv_aload_n B.1.1 B.1.2.1 dX9_closeOnPaper_9 rfl (hl.at 0 rfl) ?_
  refine y_getR B hR hf k_p0 fl_X9_19 dX9_closeOnPaper_10 (fun a4 k_a4 hf => ?_)
  refine lv_aload_n B.1.1 B.1.2.1 dX9_closeOnPaper_13 rfl (hl.at 0 rfl) ?_
  refine y_getR B hR hf k_p0 fl_X9_70 dX9_closeOnPaper_14 (fun a5 k_a5 hf => ?_)
  refine lv_aload_n B.1.1 B.1.2.1 dX9_closeOnPaper_17 rfl (hl.at 0 rfl) ?_
  refine y_getR B hR hf k_p0 fl_X9_48 dX9_closeOnPaper_18 (fun a6 k_a6 hf => ?_)
  refine y_getR B hR hf k_a6 fl_X9_56 dX9_closeOnPaper_21 (fun a7 k_a7 hf => ?_)
  refine lv_aload_n B.1.1 B.1.2.1 dX9_closeOnPaper_24 rfl (hl.at 0 rfl) ?_
  refine y_getR B hR hf k_p0 fl_X9_48 dX9_closeOnPaper_25 (fun a8 k_a8 hf => ?_)
  refine y_getR B hR hf k_a8 fl_X9_60 dX9_closeOnPaper_28 (fun a9 k_a9 hf => ?_)
  refine lv_aload_n B.1.1 B.1.2.1 dX9_closeOnPaper_31 rfl (hl.at 0 rfl) ?_
  refine y_getR B hR hf k_p0 fl_X9_77 dX9_closeOnPaper_32 (fun a10 k_a10 hf => ?_)
  refine y_ci hf (fun q hq => x_runV (ci := 2) (C := RX2) B.1 B.2.2.2 hl hR hS cm_X9_329 ⟨rfl, rfl, Nat.le_of_ble_eq_true rfl, Nat.le_of_ble_eq_true rfl⟩ (by decide) rfl k_a4 (c_X2_closeYear k_a4 k_a5 k_a7 k_a9 k_a10 hq) rfl rfl (Nat.le_of_ble_eq_true rfl) dX9_closeOnPaper_35 ⟨Nat.le_of_ble_eq_true rfl, Nat.le_of_ble_eq_true rfl⟩) hS (fun r12 S11 H locs hf hR hS => ?_)
  refine lv_pop B.1.1 B.1.2.1 dX9_closeOnPaper_38 rfl ?_
  exact y_vret B hR hS hf dX9_closeOnPaper_39
abbrev xr_X9_breaks : Room := { frames := 8, cells := 0, slots := 0, locals := 185 }
def f_X9_breaks_29 (T : xT) : Nat → xS → Nat → Int32 → Int32 → Option (Int32 × xS)
  | 0, _, _, _, _ => none
  | n + 1, S, p0, p1, p2 => if p1 < p2 then some ((-1 : Int32), S) else xgr T S p0 9 1 (fun a1 => xgr T S p0 4 5 (fun a2 => xgr T S a2 0 1 (fun a3 => xcv (f_X1_copyBooks T S a1 a3) (fun S4 => xcv (f_X9_closeOnPaper T S4 p0 ((-p2))) (fun S5 => xgr T S5 p0 10 7 (fun a6 => if (S5.1 a6 1) ≤ (0 : Int32) then xl (p2 + (1 : Int32)) (fun v7 => f_X9_breaks_29 T n S5 p0 p1 v7) else some (p2, S5)))))))
set_option maxRecDepth 100000 in
set_option maxHeartbeats 4000000 in
theorem w_X9_breaks_29 {p : Program} {l : Launch} {e : Env} {s : State} {m : MethodId} {args : Array Value} {below : List Frame} {meth : Method} {c : Code} {z : Nat} {D : va_G} {dA : Nat → ClassId} {T : xT} (B : xB p s m args meth c cX9_breaks RX9 3 (some .int) D dA) {q : Int32 × xS} : ∀ (n : Nat), ∀ (S : xS) (H : Heap) (locs : List Loc) (ls : Array Slot) (p0 : Nat) (p1 : Int32) (p2 : Int32), xlk T p0 9 = true → f_X9_breaks_29 T n S p0 p1 p2 = some q → xRel z D dA T S H → va_S (xA z) s.heap H locs → xL ls 3 [some (.ref (z + p0)), some (.int p1), some (.int p2)] → xGi p l e xr_X9_breaks s m args below meth c z D dA T q H locs 29 ls [] := by
  intro n
  induction n with
  | zero =>
    intro S H locs ls p0 p1 p2 k_p0 hf hR hS hl
    exact absurd hf (by simp [f_X9_breaks_29])
  | succ n ih =>
    intro S H locs ls p0 p1 p2 k_p0 hf hR hS hl
    unfold f_X9_breaks_29 at hf
    refine lv_iload_n B.1.1 B.1.2.1 dX9_breaks_29 rfl (hl.at 2 rfl) ?_
    refine lv_iload_n B.1.1 B.1.2.1 dX9_breaks_30 rfl (hl.at 1 rfl) ?_
    refine y_icmp_gt (tgt := 72) B hf dX9_breaks_31 (by decide) (fun hf => ?_) (fun hf => ?_)
    · refine lv_iconst (v := -1) B.1.1 B.1.2.1 dX9_breaks_72 (by decide) ?_
      exact y_iret B hR hS hf dX9_breaks_73
    · refine lv_aload_n B.1.1 B.1.2.1 dX9_breaks_34 rfl (hl.at 0 rfl) ?_
      refine y_getR B hR hf k_p0 fl_X9_70 dX9_breaks_35 (fun a1 k_a1 hf => ?_)
      refine lv_aload_n B.1.1 B.1.2.1 dX9_breaks_38 rfl (hl.at 0 rfl) ?_
      refine y_getR B hR hf k_p0 fl_X9_48 dX9_breaks_39 (fun a2 k_a2 hf => ?_)
      refine y_getR B hR hf k_a2 fl_X9_114 dX9_breaks_42 (fun a3 k_a3 hf => ?_)
      refine y_cv hf (fun q hq => x_runV (ci := 1) (C := RX1) B.1 B.2.2.2 hl hR hS cm_X9_279 ⟨rfl, rfl, Nat.le_of_ble_eq_true rfl, Nat.le_of_ble_eq_true rfl⟩ (by decide) rfl k_a1 (c_X1_copyBooks k_a1 k_a3 hq) rfl rfl (Nat.le_of_ble_eq_true rfl) dX9_breaks_45 ⟨Nat.le_of_ble_eq_true rfl, Nat.le_of_ble_eq_true rfl⟩) hS (fun S4 H locs hf hR hS => ?_)
      refine lv_aload_n B.1.1 B.1.2.1 dX9_breaks_48 rfl (hl.at 0 rfl) ?_
      refine lv_iload_n B.1.1 B.1.2.1 dX9_breaks_49 rfl (hl.at 2 rfl) ?_
      refine lv_ineg B.1.1 B.1.2.1 dX9_breaks_50 ?_
      refine y_cv hf (fun q hq => x_runV (ci := 9) (C := RX9) B.1 B.2.2.2 hl hR hS cm_X9_283 ⟨rfl, rfl, Nat.le_of_ble_eq_true rfl, Nat.le_of_ble_eq_true rfl⟩ (by decide) rfl k_p0 (c_X9_closeOnPaper k_p0 hq) rfl rfl (Nat.le_of_ble_eq_true rfl) dX9_breaks_51 ⟨Nat.le_of_ble_eq_true rfl, Nat.le_of_ble_eq_true rfl⟩) hS (fun S5 H locs hf hR hS => ?_)
      refine lv_aload_n B.1.1 B.1.2.1 dX9_breaks_54 rfl (hl.at 0 rfl) ?_
      refine y_getR B hR hf k_p0 fl_X9_77 dX9_breaks_55 (fun a6 k_a6 hf => ?_)
      refine y_getI B hR k_a6 fl_X9_224 dX9_breaks_58 ?_
      refine y_if_le (tgt := 66) B hf dX9_breaks_61 (by decide) (fun hf => ?_) (fun hf => ?_)
      · refine y_iinc (d := 1) B hl hf dX9_breaks_66 rfl (by decide) (by decide) rfl (fun v7 ls hf hl => ?_)
        have hl : xL ls 3 [_, _, _] := hl
        refine lv_goto (tgt := 29) B.1.1 B.1.2.1 dX9_breaks_69 (by decide) ?_
        exact ih _ _ _ _ _ _ _ k_p0 hf hR hS hl
      · refine lv_iload_n B.1.1 B.1.2.1 dX9_breaks_64 rfl (hl.at 2 rfl) ?_
        exact y_iret B hR hS hf dX9_breaks_65
def f_X9_breaks (T : xT) (S : xS) (p0 : Nat) (p1 : Int32) : Option (Int32 × xS) := if p1 < (1 : Int32) then some ((-1 : Int32), S) else if (200 : Int32) < p1 then some ((-1 : Int32), S) else xgr T S p0 4 5 (fun a1 => xgr T S a1 0 1 (fun a2 => if (S.1 a2 0) = (0 : Int32) then some ((-1 : Int32), S) else xl ((1 : Int32)) (fun v3 => f_X9_breaks_29 T xfu S p0 p1 v3)))
set_option maxRecDepth 100000 in
set_option maxHeartbeats 4000000 in
theorem c_X9_breaks {l : Launch} {z : Nat} {D : va_G} {dA : Nat → ClassId} {T : xT} {S : xS} {p0 : Nat} {p1 : Int32} (k_p0 : xlk T p0 9 = true) {q : Int32 × xS} (hf : f_X9_breaks T S p0 p1 = some q) : Met l yX9_breaks (xws yX9_breaks cX9_breaks 3 (some .int)) xr_X9_breaks (xPc z D dA T S [.ref (z + p0), .int p1]) (xQi z D dA T q) 0 0 (xA z) := by
  refine x_met RX9 (by decide) rfl (Nat.le_of_ble_eq_true rfl) ?_
  intro p e s m below meth c ls _ X hr hlk hml _ hR hS hl
  have B : xB p s m _ meth c cX9_breaks RX9 3 (some .int) D dA := ⟨X, hr, hlk, hml⟩
  have hl : xL ls 3 [_, _, _] := hl
  unfold f_X9_breaks at hf
  refine lv_iload_n B.1.1 B.1.2.1 dX9_breaks_0 rfl (hl.at 1 rfl) ?_
  refine lv_iconst (v := 1) B.1.1 B.1.2.1 dX9_breaks_1 (by decide) ?_
  refine y_icmp_lt (tgt := 25) B hf dX9_breaks_2 (by decide) (fun hf => ?_) (fun hf => ?_)
  · refine lv_iconst (v := -1) B.1.1 B.1.2.1 dX9_breaks_25 (by decide) ?_
    exact y_iret B hR hS hf dX9_breaks_26
  · refine lv_iload_n B.1.1 B.1.2.1 dX9_breaks_5 rfl (hl.at 1 rfl) ?_
    refine lv_sipush (v := 200) B.1.1 B.1.2.1 dX9_breaks_6 (by decide) ?_
    refine y_icmp_gt (tgt := 25) B hf dX9_breaks_9 (by decide) (fun hf => ?_) (fun hf => ?_)
    · refine lv_iconst (v := -1) B.1.1 B.1.2.1 dX9_breaks_25 (by decide) ?_
      exact y_iret B hR hS hf dX9_breaks_26
    · refine lv_aload_n B.1.1 B.1.2.1 dX9_breaks_12 rfl (hl.at 0 rfl) ?_
      refine y_getR B hR hf k_p0 fl_X9_48 dX9_breaks_13 (fun a1 k_a1 hf => ?_)
      refine y_getR B hR hf k_a1 fl_X9_114 dX9_breaks_16 (fun a2 k_a2 hf => ?_)
      refine y_getI B hR k_a2 fl_X9_148 dX9_breaks_19 ?_
      refine y_if_ne (tgt := 27) B hf dX9_breaks_22 (by decide) (fun hf => ?_) (fun hf => ?_)
      · refine lv_iconst (v := 1) B.1.1 B.1.2.1 dX9_breaks_27 (by decide) ?_
        refine y_istore_n B hl hf dX9_breaks_28 rfl (by decide) rfl (fun v3 ls hf hl => ?_)
        have hl : xL ls 3 [_, _, _] := hl
        exact w_X9_breaks_29 B xfu _ _ _ _ _ _ _ k_p0 hf hR hS hl
      · refine lv_iconst (v := -1) B.1.1 B.1.2.1 dX9_breaks_25 (by decide) ?_
        exact y_iret B hR hS hf dX9_breaks_26
abbrev xr_X9_gain : Room := { frames := 3, cells := 0, slots := 0, locals := 54 }
def f_X9_gain (T : xT) (S : xS) (p0 : Nat) (p1 : Int32) : Option (Int32 × xS) := xgr T S p0 4 5 (fun a1 => xgr T S a1 0 1 (fun a2 => if p1 = (-1 : Int32) then xc (f_X1_gainOfAll T S a2) (fun r10 S9 => some (r10, S9)) else xc (f_X1_hasAsset T S a2 p1) (fun r4 S3 => if r4 = (0 : Int32) then some ((-1000000000 : Int32), S3) else xgr T S3 a2 12 20 (fun a5 => xai T S3 a5 p1 (fun v6 => xgr T S3 a2 11 20 (fun a7 => xai T S3 a7 p1 (fun v8 => some ((v6 - v8), S3))))))))
set_option maxRecDepth 100000 in
set_option maxHeartbeats 4000000 in
theorem c_X9_gain {l : Launch} {z : Nat} {D : va_G} {dA : Nat → ClassId} {T : xT} {S : xS} {p0 : Nat} {p1 : Int32} (k_p0 : xlk T p0 9 = true) {q : Int32 × xS} (hf : f_X9_gain T S p0 p1 = some q) : Met l yX9_gain (xws yX9_gain cX9_gain 3 (some .int)) xr_X9_gain (xPc z D dA T S [.ref (z + p0), .int p1]) (xQi z D dA T q) 0 0 (xA z) := by
  refine x_met RX9 (by decide) rfl (Nat.le_of_ble_eq_true rfl) ?_
  intro p e s m below meth c ls _ X hr hlk hml _ hR hS hl
  have B : xB p s m _ meth c cX9_gain RX9 3 (some .int) D dA := ⟨X, hr, hlk, hml⟩
  have hl : xL ls 3 [_, _, _] := hl
  unfold f_X9_gain at hf
  refine lv_aload_n B.1.1 B.1.2.1 dX9_gain_0 rfl (hl.at 0 rfl) ?_
  refine y_getR B hR hf k_p0 fl_X9_48 dX9_gain_1 (fun a1 k_a1 hf => ?_)
  refine y_getR B hR hf k_a1 fl_X9_114 dX9_gain_4 (fun a2 k_a2 hf => ?_)
  refine y_astore_n B hl dX9_gain_7 rfl (by decide) rfl (fun ls hl => ?_)
  have hl : xL ls 3 [_, _, _] := hl
  refine lv_iload_n B.1.1 B.1.2.1 dX9_gain_8 rfl (hl.at 1 rfl) ?_
  refine lv_iconst (v := -1) B.1.1 B.1.2.1 dX9_gain_9 (by decide) ?_
  refine y_icmp_ne (tgt := 18) B hf dX9_gain_10 (by decide) (fun hf => ?_) (fun hf => ?_)
  · refine lv_aload_n B.1.1 B.1.2.1 dX9_gain_18 rfl (hl.at 2 rfl) ?_
    refine lv_iload_n B.1.1 B.1.2.1 dX9_gain_19 rfl (hl.at 1 rfl) ?_
    refine y_ci hf (fun q hq => x_runV (ci := 1) (C := RX1) B.1 B.2.2.2 hl hR hS cm_X9_187 ⟨rfl, rfl, Nat.le_of_ble_eq_true rfl, Nat.le_of_ble_eq_true rfl⟩ (by decide) rfl k_a2 (c_X1_hasAsset k_a2 hq) rfl rfl (Nat.le_of_ble_eq_true rfl) dX9_gain_20 ⟨Nat.le_of_ble_eq_true rfl, Nat.le_of_ble_eq_true rfl⟩) hS (fun r4 S3 H locs hf hR hS => ?_)
    refine y_if_eq (tgt := 42) B hf dX9_gain_23 (by decide) (fun hf => ?_) (fun hf => ?_)
    · refine lv_ldc (v := -1000000000) B.1.1 B.1.2.1 B.1.2.2.1 (B.1.2.2.2.1 _ tw_555) dX9_gain_42 ?_
      exact y_iret B hR hS hf dX9_gain_44
    · refine lv_aload_n B.1.1 B.1.2.1 dX9_gain_26 rfl (hl.at 2 rfl) ?_
      refine y_getR B hR hf k_a2 fl_X9_193 dX9_gain_27 (fun a5 k_a5 hf => ?_)
      refine lv_iload_n B.1.1 B.1.2.1 dX9_gain_30 rfl (hl.at 1 rfl) ?_
      refine y_iald B hR hf k_a5 dX9_gain_31 (fun v6 hf => ?_)
      refine lv_aload_n B.1.1 B.1.2.1 dX9_gain_32 rfl (hl.at 2 rfl) ?_
      refine y_getR B hR hf k_a2 fl_X9_190 dX9_gain_33 (fun a7 k_a7 hf => ?_)
      refine lv_iload_n B.1.1 B.1.2.1 dX9_gain_36 rfl (hl.at 1 rfl) ?_
      refine y_iald B hR hf k_a7 dX9_gain_37 (fun v8 hf => ?_)
      refine lv_isub B.1.1 B.1.2.1 dX9_gain_38 ?_
      refine lv_goto (tgt := 44) B.1.1 B.1.2.1 dX9_gain_39 (by decide) ?_
      exact y_iret B hR hS hf dX9_gain_44
  · refine lv_aload_n B.1.1 B.1.2.1 dX9_gain_13 rfl (hl.at 2 rfl) ?_
    refine y_ci hf (fun q hq => x_runV (ci := 1) (C := RX1) B.1 B.2.2.2 hl hR hS cm_X9_286 ⟨rfl, rfl, Nat.le_of_ble_eq_true rfl, Nat.le_of_ble_eq_true rfl⟩ (by decide) rfl k_a2 (c_X1_gainOfAll k_a2 hq) rfl rfl (Nat.le_of_ble_eq_true rfl) dX9_gain_14 ⟨Nat.le_of_ble_eq_true rfl, Nat.le_of_ble_eq_true rfl⟩) hS (fun r10 S9 H locs hf hR hS => ?_)
    exact y_iret B hR hS hf dX9_gain_17
