abbrev xr_X9_below : Room := { frames := 2, cells := 0, slots := 0, locals := 33 }
def f_X9_below_12 (T : xT) : Nat → xS → Nat → Int32 → Int32 → Option (Int32 × xS)
  | 0, _, _, _, _ => none
  | n + 1, S, p1, p2, p3 => if (8 : Int32) ≤ p3 then some (p2, S) else xc (f_X1_hasPartner T S p1 p3) (fun r2 S1 => if r2 = (0 : Int32) then xl (p3 + (1 : Int32)) (fun v3 => f_X9_below_12 T n S1 p1 p2 v3) else xgr T S1 p1 6 20 (fun a4 => xai T S1 a4 p3 (fun v5 => xc (f_X1_floorOf T S1 p1 p3) (fun r7 S6 => if r7 ≤ v5 then xl (p3 + (1 : Int32)) (fun v8 => f_X9_below_12 T n S6 p1 p2 v8) else xl ((p2 ||| ((1 : Int32) <<< (p3 &&& 31)))) (fun v9 => xl (p3 + (1 : Int32)) (fun v10 => f_X9_below_12 T n S6 p1 v9 v10))))))
set_option maxRecDepth 100000 in
set_option maxHeartbeats 4000000 in
theorem w_X9_below_12 {p : Program} {l : Launch} {e : Env} {s : State} {m : MethodId} {args : Array Value} {below : List Frame} {meth : Method} {c : Code} {z : Nat} {D : va_G} {dA : Nat → ClassId} {T : xT} (B : xB p s m args meth c cX9_below RX9 4 (some .int) D dA) {q : Int32 × xS} : ∀ (n : Nat), ∀ (S : xS) (H : Heap) (locs : List Loc) (ls : Array Slot) (p1 : Nat) (p2 : Int32) (p3 : Int32), xlk T p1 1 = true → f_X9_below_12 T n S p1 p2 p3 = some q → xRel z D dA T S H → va_S (xA z) s.heap H locs → xL ls 4 [none, some (.ref (z + p1)), some (.int p2), some (.int p3)] → xGi p l e xr_X9_below s m args below meth c z D dA T q H locs 12 ls [] := by
  intro n
  induction n with
  | zero =>
    intro S H locs ls p1 p2 p3 k_p1 hf hR hS hl
    exact absurd hf (by simp [f_X9_below_12])
  | succ n ih =>
    intro S H locs ls p1 p2 p3 k_p1 hf hR hS hl
    unfold f_X9_below_12 at hf
    refine lv_iload_n B.1.1 B.1.2.1 dX9_below_12 rfl (hl.at 3 rfl) ?_
    refine lv_bipush (v := 8) B.1.1 B.1.2.1 dX9_below_13 (by decide) ?_
    refine y_icmp_ge (tgt := 52) B hf dX9_below_15 (by decide) (fun hf => ?_) (fun hf => ?_)
    · refine lv_iload_n B.1.1 B.1.2.1 dX9_below_52 rfl (hl.at 2 rfl) ?_
      exact y_iret B hR hS hf dX9_below_53
    · refine lv_aload_n B.1.1 B.1.2.1 dX9_below_18 rfl (hl.at 1 rfl) ?_
      refine lv_iload_n B.1.1 B.1.2.1 dX9_below_19 rfl (hl.at 3 rfl) ?_
      refine y_ci hf (fun q hq => x_runV (ci := 1) (C := RX1) B.1 B.2.2.2 hl hR hS cm_X9_117 ⟨rfl, rfl, Nat.le_of_ble_eq_true rfl, Nat.le_of_ble_eq_true rfl⟩ (by decide) rfl k_p1 (c_X1_hasPartner k_p1 hq) rfl rfl (Nat.le_of_ble_eq_true rfl) dX9_below_20 ⟨Nat.le_of_ble_eq_true rfl, Nat.le_of_ble_eq_true rfl⟩) hS (fun r2 S1 H locs hf hR hS => ?_)
      refine y_if_eq (tgt := 46) B hf dX9_below_23 (by decide) (fun hf => ?_) (fun hf => ?_)
      · refine y_iinc (d := 1) B hl hf dX9_below_46 rfl (by decide) (by decide) rfl (fun v3 ls hf hl => ?_)
        have hl : xL ls 4 [_, _, _, _] := hl
        refine lv_goto (tgt := 12) B.1.1 B.1.2.1 dX9_below_49 (by decide) ?_
        exact ih _ _ _ _ _ _ _ k_p1 hf hR hS hl
      · refine lv_aload_n B.1.1 B.1.2.1 dX9_below_26 rfl (hl.at 1 rfl) ?_
        refine y_getR B hR hf k_p1 fl_X9_154 dX9_below_27 (fun a4 k_a4 hf => ?_)
        refine lv_iload_n B.1.1 B.1.2.1 dX9_below_30 rfl (hl.at 3 rfl) ?_
        refine y_iald B hR hf k_a4 dX9_below_31 (fun v5 hf => ?_)
        refine lv_aload_n B.1.1 B.1.2.1 dX9_below_32 rfl (hl.at 1 rfl) ?_
        refine lv_iload_n B.1.1 B.1.2.1 dX9_below_33 rfl (hl.at 3 rfl) ?_
        refine y_ci hf (fun q hq => x_runV (ci := 1) (C := RX1) B.1 B.2.2.2 hl hR hS cm_X9_176 ⟨rfl, rfl, Nat.le_of_ble_eq_true rfl, Nat.le_of_ble_eq_true rfl⟩ (by decide) rfl k_p1 (c_X1_floorOf k_p1 hq) rfl rfl (Nat.le_of_ble_eq_true rfl) dX9_below_34 ⟨Nat.le_of_ble_eq_true rfl, Nat.le_of_ble_eq_true rfl⟩) hS (fun r7 S6 H locs hf hR hS => ?_)
        refine y_icmp_ge (tgt := 46) B hf dX9_below_37 (by decide) (fun hf => ?_) (fun hf => ?_)
        · refine y_iinc (d := 1) B hl hf dX9_below_46 rfl (by decide) (by decide) rfl (fun v8 ls hf hl => ?_)
          have hl : xL ls 4 [_, _, _, _] := hl
          refine lv_goto (tgt := 12) B.1.1 B.1.2.1 dX9_below_49 (by decide) ?_
          exact ih _ _ _ _ _ _ _ k_p1 hf hR hS hl
        · refine lv_iload_n B.1.1 B.1.2.1 dX9_below_40 rfl (hl.at 2 rfl) ?_
          refine lv_iconst (v := 1) B.1.1 B.1.2.1 dX9_below_41 (by decide) ?_
          refine lv_iload_n B.1.1 B.1.2.1 dX9_below_42 rfl (hl.at 3 rfl) ?_
          refine lv_ishl B.1.1 B.1.2.1 dX9_below_43 ?_
          refine lv_ior B.1.1 B.1.2.1 dX9_below_44 ?_
          refine y_istore_n B hl hf dX9_below_45 rfl (by decide) rfl (fun v9 ls hf hl => ?_)
          have hl : xL ls 4 [_, _, _, _] := hl
          refine y_iinc (d := 1) B hl hf dX9_below_46 rfl (by decide) (by decide) rfl (fun v10 ls hf hl => ?_)
          have hl : xL ls 4 [_, _, _, _] := hl
          refine lv_goto (tgt := 12) B.1.1 B.1.2.1 dX9_below_49 (by decide) ?_
          exact ih _ _ _ _ _ _ _ k_p1 hf hR hS hl
def f_X9_below (T : xT) (S : xS) (p0 : Nat) : Option (Int32 × xS) := xgr T S p0 4 5 (fun a1 => xgr T S a1 0 1 (fun a2 => xl ((0 : Int32)) (fun v3 => xl ((0 : Int32)) (fun v4 => f_X9_below_12 T xfu S a2 v3 v4))))
set_option maxRecDepth 100000 in
set_option maxHeartbeats 4000000 in
theorem c_X9_below {l : Launch} {z : Nat} {D : va_G} {dA : Nat → ClassId} {T : xT} {S : xS} {p0 : Nat} (k_p0 : xlk T p0 9 = true) {q : Int32 × xS} (hf : f_X9_below T S p0 = some q) : Met l yX9_below (xws yX9_below cX9_below 4 (some .int)) xr_X9_below (xPc z D dA T S [.ref (z + p0)]) (xQi z D dA T q) 0 0 (xA z) := by
  refine x_met RX9 (by decide) rfl (Nat.le_of_ble_eq_true rfl) ?_
  intro p e s m below meth c ls _ X hr hlk hml _ hR hS hl
  have B : xB p s m _ meth c cX9_below RX9 4 (some .int) D dA := ⟨X, hr, hlk, hml⟩
  have hl : xL ls 4 [_, _, _, _] := hl
  unfold f_X9_below at hf
  refine lv_aload_n B.1.1 B.1.2.1 dX9_below_0 rfl (hl.at 0 rfl) ?_
  refine y_getR B hR hf k_p0 fl_X9_48 dX9_below_1 (fun a1 k_a1 hf => ?_)
  refine y_getR B hR hf k_a1 fl_X9_114 dX9_below_4 (fun a2 k_a2 hf => ?_)
  refine y_astore_n B hl dX9_below_7 rfl (by decide) rfl (fun ls hl => ?_)
  have hl : xL ls 4 [_, _, _, _] := hl
  refine lv_iconst (v := 0) B.1.1 B.1.2.1 dX9_below_8 (by decide) ?_
  refine y_istore_n B hl hf dX9_below_9 rfl (by decide) rfl (fun v3 ls hf hl => ?_)
  have hl : xL ls 4 [_, _, _, _] := hl
  refine lv_iconst (v := 0) B.1.1 B.1.2.1 dX9_below_10 (by decide) ?_
  refine y_istore_n B hl hf dX9_below_11 rfl (by decide) rfl (fun v4 ls hf hl => ?_)
  have hl : xL ls 4 [_, _, _, _] := hl
  exact w_X9_below_12 B xfu _ _ _ _ _ _ _ k_a2 hf hR hS (hl.drop [false, true, true, true] rfl)
abbrev xr_X9_tried : Room := { frames := 8, cells := 0, slots := 0, locals := 185 }
def f_X9_tried (T : xT) (S : xS) (p0 : Nat) (p1 : Int32) (p2 : Int32) : Option (Int32 × xS) := if p2 < (-1000000 : Int32) then some ((-1000000000 : Int32), S) else if (1000000 : Int32) < p2 then some ((-1000000000 : Int32), S) else xgr T S p0 4 5 (fun a1 => xgr T S a1 0 1 (fun a2 => xc (f_X1_hasPartner T S a2 p1) (fun r4 S3 => if r4 = (0 : Int32) then some ((-1000000000 : Int32), S3) else xgr T S3 p0 9 1 (fun a5 => xgr T S3 p0 4 5 (fun a6 => xgr T S3 a6 0 1 (fun a7 => xcv (f_X1_copyBooks T S3 a5 a7) (fun S8 => xcv (f_X9_closeOnPaper T S8 p0 p2) (fun S9 => xgr T S9 p0 9 1 (fun a10 => xgr T S9 a10 6 20 (fun a11 => xai T S9 a11 p1 (fun v12 => some (v12, S9))))))))))))
set_option maxRecDepth 100000 in
set_option maxHeartbeats 4000000 in
theorem c_X9_tried {l : Launch} {z : Nat} {D : va_G} {dA : Nat → ClassId} {T : xT} {S : xS} {p0 : Nat} {p1 : Int32} {p2 : Int32} (k_p0 : xlk T p0 9 = true) {q : Int32 × xS} (hf : f_X9_tried T S p0 p1 p2 = some q) : Met l yX9_tried (xws yX9_tried cX9_tried 3 (some .int)) xr_X9_tried (xPc z D dA T S [.ref (z + p0), .int p1, .int p2]) (xQi z D dA T q) 0 0 (xA z) := by
  refine x_met RX9 (by decide) rfl (Nat.le_of_ble_eq_true rfl) ?_
  intro p e s m below meth c ls _ X hr hlk hml _ hR hS hl
  have B : xB p s m _ meth c cX9_tried RX9 3 (some .int) D dA := ⟨X, hr, hlk, hml⟩
  have hl : xL ls 3 [_, _, _] := hl
  unfold f_X9_tried at hf
  refine lv_iload_n B.1.1 B.1.2.1 dX9_tried_0 rfl (hl.at 2 rfl) ?_
  refine lv_ldcw (v := -1000000) B.1.1 B.1.2.1 B.1.2.2.1 (B.1.2.2.2.1 _ tw_634) dX9_tried_1 ?_
  refine y_icmp_lt (tgt := 28) B hf dX9_tried_4 (by decide) (fun hf => ?_) (fun hf => ?_)
  · refine lv_ldc (v := -1000000000) B.1.1 B.1.2.1 B.1.2.2.1 (B.1.2.2.2.1 _ tw_555) dX9_tried_28 ?_
    exact y_iret B hR hS hf dX9_tried_30
  · refine lv_iload_n B.1.1 B.1.2.1 dX9_tried_7 rfl (hl.at 2 rfl) ?_
    refine lv_ldcw (v := 1000000) B.1.1 B.1.2.1 B.1.2.2.1 (B.1.2.2.2.1 _ tw_635) dX9_tried_8 ?_
    refine y_icmp_gt (tgt := 28) B hf dX9_tried_11 (by decide) (fun hf => ?_) (fun hf => ?_)
    · refine lv_ldc (v := -1000000000) B.1.1 B.1.2.1 B.1.2.2.1 (B.1.2.2.2.1 _ tw_555) dX9_tried_28 ?_
      exact y_iret B hR hS hf dX9_tried_30
    · refine lv_aload_n B.1.1 B.1.2.1 dX9_tried_14 rfl (hl.at 0 rfl) ?_
      refine y_getR B hR hf k_p0 fl_X9_48 dX9_tried_15 (fun a1 k_a1 hf => ?_)
      refine y_getR B hR hf k_a1 fl_X9_114 dX9_tried_18 (fun a2 k_a2 hf => ?_)
      refine lv_iload_n B.1.1 B.1.2.1 dX9_tried_21 rfl (hl.at 1 rfl) ?_
      refine y_ci hf (fun q hq => x_runV (ci := 1) (C := RX1) B.1 B.2.2.2 hl hR hS cm_X9_117 ⟨rfl, rfl, Nat.le_of_ble_eq_true rfl, Nat.le_of_ble_eq_true rfl⟩ (by decide) rfl k_a2 (c_X1_hasPartner k_a2 hq) rfl rfl (Nat.le_of_ble_eq_true rfl) dX9_tried_22 ⟨Nat.le_of_ble_eq_true rfl, Nat.le_of_ble_eq_true rfl⟩) hS (fun r4 S3 H locs hf hR hS => ?_)
      refine y_if_ne (tgt := 31) B hf dX9_tried_25 (by decide) (fun hf => ?_) (fun hf => ?_)
      · refine lv_aload_n B.1.1 B.1.2.1 dX9_tried_31 rfl (hl.at 0 rfl) ?_
        refine y_getR B hR hf k_p0 fl_X9_70 dX9_tried_32 (fun a5 k_a5 hf => ?_)
        refine lv_aload_n B.1.1 B.1.2.1 dX9_tried_35 rfl (hl.at 0 rfl) ?_
        refine y_getR B hR hf k_p0 fl_X9_48 dX9_tried_36 (fun a6 k_a6 hf => ?_)
        refine y_getR B hR hf k_a6 fl_X9_114 dX9_tried_39 (fun a7 k_a7 hf => ?_)
        refine y_cv hf (fun q hq => x_runV (ci := 1) (C := RX1) B.1 B.2.2.2 hl hR hS cm_X9_279 ⟨rfl, rfl, Nat.le_of_ble_eq_true rfl, Nat.le_of_ble_eq_true rfl⟩ (by decide) rfl k_a5 (c_X1_copyBooks k_a5 k_a7 hq) rfl rfl (Nat.le_of_ble_eq_true rfl) dX9_tried_42 ⟨Nat.le_of_ble_eq_true rfl, Nat.le_of_ble_eq_true rfl⟩) hS (fun S8 H locs hf hR hS => ?_)
        refine lv_aload_n B.1.1 B.1.2.1 dX9_tried_45 rfl (hl.at 0 rfl) ?_
        refine lv_iload_n B.1.1 B.1.2.1 dX9_tried_46 rfl (hl.at 2 rfl) ?_
        refine y_cv hf (fun q hq => x_runV (ci := 9) (C := RX9) B.1 B.2.2.2 hl hR hS cm_X9_283 ⟨rfl, rfl, Nat.le_of_ble_eq_true rfl, Nat.le_of_ble_eq_true rfl⟩ (by decide) rfl k_p0 (c_X9_closeOnPaper k_p0 hq) rfl rfl (Nat.le_of_ble_eq_true rfl) dX9_tried_47 ⟨Nat.le_of_ble_eq_true rfl, Nat.le_of_ble_eq_true rfl⟩) hS (fun S9 H locs hf hR hS => ?_)
        refine lv_aload_n B.1.1 B.1.2.1 dX9_tried_50 rfl (hl.at 0 rfl) ?_
        refine y_getR B hR hf k_p0 fl_X9_70 dX9_tried_51 (fun a10 k_a10 hf => ?_)
        refine y_getR B hR hf k_a10 fl_X9_154 dX9_tried_54 (fun a11 k_a11 hf => ?_)
        refine lv_iload_n B.1.1 B.1.2.1 dX9_tried_57 rfl (hl.at 1 rfl) ?_
        refine y_iald B hR hf k_a11 dX9_tried_58 (fun v12 hf => ?_)
        exact y_iret B hR hS hf dX9_tried_59
      · refine lv_ldc (v := -1000000000) B.1.1 B.1.2.1 B.1.2.2.1 (B.1.2.2.2.1 _ tw_555) dX9_tried_28 ?_
        exact y_iret B hR hS hf dX9_tried_30
abbrev xr_X9_even : Room := { frames := 8, cells := 0, slots := 0, locals := 185 }
def f_X9_even_30 (T : xT) : Nat → xS → Nat → Int32 → Int32 → Int32 → Int32 → Option (Int32 × xS)
  | 0, _, _, _, _, _, _ => none
  | n + 1, S, p0, p1, p2, p3, p4 => if p3 < p4 then some ((-1 : Int32), S) else xgr T S p0 9 1 (fun a1 => xgr T S p0 4 5 (fun a2 => xgr T S a2 0 1 (fun a3 => xcv (f_X1_copyBooks T S a1 a3) (fun S4 => xcv (f_X9_closeOnPaper T S4 p0 p4) (fun S5 => xgr T S5 p0 9 1 (fun a6 => xgr T S5 a6 6 20 (fun a7 => xai T S5 a7 p1 (fun v8 => if v8 < p2 then xl (p4 + (1 : Int32)) (fun v9 => f_X9_even_30 T n S5 p0 p1 p2 p3 v9) else some (p4, S5)))))))))
set_option maxRecDepth 100000 in
set_option maxHeartbeats 4000000 in
theorem w_X9_even_30 {p : Program} {l : Launch} {e : Env} {s : State} {m : MethodId} {args : Array Value} {below : List Frame} {meth : Method} {c : Code} {z : Nat} {D : va_G} {dA : Nat → ClassId} {T : xT} (B : xB p s m args meth c cX9_even RX9 5 (some .int) D dA) {q : Int32 × xS} : ∀ (n : Nat), ∀ (S : xS) (H : Heap) (locs : List Loc) (ls : Array Slot) (p0 : Nat) (p1 : Int32) (p2 : Int32) (p3 : Int32) (p4 : Int32), xlk T p0 9 = true → f_X9_even_30 T n S p0 p1 p2 p3 p4 = some q → xRel z D dA T S H → va_S (xA z) s.heap H locs → xL ls 5 [some (.ref (z + p0)), some (.int p1), some (.int p2), some (.int p3), some (.int p4)] → xGi p l e xr_X9_even s m args below meth c z D dA T q H locs 30 ls [] := by
  intro n
  induction n with
  | zero =>
    intro S H locs ls p0 p1 p2 p3 p4 k_p0 hf hR hS hl
    exact absurd hf (by simp [f_X9_even_30])
  | succ n ih =>
    intro S H locs ls p0 p1 p2 p3 p4 k_p0 hf hR hS hl
    unfold f_X9_even_30 at hf
    refine lv_iload B.1.1 B.1.2.1 dX9_even_30 (hl.at 4 rfl) ?_
    refine lv_iload_n B.1.1 B.1.2.1 dX9_even_32 rfl (hl.at 3 rfl) ?_
    refine y_icmp_gt (tgt := 78) B hf dX9_even_33 (by decide) (fun hf => ?_) (fun hf => ?_)
    · refine lv_iconst (v := -1) B.1.1 B.1.2.1 dX9_even_78 (by decide) ?_
      exact y_iret B hR hS hf dX9_even_79
    · refine lv_aload_n B.1.1 B.1.2.1 dX9_even_36 rfl (hl.at 0 rfl) ?_
      refine y_getR B hR hf k_p0 fl_X9_70 dX9_even_37 (fun a1 k_a1 hf => ?_)
      refine lv_aload_n B.1.1 B.1.2.1 dX9_even_40 rfl (hl.at 0 rfl) ?_
      refine y_getR B hR hf k_p0 fl_X9_48 dX9_even_41 (fun a2 k_a2 hf => ?_)
      refine y_getR B hR hf k_a2 fl_X9_114 dX9_even_44 (fun a3 k_a3 hf => ?_)
      refine y_cv hf (fun q hq => x_runV (ci := 1) (C := RX1) B.1 B.2.2.2 hl hR hS cm_X9_279 ⟨rfl, rfl, Nat.le_of_ble_eq_true rfl, Nat.le_of_ble_eq_true rfl⟩ (by decide) rfl k_a1 (c_X1_copyBooks k_a1 k_a3 hq) rfl rfl (Nat.le_of_ble_eq_true rfl) dX9_even_47 ⟨Nat.le_of_ble_eq_true rfl, Nat.le_of_ble_eq_true rfl⟩) hS (fun S4 H locs hf hR hS => ?_)
      refine lv_aload_n B.1.1 B.1.2.1 dX9_even_50 rfl (hl.at 0 rfl) ?_
      refine lv_iload B.1.1 B.1.2.1 dX9_even_51 (hl.at 4 rfl) ?_
      refine y_cv hf (fun q hq => x_runV (ci := 9) (C := RX9) B.1 B.2.2.2 hl hR hS cm_X9_283 ⟨rfl, rfl, Nat.le_of_ble_eq_true rfl, Nat.le_of_ble_eq_true rfl⟩ (by decide) rfl k_p0 (c_X9_closeOnPaper k_p0 hq) rfl rfl (Nat.le_of_ble_eq_true rfl) dX9_even_53 ⟨Nat.le_of_ble_eq_true rfl, Nat.le_of_ble_eq_true rfl⟩) hS (fun S5 H locs hf hR hS => ?_)
      refine lv_aload_n B.1.1 B.1.2.1 dX9_even_56 rfl (hl.at 0 rfl) ?_
      refine y_getR B hR hf k_p0 fl_X9_70 dX9_even_57 (fun a6 k_a6 hf => ?_)
      refine y_getR B hR hf k_a6 fl_X9_154 dX9_even_60 (fun a7 k_a7 hf => ?_)
      refine lv_iload_n B.1.1 B.1.2.1 dX9_even_63 rfl (hl.at 1 rfl) ?_
      refine y_iald B hR hf k_a7 dX9_even_64 (fun v8 hf => ?_)
      refine lv_iload_n B.1.1 B.1.2.1 dX9_even_65 rfl (hl.at 2 rfl) ?_
      refine y_icmp_lt (tgt := 72) B hf dX9_even_66 (by decide) (fun hf => ?_) (fun hf => ?_)
      · refine y_iinc (d := 1) B hl hf dX9_even_72 rfl (by decide) (by decide) rfl (fun v9 ls hf hl => ?_)
        have hl : xL ls 5 [_, _, _, _, _] := hl
        refine lv_goto (tgt := 30) B.1.1 B.1.2.1 dX9_even_75 (by decide) ?_
        exact ih _ _ _ _ _ _ _ _ _ k_p0 hf hR hS hl
      · refine lv_iload B.1.1 B.1.2.1 dX9_even_69 (hl.at 4 rfl) ?_
        exact y_iret B hR hS hf dX9_even_71
def f_X9_even (T : xT) (S : xS) (p0 : Nat) (p1 : Int32) (p2 : Int32) (p3 : Int32) : Option (Int32 × xS) := if p3 < (0 : Int32) then some ((-1 : Int32), S) else if (200 : Int32) < p3 then some ((-1 : Int32), S) else xgr T S p0 4 5 (fun a1 => xgr T S a1 0 1 (fun a2 => xc (f_X1_hasPartner T S a2 p1) (fun r4 S3 => if r4 = (0 : Int32) then some ((-1 : Int32), S3) else xl ((0 : Int32)) (fun v5 => f_X9_even_30 T xfu S3 p0 p1 p2 p3 v5))))
set_option maxRecDepth 100000 in
set_option maxHeartbeats 4000000 in
theorem c_X9_even {l : Launch} {z : Nat} {D : va_G} {dA : Nat → ClassId} {T : xT} {S : xS} {p0 : Nat} {p1 : Int32} {p2 : Int32} {p3 : Int32} (k_p0 : xlk T p0 9 = true) {q : Int32 × xS} (hf : f_X9_even T S p0 p1 p2 p3 = some q) : Met l yX9_even (xws yX9_even cX9_even 5 (some .int)) xr_X9_even (xPc z D dA T S [.ref (z + p0), .int p1, .int p2, .int p3]) (xQi z D dA T q) 0 0 (xA z) := by
  refine x_met RX9 (by decide) rfl (Nat.le_of_ble_eq_true rfl) ?_
  intro p e s m below meth c ls _ X hr hlk hml _ hR hS hl
  have B : xB p s m _ meth c cX9_even RX9 5 (some .int) D dA := ⟨X, hr, hlk, hml⟩
  have hl : xL ls 5 [_, _, _, _, _] := hl
  unfold f_X9_even at hf
  refine lv_iload_n B.1.1 B.1.2.1 dX9_even_0 rfl (hl.at 3 rfl) ?_
  refine y_if_lt (tgt := 25) B hf dX9_even_1 (by decide) (fun hf => ?_) (fun hf => ?_)
  · refine lv_iconst (v := -1) B.1.1 B.1.2.1 dX9_even_25 (by decide) ?_
    exact y_iret B hR hS hf dX9_even_26
  · refine lv_iload_n B.1.1 B.1.2.1 dX9_even_4 rfl (hl.at 3 rfl) ?_
    refine lv_sipush (v := 200) B.1.1 B.1.2.1 dX9_even_5 (by decide) ?_
    refine y_icmp_gt (tgt := 25) B hf dX9_even_8 (by decide) (fun hf => ?_) (fun hf => ?_)
    · refine lv_iconst (v := -1) B.1.1 B.1.2.1 dX9_even_25 (by decide) ?_
      exact y_iret B hR hS hf dX9_even_26
    · refine lv_aload_n B.1.1 B.1.2.1 dX9_even_11 rfl (hl.at 0 rfl) ?_
      refine y_getR B hR hf k_p0 fl_X9_48 dX9_even_12 (fun a1 k_a1 hf => ?_)
      refine y_getR B hR hf k_a1 fl_X9_114 dX9_even_15 (fun a2 k_a2 hf => ?_)
      refine lv_iload_n B.1.1 B.1.2.1 dX9_even_18 rfl (hl.at 1 rfl) ?_
      refine y_ci hf (fun q hq => x_runV (ci := 1) (C := RX1) B.1 B.2.2.2 hl hR hS cm_X9_117 ⟨rfl, rfl, Nat.le_of_ble_eq_true rfl, Nat.le_of_ble_eq_true rfl⟩ (by decide) rfl k_a2 (c_X1_hasPartner k_a2 hq) rfl rfl (Nat.le_of_ble_eq_true rfl) dX9_even_19 ⟨Nat.le_of_ble_eq_true rfl, Nat.le_of_ble_eq_true rfl⟩) hS (fun r4 S3 H locs hf hR hS => ?_)
      refine y_if_ne (tgt := 27) B hf dX9_even_22 (by decide) (fun hf => ?_) (fun hf => ?_)
      · refine lv_iconst (v := 0) B.1.1 B.1.2.1 dX9_even_27 (by decide) ?_
        refine y_istore B hl hf dX9_even_28 (by decide) rfl (fun v5 ls hf hl => ?_)
        have hl : xL ls 5 [_, _, _, _, _] := hl
        exact w_X9_even_30 B xfu _ _ _ _ _ _ _ _ _ k_p0 hf hR hS hl
      · refine lv_iconst (v := -1) B.1.1 B.1.2.1 dX9_even_25 (by decide) ?_
        exact y_iret B hR hS hf dX9_even_26
abbrev xr_X9_back : Room := { frames := 4, cells := 0, slots := 0, locals := 100 }
def f_X9_back (T : xT) (S : xS) (p0 : Nat) : Option (Int32 × xS) := if (S.1 p0 6) = (0 : Int32) then some ((-1 : Int32), S) else xgd (xn0 (12 : Int32)) (xpi S p0 7 (((((S.1 p0 7) + (12 : Int32)) - (1 : Int32)) - (((S.1 p0 7) + (12 : Int32)) - (1 : Int32)) / (12 : Int32) * (12 : Int32))) (fun S1 => xpi S1 p0 6 (((S1.1 p0 6) - (1 : Int32))) (fun S2 => xgr T S2 p0 4 5 (fun a3 => xgr T S2 p0 5 25 (fun a4 => xar T S2 a4 ((S2.1 p0 7)) 5 (fun a5 => xcv (f_X5_copyState T S2 a3 a5) (fun S6 => some ((S6.1 p0 6), S6))))))))
set_option maxRecDepth 100000 in
set_option maxHeartbeats 4000000 in
theorem c_X9_back {l : Launch} {z : Nat} {D : va_G} {dA : Nat → ClassId} {T : xT} {S : xS} {p0 : Nat} (k_p0 : xlk T p0 9 = true) {q : Int32 × xS} (hf : f_X9_back T S p0 = some q) : Met l yX9_back (xws yX9_back cX9_back 1 (some .int)) xr_X9_back (xPc z D dA T S [.ref (z + p0)]) (xQi z D dA T q) 0 0 (xA z) := by
  refine x_met RX9 (by decide) rfl (Nat.le_of_ble_eq_true rfl) ?_
  intro p e s m below meth c ls _ X hr hlk hml _ hR hS hl
  have B : xB p s m _ meth c cX9_back RX9 1 (some .int) D dA := ⟨X, hr, hlk, hml⟩
  have hl : xL ls 1 [_] := hl
  unfold f_X9_back at hf
  refine lv_aload_n B.1.1 B.1.2.1 dX9_back_0 rfl (hl.at 0 rfl) ?_
  refine y_getI B hR k_p0 fl_X9_167 dX9_back_1 ?_
  refine y_if_ne (tgt := 9) B hf dX9_back_4 (by decide) (fun hf => ?_) (fun hf => ?_)
  · refine lv_aload_n B.1.1 B.1.2.1 dX9_back_9 rfl (hl.at 0 rfl) ?_
    refine lv_aload_n B.1.1 B.1.2.1 dX9_back_10 rfl (hl.at 0 rfl) ?_
    refine y_getI B hR k_p0 fl_X9_291 dX9_back_11 ?_
    refine lv_bipush (v := 12) B.1.1 B.1.2.1 dX9_back_14 (by decide) ?_
    refine lv_iadd B.1.1 B.1.2.1 dX9_back_16 ?_
    refine lv_iconst (v := 1) B.1.1 B.1.2.1 dX9_back_17 (by decide) ?_
    refine lv_isub B.1.1 B.1.2.1 dX9_back_18 ?_
    refine lv_bipush (v := 12) B.1.1 B.1.2.1 dX9_back_19 (by decide) ?_
    refine y_irem B hf dX9_back_21 (fun hf => ?_)
    refine y_putI B hR hS hf k_p0 fp_X9_291 dX9_back_22 (fun S1 H locs hf hR hS => ?_)
    refine lv_aload_n B.1.1 B.1.2.1 dX9_back_25 rfl (hl.at 0 rfl) ?_
    refine lv_dup B.1.1 B.1.2.1 dX9_back_26 rfl ?_
    refine y_getI B hR k_p0 fl_X9_167 dX9_back_27 ?_
    refine lv_iconst (v := 1) B.1.1 B.1.2.1 dX9_back_30 (by decide) ?_
    refine lv_isub B.1.1 B.1.2.1 dX9_back_31 ?_
    refine y_putI B hR hS hf k_p0 fp_X9_167 dX9_back_32 (fun S2 H locs hf hR hS => ?_)
    refine lv_aload_n B.1.1 B.1.2.1 dX9_back_35 rfl (hl.at 0 rfl) ?_
    refine y_getR B hR hf k_p0 fl_X9_48 dX9_back_36 (fun a3 k_a3 hf => ?_)
    refine lv_aload_n B.1.1 B.1.2.1 dX9_back_39 rfl (hl.at 0 rfl) ?_
    refine y_getR B hR hf k_p0 fl_X9_52 dX9_back_40 (fun a4 k_a4 hf => ?_)
    refine lv_aload_n B.1.1 B.1.2.1 dX9_back_43 rfl (hl.at 0 rfl) ?_
    refine y_getI B hR k_p0 fl_X9_291 dX9_back_44 ?_
    refine y_aald B hR hf k_a4 dX9_back_47 (fun a5 k_a5 hf => ?_)
    refine y_cv hf (fun q hq => x_runV (ci := 5) (C := RX5) B.1 B.2.2.2 hl hR hS cm_X9_294 ⟨rfl, rfl, Nat.le_of_ble_eq_true rfl, Nat.le_of_ble_eq_true rfl⟩ (by decide) rfl k_a3 (c_X5_copyState k_a3 k_a5 hq) rfl rfl (Nat.le_of_ble_eq_true rfl) dX9_back_48 ⟨Nat.le_of_ble_eq_true rfl, Nat.le_of_ble_eq_true rfl⟩) hS (fun S6 H locs hf hR hS => ?_)
    refine lv_aload_n B.1.1 B.1.2.1 dX9_back_51 rfl (hl.at 0 rfl) ?_
    refine y_getI B hR k_p0 fl_X9_167 dX9_back_52 ?_
    exact y_iret B hR hS hf dX9_back_55
  · refine lv_iconst (v := -1) B.1.1 B.1.2.1 dX9_back_7 (by decide) ?_
    exact y_iret B hR hS hf dX9_back_8
abbrev xr_X9_fills : Room := { frames := 4, cells := 0, slots := 0, locals := 89 }
def f_X9_fills (T : xT) (S : xS) (p0 : Nat) (p1 : Int32) (p2 : Int32) : Option (Int32 × xS) := if p1 < (0 : Int32) then some ((-1000000000 : Int32), S) else if (100000000 : Int32) < p1 then some ((-1000000000 : Int32), S) else xgr T S p0 4 5 (fun a1 => xgr T S a1 0 1 (fun a2 => if (S.1 a2 0) = (0 : Int32) then some ((-1000000000 : Int32), S) else xgr T S p0 1 2 (fun a3 => xgr T S p0 4 5 (fun a4 => xgr T S a4 0 1 (fun a5 => xgr T S p0 4 5 (fun a6 => xgr T S a6 2 8 (fun a7 => xcv (f_X2_sellAll T S a3 p1 a5 a7) (fun S8 => if p2 = (0 : Int32) then xgr T S8 p0 1 2 (fun a10 => some ((S8.1 a10 2), S8)) else if p2 = (1 : Int32) then xgr T S8 p0 1 2 (fun a12 => some ((S8.1 a12 3), S8)) else some ((-1000000000 : Int32), S8)))))))))
set_option maxRecDepth 100000 in
set_option maxHeartbeats 4000000 in
theorem c_X9_fills {l : Launch} {z : Nat} {D : va_G} {dA : Nat → ClassId} {T : xT} {S : xS} {p0 : Nat} {p1 : Int32} {p2 : Int32} (k_p0 : xlk T p0 9 = true) {q : Int32 × xS} (hf : f_X9_fills T S p0 p1 p2 = some q) : Met l yX9_fills (xws yX9_fills cX9_fills 3 (some .int)) xr_X9_fills (xPc z D dA T S [.ref (z + p0), .int p1, .int p2]) (xQi z D dA T q) 0 0 (xA z) := by
  refine x_met RX9 (by decide) rfl (Nat.le_of_ble_eq_true rfl) ?_
  intro p e s m below meth c ls _ X hr hlk hml _ hR hS hl
  have B : xB p s m _ meth c cX9_fills RX9 3 (some .int) D dA := ⟨X, hr, hlk, hml⟩
  have hl : xL ls 3 [_, _, _] := hl
  unfold f_X9_fills at hf
  refine lv_iload_n B.1.1 B.1.2.1 dX9_fills_0 rfl (hl.at 1 rfl) ?_
  refine y_if_lt (tgt := 23) B hf dX9_fills_1 (by decide) (fun hf => ?_) (fun hf => ?_)
  · refine lv_ldc (v := -1000000000) B.1.1 B.1.2.1 B.1.2.2.1 (B.1.2.2.2.1 _ tw_555) dX9_fills_23 ?_
    exact y_iret B hR hS hf dX9_fills_25
  · refine lv_iload_n B.1.1 B.1.2.1 dX9_fills_4 rfl (hl.at 1 rfl) ?_
    refine lv_ldc (v := 100000000) B.1.1 B.1.2.1 B.1.2.2.1 (B.1.2.2.2.1 _ tw_550) dX9_fills_5 ?_
    refine y_icmp_gt (tgt := 23) B hf dX9_fills_7 (by decide) (fun hf => ?_) (fun hf => ?_)
    · refine lv_ldc (v := -1000000000) B.1.1 B.1.2.1 B.1.2.2.1 (B.1.2.2.2.1 _ tw_555) dX9_fills_23 ?_
      exact y_iret B hR hS hf dX9_fills_25
    · refine lv_aload_n B.1.1 B.1.2.1 dX9_fills_10 rfl (hl.at 0 rfl) ?_
      refine y_getR B hR hf k_p0 fl_X9_48 dX9_fills_11 (fun a1 k_a1 hf => ?_)
      refine y_getR B hR hf k_a1 fl_X9_114 dX9_fills_14 (fun a2 k_a2 hf => ?_)
      refine y_getI B hR k_a2 fl_X9_148 dX9_fills_17 ?_
      refine y_if_ne (tgt := 26) B hf dX9_fills_20 (by decide) (fun hf => ?_) (fun hf => ?_)
      · refine lv_aload_n B.1.1 B.1.2.1 dX9_fills_26 rfl (hl.at 0 rfl) ?_
        refine y_getR B hR hf k_p0 fl_X9_19 dX9_fills_27 (fun a3 k_a3 hf => ?_)
        refine lv_iload_n B.1.1 B.1.2.1 dX9_fills_30 rfl (hl.at 1 rfl) ?_
        refine lv_aload_n B.1.1 B.1.2.1 dX9_fills_31 rfl (hl.at 0 rfl) ?_
        refine y_getR B hR hf k_p0 fl_X9_48 dX9_fills_32 (fun a4 k_a4 hf => ?_)
        refine y_getR B hR hf k_a4 fl_X9_114 dX9_fills_35 (fun a5 k_a5 hf => ?_)
        refine lv_aload_n B.1.1 B.1.2.1 dX9_fills_38 rfl (hl.at 0 rfl) ?_
        refine y_getR B hR hf k_p0 fl_X9_48 dX9_fills_39 (fun a6 k_a6 hf => ?_)
        refine y_getR B hR hf k_a6 fl_X9_56 dX9_fills_42 (fun a7 k_a7 hf => ?_)
        refine y_cv hf (fun q hq => x_runV (ci := 2) (C := RX2) B.1 B.2.2.2 hl hR hS cm_X9_122 ⟨rfl, rfl, Nat.le_of_ble_eq_true rfl, Nat.le_of_ble_eq_true rfl⟩ (by decide) rfl k_a3 (c_X2_sellAll k_a3 k_a5 k_a7 hq) rfl rfl (Nat.le_of_ble_eq_true rfl) dX9_fills_45 ⟨Nat.le_of_ble_eq_true rfl, Nat.le_of_ble_eq_true rfl⟩) hS (fun S8 H locs hf hR hS => ?_)
        refine lv_iload_n B.1.1 B.1.2.1 dX9_fills_48 rfl (hl.at 2 rfl) ?_
        refine x_if hf (fun c9 hf => ?_) (fun c9 hf => ?_)
        · refine lv_lookup (off := 27) (tgt := 76) B.1.1 B.1.2.1 dX9_fills_49 (by decide) (by rw [c9]; decide) (by decide) ?_
          refine lv_aload_n B.1.1 B.1.2.1 dX9_fills_76 rfl (hl.at 0 rfl) ?_
          refine y_getR B hR hf k_p0 fl_X9_19 dX9_fills_77 (fun a10 k_a10 hf => ?_)
          refine y_getI B hR k_a10 fl_X9_298 dX9_fills_80 ?_
          exact y_iret B hR hS hf dX9_fills_83
        refine x_if hf (fun c11 hf => ?_) (fun c11 hf => ?_)
        · refine lv_lookup (off := 35) (tgt := 84) B.1.1 B.1.2.1 dX9_fills_49 (by decide) (by rw [c11]; decide) (by decide) ?_
          refine lv_aload_n B.1.1 B.1.2.1 dX9_fills_84 rfl (hl.at 0 rfl) ?_
          refine y_getR B hR hf k_p0 fl_X9_19 dX9_fills_85 (fun a12 k_a12 hf => ?_)
          refine y_getI B hR k_a12 fl_X9_301 dX9_fills_88 ?_
          exact y_iret B hR hS hf dX9_fills_91
        refine lv_lookup (off := 43) (tgt := 92) B.1.1 B.1.2.1 dX9_fills_49 (by decide) ((lv_osw c9 (by decide)).trans ((lv_osw c11 (by decide)).trans (rfl))) (by decide) ?_
        refine lv_ldc (v := -1000000000) B.1.1 B.1.2.1 B.1.2.2.1 (B.1.2.2.2.1 _ tw_555) dX9_fills_92 ?_
        exact y_iret B hR hS hf dX9_fills_94
      · refine lv_ldc (v := -1000000000) B.1.1 B.1.2.1 B.1.2.2.1 (B.1.2.2.2.1 _ tw_555) dX9_fills_23 ?_
        exact y_iret B hR hS hf dX9_fills_25
abbrev xr_X9_years : Room := { frames := 8, cells := 0, slots := 0, locals := 185 }
def f_X9_years_59 (T : xT) : Nat → xS → Nat → Int32 → Int32 → Int32 → Int32 → Option (Int32 × xS)
  | 0, _, _, _, _, _, _ => none
  | n + 1, S, p0, p1, p2, p3, p4 => if p3 ≤ p4 then xgr T S p0 9 1 (fun a1 => xgr T S a1 6 20 (fun a2 => xai T S a2 p1 (fun v3 => some (v3, S)))) else xcv (f_X9_closeOnPaper T S p0 p2) (fun S4 => xl (p4 + (1 : Int32)) (fun v5 => f_X9_years_59 T n S4 p0 p1 p2 p3 v5))
set_option maxRecDepth 100000 in
set_option maxHeartbeats 4000000 in
theorem w_X9_years_59 {p : Program} {l : Launch} {e : Env} {s : State} {m : MethodId} {args : Array Value} {below : List Frame} {meth : Method} {c : Code} {z : Nat} {D : va_G} {dA : Nat → ClassId} {T : xT} (B : xB p s m args meth c cX9_years RX9 5 (some .int) D dA) {q : Int32 × xS} : ∀ (n : Nat), ∀ (S : xS) (H : Heap) (locs : List Loc) (ls : Array Slot) (p0 : Nat) (p1 : Int32) (p2 : Int32) (p3 : Int32) (p4 : Int32), xlk T p0 9 = true → f_X9_years_59 T n S p0 p1 p2 p3 p4 = some q → xRel z D dA T S H → va_S (xA z) s.heap H locs → xL ls 5 [some (.ref (z + p0)), some (.int p1), some (.int p2), some (.int p3), some (.int p4)] → xGi p l e xr_X9_years s m args below meth c z D dA T q H locs 59 ls [] := by
  intro n
  induction n with
  | zero =>
    intro S H locs ls p0 p1 p2 p3 p4 k_p0 hf hR hS hl
    exact absurd hf (by simp [f_X9_years_59])
  | succ n ih =>
    intro S H locs ls p0 p1 p2 p3 p4 k_p0 hf hR hS hl
    unfold f_X9_years_59 at hf
    refine lv_iload B.1.1 B.1.2.1 dX9_years_59 (hl.at 4 rfl) ?_
    refine lv_iload_n B.1.1 B.1.2.1 dX9_years_61 rfl (hl.at 3 rfl) ?_
    refine y_icmp_ge (tgt := 76) B hf dX9_years_62 (by decide) (fun hf => ?_) (fun hf => ?_)
    · refine lv_aload_n B.1.1 B.1.2.1 dX9_years_76 rfl (hl.at 0 rfl) ?_
      refine y_getR B hR hf k_p0 fl_X9_70 dX9_years_77 (fun a1 k_a1 hf => ?_)
      refine y_getR B hR hf k_a1 fl_X9_154 dX9_years_80 (fun a2 k_a2 hf => ?_)
      refine lv_iload_n B.1.1 B.1.2.1 dX9_years_83 rfl (hl.at 1 rfl) ?_
      refine y_iald B hR hf k_a2 dX9_years_84 (fun v3 hf => ?_)
      exact y_iret B hR hS hf dX9_years_85
    · refine lv_aload_n B.1.1 B.1.2.1 dX9_years_65 rfl (hl.at 0 rfl) ?_
      refine lv_iload_n B.1.1 B.1.2.1 dX9_years_66 rfl (hl.at 2 rfl) ?_
      refine y_cv hf (fun q hq => x_runV (ci := 9) (C := RX9) B.1 B.2.2.2 hl hR hS cm_X9_283 ⟨rfl, rfl, Nat.le_of_ble_eq_true rfl, Nat.le_of_ble_eq_true rfl⟩ (by decide) rfl k_p0 (c_X9_closeOnPaper k_p0 hq) rfl rfl (Nat.le_of_ble_eq_true rfl) dX9_years_67 ⟨Nat.le_of_ble_eq_true rfl, Nat.le_of_ble_eq_true rfl⟩) hS (fun S4 H locs hf hR hS => ?_)
      refine y_iinc (d := 1) B hl hf dX9_years_70 rfl (by decide) (by decide) rfl (fun v5 ls hf hl => ?_)
      have hl : xL ls 5 [_, _, _, _, _] := hl
      refine lv_goto (tgt := 59) B.1.1 B.1.2.1 dX9_years_73 (by decide) ?_
      exact ih _ _ _ _ _ _ _ _ _ k_p0 hf hR hS hl
def f_X9_years (T : xT) (S : xS) (p0 : Nat) (p1 : Int32) (p2 : Int32) (p3 : Int32) : Option (Int32 × xS) := if p2 < (-1000000 : Int32) then some ((-1000000000 : Int32), S) else if (1000000 : Int32) < p2 then some ((-1000000000 : Int32), S) else if p3 < (1 : Int32) then some ((-1000000000 : Int32), S) else if (20 : Int32) < p3 then some ((-1000000000 : Int32), S) else xgr T S p0 4 5 (fun a1 => xgr T S a1 0 1 (fun a2 => xc (f_X1_hasPartner T S a2 p1) (fun r4 S3 => if r4 = (0 : Int32) then some ((-1000000000 : Int32), S3) else xgr T S3 p0 9 1 (fun a5 => xgr T S3 p0 4 5 (fun a6 => xgr T S3 a6 0 1 (fun a7 => xcv (f_X1_copyBooks T S3 a5 a7) (fun S8 => xl ((0 : Int32)) (fun v9 => f_X9_years_59 T xfu S8 p0 p1 p2 p3 v9))))))))
set_option maxRecDepth 100000 in
set_option maxHeartbeats 4000000 in
theorem c_X9_years {l : Launch} {z : Nat} {D : va_G} {dA : Nat → ClassId} {T : xT} {S : xS} {p0 : Nat} {p1 : Int32} {p2 : Int32} {p3 : Int32} (k_p0 : xlk T p0 9 = true) {q : Int32 × xS} (hf : f_X9_years T S p0 p1 p2 p3 = some q) : Met l yX9_years (xws yX9_years cX9_years 5 (some .int)) xr_X9_years (xPc z D dA T S [.ref (z + p0), .int p1, .int p2, .int p3]) (xQi z D dA T q) 0 0 (xA z) := by
  refine x_met RX9 (by decide) rfl (Nat.le_of_ble_eq_true rfl) ?_
  intro p e s m below meth c ls _ X hr hlk hml _ hR hS hl
  have B : xB p s m _ meth c cX9_years RX9 5 (some .int) D dA := ⟨X, hr, hlk, hml⟩
  have hl : xL ls 5 [_, _, _, _, _] := hl
  unfold f_X9_years at hf
  refine lv_iload_n B.1.1 B.1.2.1 dX9_years_0 rfl (hl.at 2 rfl) ?_
  refine lv_ldcw (v := -1000000) B.1.1 B.1.2.1 B.1.2.2.1 (B.1.2.2.2.1 _ tw_634) dX9_years_1 ?_
  refine y_icmp_lt (tgt := 39) B hf dX9_years_4 (by decide) (fun hf => ?_) (fun hf => ?_)
  · refine lv_ldc (v := -1000000000) B.1.1 B.1.2.1 B.1.2.2.1 (B.1.2.2.2.1 _ tw_555) dX9_years_39 ?_
    exact y_iret B hR hS hf dX9_years_41
  · refine lv_iload_n B.1.1 B.1.2.1 dX9_years_7 rfl (hl.at 2 rfl) ?_
    refine lv_ldcw (v := 1000000) B.1.1 B.1.2.1 B.1.2.2.1 (B.1.2.2.2.1 _ tw_635) dX9_years_8 ?_
    refine y_icmp_gt (tgt := 39) B hf dX9_years_11 (by decide) (fun hf => ?_) (fun hf => ?_)
    · refine lv_ldc (v := -1000000000) B.1.1 B.1.2.1 B.1.2.2.1 (B.1.2.2.2.1 _ tw_555) dX9_years_39 ?_
      exact y_iret B hR hS hf dX9_years_41
    · refine lv_iload_n B.1.1 B.1.2.1 dX9_years_14 rfl (hl.at 3 rfl) ?_
      refine lv_iconst (v := 1) B.1.1 B.1.2.1 dX9_years_15 (by decide) ?_
      refine y_icmp_lt (tgt := 39) B hf dX9_years_16 (by decide) (fun hf => ?_) (fun hf => ?_)
      · refine lv_ldc (v := -1000000000) B.1.1 B.1.2.1 B.1.2.2.1 (B.1.2.2.2.1 _ tw_555) dX9_years_39 ?_
        exact y_iret B hR hS hf dX9_years_41
      · refine lv_iload_n B.1.1 B.1.2.1 dX9_years_19 rfl (hl.at 3 rfl) ?_
        refine lv_bipush (v := 20) B.1.1 B.1.2.1 dX9_years_20 (by decide) ?_
        refine y_icmp_gt (tgt := 39) B hf dX9_years_22 (by decide) (fun hf => ?_) (fun hf => ?_)
        · refine lv_ldc (v := -1000000000) B.1.1 B.1.2.1 B.1.2.2.1 (B.1.2.2.2.1 _ tw_555) dX9_years_39 ?_
          exact y_iret B hR hS hf dX9_years_41
        · refine lv_aload_n B.1.1 B.1.2.1 dX9_years_25 rfl (hl.at 0 rfl) ?_
          refine y_getR B hR hf k_p0 fl_X9_48 dX9_years_26 (fun a1 k_a1 hf => ?_)
          refine y_getR B hR hf k_a1 fl_X9_114 dX9_years_29 (fun a2 k_a2 hf => ?_)
          refine lv_iload_n B.1.1 B.1.2.1 dX9_years_32 rfl (hl.at 1 rfl) ?_
          refine y_ci hf (fun q hq => x_runV (ci := 1) (C := RX1) B.1 B.2.2.2 hl hR hS cm_X9_117 ⟨rfl, rfl, Nat.le_of_ble_eq_true rfl, Nat.le_of_ble_eq_true rfl⟩ (by decide) rfl k_a2 (c_X1_hasPartner k_a2 hq) rfl rfl (Nat.le_of_ble_eq_true rfl) dX9_years_33 ⟨Nat.le_of_ble_eq_true rfl, Nat.le_of_ble_eq_true rfl⟩) hS (fun r4 S3 H locs hf hR hS => ?_)
          refine y_if_ne (tgt := 42) B hf dX9_years_36 (by decide) (fun hf => ?_) (fun hf => ?_)
          · refine lv_aload_n B.1.1 B.1.2.1 dX9_years_42 rfl (hl.at 0 rfl) ?_
            refine y_getR B hR hf k_p0 fl_X9_70 dX9_years_43 (fun a5 k_a5 hf => ?_)
            refine lv_aload_n B.1.1 B.1.2.1 dX9_years_46 rfl (hl.at 0 rfl) ?_
            refine y_getR B hR hf k_p0 fl_X9_48 dX9_years_47 (fun a6 k_a6 hf => ?_)
            refine y_getR B hR hf k_a6 fl_X9_114 dX9_years_50 (fun a7 k_a7 hf => ?_)
            refine y_cv hf (fun q hq => x_runV (ci := 1) (C := RX1) B.1 B.2.2.2 hl hR hS cm_X9_279 ⟨rfl, rfl, Nat.le_of_ble_eq_true rfl, Nat.le_of_ble_eq_true rfl⟩ (by decide) rfl k_a5 (c_X1_copyBooks k_a5 k_a7 hq) rfl rfl (Nat.le_of_ble_eq_true rfl) dX9_years_53 ⟨Nat.le_of_ble_eq_true rfl, Nat.le_of_ble_eq_true rfl⟩) hS (fun S8 H locs hf hR hS => ?_)
            refine lv_iconst (v := 0) B.1.1 B.1.2.1 dX9_years_56 (by decide) ?_
            refine y_istore B hl hf dX9_years_57 (by decide) rfl (fun v9 ls hf hl => ?_)
            have hl : xL ls 5 [_, _, _, _, _] := hl
            exact w_X9_years_59 B xfu _ _ _ _ _ _ _ _ _ k_p0 hf hR hS hl
          · refine lv_ldc (v := -1000000000) B.1.1 B.1.2.1 B.1.2.2.1 (B.1.2.2.2.1 _ tw_555) dX9_years_39 ?_
            exact y_iret B hR hS hf dX9_years_41
abbrev xr_X9_exit : Room := { frames := 8, cells := 0, slots := 0, locals := 185 }
def f_X9_exit (T : xT) (S : xS) (p0 : Nat) (p1 : Int32) : Option (Int32 × xS) := xgr T S p0 4 5 (fun a1 => xgr T S a1 0 1 (fun a2 => xc (f_X1_hasPartner T S a2 p1) (fun r4 S3 => if r4 = (0 : Int32) then some ((-1000000000 : Int32), S3) else xgr T S3 p0 9 1 (fun a5 => xgr T S3 p0 4 5 (fun a6 => xgr T S3 a6 0 1 (fun a7 => xcv (f_X1_copyBooks T S3 a5 a7) (fun S8 => xcv (f_X9_closeOnPaper T S8 p0 ((0 : Int32))) (fun S9 => xgr T S9 p0 1 2 (fun a10 => xgr T S9 p0 9 1 (fun a11 => xgr T S9 p0 4 5 (fun a12 => xgr T S9 a12 2 8 (fun a13 => xgr T S9 p0 10 7 (fun a14 => xc (f_X2_valueAnew T S9 a10 a11 a13 a14) (fun r16 S15 => xgr T S15 p0 9 1 (fun a17 => xgr T S15 a17 6 20 (fun a18 => xai T S15 a18 p1 (fun v19 => xgr T S15 p0 9 1 (fun a20 => xgr T S15 a20 7 20 (fun a21 => xai T S15 a21 p1 (fun v22 => some ((xmax v19 ((-v22))), S15)))))))))))))))))))))
set_option maxRecDepth 100000 in
set_option maxHeartbeats 4000000 in
theorem c_X9_exit {l : Launch} {z : Nat} {D : va_G} {dA : Nat → ClassId} {T : xT} {S : xS} {p0 : Nat} {p1 : Int32} (k_p0 : xlk T p0 9 = true) {q : Int32 × xS} (hf : f_X9_exit T S p0 p1 = some q) : Met l yX9_exit (xws yX9_exit cX9_exit 2 (some .int)) xr_X9_exit (xPc z D dA T S [.ref (z + p0), .int p1]) (xQi z D dA T q) 0 0 (xA z) := by
  refine x_met RX9 (by decide) rfl (Nat.le_of_ble_eq_true rfl) ?_
  intro p e s m below meth c ls _ X hr hlk hml _ hR hS hl
  have B : xB p s m _ meth c cX9_exit RX9 2 (some .int) D dA := ⟨X, hr, hlk, hml⟩
  have hl : xL ls 2 [_, _] := hl
  unfold f_X9_exit at hf
  refine lv_aload_n B.1.1 B.1.2.1 dX9_exit_0 rfl (hl.at 0 rfl) ?_
  refine y_getR B hR hf k_p0 fl_X9_48 dX9_exit_1 (fun a1 k_a1 hf => ?_)
  refine y_getR B hR hf k_a1 fl_X9_114 dX9_exit_4 (fun a2 k_a2 hf => ?_)
  refine lv_iload_n B.1.1 B.1.2.1 dX9_exit_7 rfl (hl.at 1 rfl) ?_
  refine y_ci hf (fun q hq => x_runV (ci := 1) (C := RX1) B.1 B.2.2.2 hl hR hS cm_X9_117 ⟨rfl, rfl, Nat.le_of_ble_eq_true rfl, Nat.le_of_ble_eq_true rfl⟩ (by decide) rfl k_a2 (c_X1_hasPartner k_a2 hq) rfl rfl (Nat.le_of_ble_eq_true rfl) dX9_exit_8 ⟨Nat.le_of_ble_eq_true rfl, Nat.le_of_ble_eq_true rfl⟩) hS (fun r4 S3 H locs hf hR hS => ?_)
  refine y_if_ne (tgt := 17) B hf dX9_exit_11 (by decide) (fun hf => ?_) (fun hf => ?_)
  · refine lv_aload_n B.1.1 B.1.2.1 dX9_exit_17 rfl (hl.at 0 rfl) ?_
    refine y_getR B hR hf k_p0 fl_X9_70 dX9_exit_18 (fun a5 k_a5 hf => ?_)
    refine lv_aload_n B.1.1 B.1.2.1 dX9_exit_21 rfl (hl.at 0 rfl) ?_
    refine y_getR B hR hf k_p0 fl_X9_48 dX9_exit_22 (fun a6 k_a6 hf => ?_)
    refine y_getR B hR hf k_a6 fl_X9_114 dX9_exit_25 (fun a7 k_a7 hf => ?_)
    refine y_cv hf (fun q hq => x_runV (ci := 1) (C := RX1) B.1 B.2.2.2 hl hR hS cm_X9_279 ⟨rfl, rfl, Nat.le_of_ble_eq_true rfl, Nat.le_of_ble_eq_true rfl⟩ (by decide) rfl k_a5 (c_X1_copyBooks k_a5 k_a7 hq) rfl rfl (Nat.le_of_ble_eq_true rfl) dX9_exit_28 ⟨Nat.le_of_ble_eq_true rfl, Nat.le_of_ble_eq_true rfl⟩) hS (fun S8 H locs hf hR hS => ?_)
    refine lv_aload_n B.1.1 B.1.2.1 dX9_exit_31 rfl (hl.at 0 rfl) ?_
    refine lv_iconst (v := 0) B.1.1 B.1.2.1 dX9_exit_32 (by decide) ?_
    refine y_cv hf (fun q hq => x_runV (ci := 9) (C := RX9) B.1 B.2.2.2 hl hR hS cm_X9_283 ⟨rfl, rfl, Nat.le_of_ble_eq_true rfl, Nat.le_of_ble_eq_true rfl⟩ (by decide) rfl k_p0 (c_X9_closeOnPaper k_p0 hq) rfl rfl (Nat.le_of_ble_eq_true rfl) dX9_exit_33 ⟨Nat.le_of_ble_eq_true rfl, Nat.le_of_ble_eq_true rfl⟩) hS (fun S9 H locs hf hR hS => ?_)
    refine lv_aload_n B.1.1 B.1.2.1 dX9_exit_36 rfl (hl.at 0 rfl) ?_
    refine y_getR B hR hf k_p0 fl_X9_19 dX9_exit_37 (fun a10 k_a10 hf => ?_)
    refine lv_aload_n B.1.1 B.1.2.1 dX9_exit_40 rfl (hl.at 0 rfl) ?_
    refine y_getR B hR hf k_p0 fl_X9_70 dX9_exit_41 (fun a11 k_a11 hf => ?_)
    refine lv_aload_n B.1.1 B.1.2.1 dX9_exit_44 rfl (hl.at 0 rfl) ?_
    refine y_getR B hR hf k_p0 fl_X9_48 dX9_exit_45 (fun a12 k_a12 hf => ?_)
    refine y_getR B hR hf k_a12 fl_X9_56 dX9_exit_48 (fun a13 k_a13 hf => ?_)
    refine lv_aload_n B.1.1 B.1.2.1 dX9_exit_51 rfl (hl.at 0 rfl) ?_
    refine y_getR B hR hf k_p0 fl_X9_77 dX9_exit_52 (fun a14 k_a14 hf => ?_)
    refine y_ci hf (fun q hq => x_runV (ci := 2) (C := RX2) B.1 B.2.2.2 hl hR hS cm_X9_304 ⟨rfl, rfl, Nat.le_of_ble_eq_true rfl, Nat.le_of_ble_eq_true rfl⟩ (by decide) rfl k_a10 (c_X2_valueAnew k_a10 k_a11 k_a13 k_a14 hq) rfl rfl (Nat.le_of_ble_eq_true rfl) dX9_exit_55 ⟨Nat.le_of_ble_eq_true rfl, Nat.le_of_ble_eq_true rfl⟩) hS (fun r16 S15 H locs hf hR hS => ?_)
    refine lv_pop B.1.1 B.1.2.1 dX9_exit_58 rfl ?_
    refine lv_aload_n B.1.1 B.1.2.1 dX9_exit_59 rfl (hl.at 0 rfl) ?_
    refine y_getR B hR hf k_p0 fl_X9_70 dX9_exit_60 (fun a17 k_a17 hf => ?_)
    refine y_getR B hR hf k_a17 fl_X9_154 dX9_exit_63 (fun a18 k_a18 hf => ?_)
    refine lv_iload_n B.1.1 B.1.2.1 dX9_exit_66 rfl (hl.at 1 rfl) ?_
    refine y_iald B hR hf k_a18 dX9_exit_67 (fun v19 hf => ?_)
    refine lv_aload_n B.1.1 B.1.2.1 dX9_exit_68 rfl (hl.at 0 rfl) ?_
    refine y_getR B hR hf k_p0 fl_X9_70 dX9_exit_69 (fun a20 k_a20 hf => ?_)
    refine y_getR B hR hf k_a20 fl_X9_170 dX9_exit_72 (fun a21 k_a21 hf => ?_)
    refine lv_iload_n B.1.1 B.1.2.1 dX9_exit_75 rfl (hl.at 1 rfl) ?_
    refine y_iald B hR hf k_a21 dX9_exit_76 (fun v22 hf => ?_)
    refine lv_ineg B.1.1 B.1.2.1 dX9_exit_77 ?_
    refine y_mmax B hl ma_X9_308 ⟨Nat.le_of_ble_eq_true rfl, Nat.le_of_ble_eq_true rfl⟩ ⟨Nat.le_of_ble_eq_true rfl, Nat.le_of_ble_eq_true rfl⟩ dX9_exit_78 ?_
    exact y_iret B hR hS hf dX9_exit_81
  · refine lv_ldc (v := -1000000000) B.1.1 B.1.2.1 B.1.2.2.1 (B.1.2.2.2.1 _ tw_555) dX9_exit_14 ?_
    exact y_iret B hR hS hf dX9_exit_16
abbrev xr_X9_first : Room := { frames := 4, cells := 0, slots := 0, locals := 89 }
def f_X9_first_39 (T : xT) : Nat → xS → Nat → Nat → Int32 → Int32 → Option (Int32 × xS)
  | 0, _, _, _, _, _ => none
  | n + 1, S, p0, p1, p2, p3 => if (8 : Int32) ≤ p3 then some (p2, S) else xc (f_X1_hasPartner T S p1 p3) (fun r2 S1 => if r2 = (0 : Int32) then xl (p3 + (1 : Int32)) (fun v3 => f_X9_first_39 T n S1 p0 p1 p2 v3) else if p2 = (-1 : Int32) then xl p3 (fun v4 => xl (p3 + (1 : Int32)) (fun v5 => f_X9_first_39 T n S1 p0 p1 v4 v5)) else xgr T S1 p0 1 2 (fun a6 => xgr T S1 a6 0 20 (fun a7 => xai T S1 a7 p3 (fun v8 => xgr T S1 p0 1 2 (fun a9 => xgr T S1 a9 0 20 (fun a10 => xai T S1 a10 p2 (fun v11 => if v8 ≤ v11 then xl (p3 + (1 : Int32)) (fun v12 => f_X9_first_39 T n S1 p0 p1 p2 v12) else xl p3 (fun v13 => xl (p3 + (1 : Int32)) (fun v14 => f_X9_first_39 T n S1 p0 p1 v13 v14)))))))))
set_option maxRecDepth 100000 in
set_option maxHeartbeats 4000000 in
theorem w_X9_first_39 {p : Program} {l : Launch} {e : Env} {s : State} {m : MethodId} {args : Array Value} {below : List Frame} {meth : Method} {c : Code} {z : Nat} {D : va_G} {dA : Nat → ClassId} {T : xT} (B : xB p s m args meth c cX9_first RX9 4 (some .int) D dA) {q : Int32 × xS} : ∀ (n : Nat), ∀ (S : xS) (H : Heap) (locs : List Loc) (ls : Array Slot) (p0 : Nat) (p1 : Nat) (p2 : Int32) (p3 : Int32), xlk T p0 9 = true → xlk T p1 1 = true → f_X9_first_39 T n S p0 p1 p2 p3 = some q → xRel z D dA T S H → va_S (xA z) s.heap H locs → xL ls 4 [some (.ref (z + p0)), some (.ref (z + p1)), some (.int p2), some (.int p3)] → xGi p l e xr_X9_first s m args below meth c z D dA T q H locs 39 ls [] := by
  intro n
  induction n with
  | zero =>
    intro S H locs ls p0 p1 p2 p3 k_p0 k_p1 hf hR hS hl
    exact absurd hf (by simp [f_X9_first_39])
  | succ n ih =>
    intro S H locs ls p0 p1 p2 p3 k_p0 k_p1 hf hR hS hl
    unfold f_X9_first_39 at hf
    refine lv_iload_n B.1.1 B.1.2.1 dX9_first_39 rfl (hl.at 3 rfl) ?_
    refine lv_bipush (v := 8) B.1.1 B.1.2.1 dX9_first_40 (by decide) ?_
    refine y_icmp_ge (tgt := 87) B hf dX9_first_42 (by decide) (fun hf => ?_) (fun hf => ?_)
    · refine lv_iload_n B.1.1 B.1.2.1 dX9_first_87 rfl (hl.at 2 rfl) ?_
      exact y_iret B hR hS hf dX9_first_88
    · refine lv_aload_n B.1.1 B.1.2.1 dX9_first_45 rfl (hl.at 1 rfl) ?_
      refine lv_iload_n B.1.1 B.1.2.1 dX9_first_46 rfl (hl.at 3 rfl) ?_
      refine y_ci hf (fun q hq => x_runV (ci := 1) (C := RX1) B.1 B.2.2.2 hl hR hS cm_X9_117 ⟨rfl, rfl, Nat.le_of_ble_eq_true rfl, Nat.le_of_ble_eq_true rfl⟩ (by decide) rfl k_p1 (c_X1_hasPartner k_p1 hq) rfl rfl (Nat.le_of_ble_eq_true rfl) dX9_first_47 ⟨Nat.le_of_ble_eq_true rfl, Nat.le_of_ble_eq_true rfl⟩) hS (fun r2 S1 H locs hf hR hS => ?_)
      refine y_if_eq (tgt := 81) B hf dX9_first_50 (by decide) (fun hf => ?_) (fun hf => ?_)
      · refine y_iinc (d := 1) B hl hf dX9_first_81 rfl (by decide) (by decide) rfl (fun v3 ls hf hl => ?_)
        have hl : xL ls 4 [_, _, _, _] := hl
        refine lv_goto (tgt := 39) B.1.1 B.1.2.1 dX9_first_84 (by decide) ?_
        exact ih _ _ _ _ _ _ _ _ k_p0 k_p1 hf hR hS hl
      · refine lv_iload_n B.1.1 B.1.2.1 dX9_first_53 rfl (hl.at 2 rfl) ?_
        refine lv_iconst (v := -1) B.1.1 B.1.2.1 dX9_first_54 (by decide) ?_
        refine y_icmp_eq (tgt := 79) B hf dX9_first_55 (by decide) (fun hf => ?_) (fun hf => ?_)
        · refine lv_iload_n B.1.1 B.1.2.1 dX9_first_79 rfl (hl.at 3 rfl) ?_
          refine y_istore_n B hl hf dX9_first_80 rfl (by decide) rfl (fun v4 ls hf hl => ?_)
          have hl : xL ls 4 [_, _, _, _] := hl
          refine y_iinc (d := 1) B hl hf dX9_first_81 rfl (by decide) (by decide) rfl (fun v5 ls hf hl => ?_)
          have hl : xL ls 4 [_, _, _, _] := hl
          refine lv_goto (tgt := 39) B.1.1 B.1.2.1 dX9_first_84 (by decide) ?_
          exact ih _ _ _ _ _ _ _ _ k_p0 k_p1 hf hR hS hl
        · refine lv_aload_n B.1.1 B.1.2.1 dX9_first_58 rfl (hl.at 0 rfl) ?_
          refine y_getR B hR hf k_p0 fl_X9_19 dX9_first_59 (fun a6 k_a6 hf => ?_)
          refine y_getR B hR hf k_a6 fl_X9_126 dX9_first_62 (fun a7 k_a7 hf => ?_)
          refine lv_iload_n B.1.1 B.1.2.1 dX9_first_65 rfl (hl.at 3 rfl) ?_
          refine y_iald B hR hf k_a7 dX9_first_66 (fun v8 hf => ?_)
          refine lv_aload_n B.1.1 B.1.2.1 dX9_first_67 rfl (hl.at 0 rfl) ?_
          refine y_getR B hR hf k_p0 fl_X9_19 dX9_first_68 (fun a9 k_a9 hf => ?_)
          refine y_getR B hR hf k_a9 fl_X9_126 dX9_first_71 (fun a10 k_a10 hf => ?_)
          refine lv_iload_n B.1.1 B.1.2.1 dX9_first_74 rfl (hl.at 2 rfl) ?_
          refine y_iald B hR hf k_a10 dX9_first_75 (fun v11 hf => ?_)
          refine y_icmp_le (tgt := 81) B hf dX9_first_76 (by decide) (fun hf => ?_) (fun hf => ?_)
          · refine y_iinc (d := 1) B hl hf dX9_first_81 rfl (by decide) (by decide) rfl (fun v12 ls hf hl => ?_)
            have hl : xL ls 4 [_, _, _, _] := hl
            refine lv_goto (tgt := 39) B.1.1 B.1.2.1 dX9_first_84 (by decide) ?_
            exact ih _ _ _ _ _ _ _ _ k_p0 k_p1 hf hR hS hl
          · refine lv_iload_n B.1.1 B.1.2.1 dX9_first_79 rfl (hl.at 3 rfl) ?_
            refine y_istore_n B hl hf dX9_first_80 rfl (by decide) rfl (fun v13 ls hf hl => ?_)
            have hl : xL ls 4 [_, _, _, _] := hl
            refine y_iinc (d := 1) B hl hf dX9_first_81 rfl (by decide) (by decide) rfl (fun v14 ls hf hl => ?_)
            have hl : xL ls 4 [_, _, _, _] := hl
            refine lv_goto (tgt := 39) B.1.1 B.1.2.1 dX9_first_84 (by decide) ?_
            exact ih _ _ _ _ _ _ _ _ k_p0 k_p1 hf hR hS hl
def f_X9_first (T : xT) (S : xS) (p0 : Nat) : Option (Int32 × xS) := xgr T S p0 4 5 (fun a1 => xgr T S a1 0 1 (fun a2 => xgr T S p0 1 2 (fun a3 => xgr T S a2 6 20 (fun a4 => xc (f_X9_total T S a4) (fun r6 S5 => xc (f_X1_gainOfAll T S5 a2) (fun r8 S7 => xgr T S7 p0 4 5 (fun a9 => xgr T S7 a9 2 8 (fun a10 => xcv (f_X2_sellAll T S7 a3 ((r6 + r8)) a2 a10) (fun S11 => xl ((-1 : Int32)) (fun v12 => xl ((0 : Int32)) (fun v13 => f_X9_first_39 T xfu S11 p0 a2 v12 v13)))))))))))
set_option maxRecDepth 100000 in
set_option maxHeartbeats 4000000 in
theorem c_X9_first {l : Launch} {z : Nat} {D : va_G} {dA : Nat → ClassId} {T : xT} {S : xS} {p0 : Nat} (k_p0 : xlk T p0 9 = true) {q : Int32 × xS} (hf : f_X9_first T S p0 = some q) : Met l yX9_first (xws yX9_first cX9_first 4 (some .int)) xr_X9_first (xPc z D dA T S [.ref (z + p0)]) (xQi z D dA T q) 0 0 (xA z) := by
  refine x_met RX9 (by decide) rfl (Nat.le_of_ble_eq_true rfl) ?_
  intro p e s m below meth c ls _ X hr hlk hml _ hR hS hl
  have B : xB p s m _ meth c cX9_first RX9 4 (some .int) D dA := ⟨X, hr, hlk, hml⟩
  have hl : xL ls 4 [_, _, _, _] := hl
  unfold f_X9_first at hf
  refine lv_aload_n B.1.1 B.1.2.1 dX9_first_0 rfl (hl.at 0 rfl) ?_
  refine y_getR B hR hf k_p0 fl_X9_48 dX9_first_1 (fun a1 k_a1 hf => ?_)
  refine y_getR B hR hf k_a1 fl_X9_114 dX9_first_4 (fun a2 k_a2 hf => ?_)
  refine y_astore_n B hl dX9_first_7 rfl (by decide) rfl (fun ls hl => ?_)
  have hl : xL ls 4 [_, _, _, _] := hl
  refine lv_aload_n B.1.1 B.1.2.1 dX9_first_8 rfl (hl.at 0 rfl) ?_
  refine y_getR B hR hf k_p0 fl_X9_19 dX9_first_9 (fun a3 k_a3 hf => ?_)
  refine lv_aload_n B.1.1 B.1.2.1 dX9_first_12 rfl (hl.at 1 rfl) ?_
  refine y_getR B hR hf k_a2 fl_X9_154 dX9_first_13 (fun a4 k_a4 hf => ?_)
  refine y_ci hf (fun q hq => y_runS B.1 B.2.2.2 hl hR hS cm_X9_157 ⟨rfl, rfl, Nat.le_of_ble_eq_true rfl, Nat.le_of_ble_eq_true rfl⟩ (c_X9_total k_a4 hq) rfl rfl (Nat.le_of_ble_eq_true rfl) dX9_first_16 ⟨Nat.le_of_ble_eq_true rfl, Nat.le_of_ble_eq_true rfl⟩) hS (fun r6 S5 H locs hf hR hS => ?_)
  refine lv_aload_n B.1.1 B.1.2.1 dX9_first_19 rfl (hl.at 1 rfl) ?_
  refine y_ci hf (fun q hq => x_runV (ci := 1) (C := RX1) B.1 B.2.2.2 hl hR hS cm_X9_286 ⟨rfl, rfl, Nat.le_of_ble_eq_true rfl, Nat.le_of_ble_eq_true rfl⟩ (by decide) rfl k_a2 (c_X1_gainOfAll k_a2 hq) rfl rfl (Nat.le_of_ble_eq_true rfl) dX9_first_20 ⟨Nat.le_of_ble_eq_true rfl, Nat.le_of_ble_eq_true rfl⟩) hS (fun r8 S7 H locs hf hR hS => ?_)
  refine lv_iadd B.1.1 B.1.2.1 dX9_first_23 ?_
  refine lv_aload_n B.1.1 B.1.2.1 dX9_first_24 rfl (hl.at 1 rfl) ?_
  refine lv_aload_n B.1.1 B.1.2.1 dX9_first_25 rfl (hl.at 0 rfl) ?_
  refine y_getR B hR hf k_p0 fl_X9_48 dX9_first_26 (fun a9 k_a9 hf => ?_)
  refine y_getR B hR hf k_a9 fl_X9_56 dX9_first_29 (fun a10 k_a10 hf => ?_)
  refine y_cv hf (fun q hq => x_runV (ci := 2) (C := RX2) B.1 B.2.2.2 hl hR hS cm_X9_122 ⟨rfl, rfl, Nat.le_of_ble_eq_true rfl, Nat.le_of_ble_eq_true rfl⟩ (by decide) rfl k_a3 (c_X2_sellAll k_a3 k_a2 k_a10 hq) rfl rfl (Nat.le_of_ble_eq_true rfl) dX9_first_32 ⟨Nat.le_of_ble_eq_true rfl, Nat.le_of_ble_eq_true rfl⟩) hS (fun S11 H locs hf hR hS => ?_)
  refine lv_iconst (v := -1) B.1.1 B.1.2.1 dX9_first_35 (by decide) ?_
  refine y_istore_n B hl hf dX9_first_36 rfl (by decide) rfl (fun v12 ls hf hl => ?_)
  have hl : xL ls 4 [_, _, _, _] := hl
  refine lv_iconst (v := 0) B.1.1 B.1.2.1 dX9_first_37 (by decide) ?_
  refine y_istore_n B hl hf dX9_first_38 rfl (by decide) rfl (fun v13 ls hf hl => ?_)
  have hl : xL ls 4 [_, _, _, _] := hl
  exact w_X9_first_39 B xfu _ _ _ _ _ _ _ _ k_p0 k_a2 hf hR hS hl
abbrev xr_X9_restore : Room := { frames := 5, cells := 0, slots := 0, locals := 120 }
def f_X9_restore (T : xT) (S : xS) (p0 : Nat) (p1 : Int32) : Option (Int32 × xS) := if p1 < (0 : Int32) then some ((0 : Int32), S) else if (2 : Int32) ≤ p1 then some ((0 : Int32), S) else xgr T S p0 8 25 (fun a1 => xan T S a1 p1 (fun b => if b = true then xcv (f_X9_remember T S p0) (fun S2 => xgr T S2 p0 4 5 (fun a3 => xgr T S2 p0 8 25 (fun a4 => xar T S2 a4 p1 5 (fun a5 => xcv (f_X5_copyState T S2 a3 a5) (fun S6 => some ((1 : Int32), S6)))))) else some ((0 : Int32), S)))
set_option maxRecDepth 100000 in
set_option maxHeartbeats 4000000 in
theorem c_X9_restore {l : Launch} {z : Nat} {D : va_G} {dA : Nat → ClassId} {T : xT} {S : xS} {p0 : Nat} {p1 : Int32} (k_p0 : xlk T p0 9 = true) {q : Int32 × xS} (hf : f_X9_restore T S p0 p1 = some q) : Met l yX9_restore (xws yX9_restore cX9_restore 2 (some .boolean)) xr_X9_restore (xPc z D dA T S [.ref (z + p0), .int p1]) (xQi z D dA T q) 0 0 (xA z) := by
  refine x_met RX9 (by decide) rfl (Nat.le_of_ble_eq_true rfl) ?_
  intro p e s m below meth c ls _ X hr hlk hml _ hR hS hl
  have B : xB p s m _ meth c cX9_restore RX9 2 (some .boolean) D dA := ⟨X, hr, hlk, hml⟩
  have hl : xL ls 2 [_, _] := hl
  unfold f_X9_restore at hf
  refine lv_iload_n B.1.1 B.1.2.1 dX9_restore_0 rfl (hl.at 1 rfl) ?_
  refine y_if_lt (tgt := 18) B hf dX9_restore_1 (by decide) (fun hf => ?_) (fun hf => ?_)
  · refine lv_iconst (v := 0) B.1.1 B.1.2.1 dX9_restore_18 (by decide) ?_
    exact y_zretK B hR hS hf rfl dX9_restore_19
  · refine lv_iload_n B.1.1 B.1.2.1 dX9_restore_4 rfl (hl.at 1 rfl) ?_
    refine lv_iconst (v := 2) B.1.1 B.1.2.1 dX9_restore_5 (by decide) ?_
    refine y_icmp_ge (tgt := 18) B hf dX9_restore_6 (by decide) (fun hf => ?_) (fun hf => ?_)
    · refine lv_iconst (v := 0) B.1.1 B.1.2.1 dX9_restore_18 (by decide) ?_
      exact y_zretK B hR hS hf rfl dX9_restore_19
    · refine lv_aload_n B.1.1 B.1.2.1 dX9_restore_9 rfl (hl.at 0 rfl) ?_
      refine y_getR B hR hf k_p0 fl_X9_64 dX9_restore_10 (fun a1 k_a1 hf => ?_)
      refine lv_iload_n B.1.1 B.1.2.1 dX9_restore_13 rfl (hl.at 1 rfl) ?_
      refine y_aaldN (tgt := 20) B hR hf k_a1 dX9_restore_14 dX9_restore_15 (by decide) (fun hf => ?_) (fun hf => ?_)
      · refine lv_aload_n B.1.1 B.1.2.1 dX9_restore_20 rfl (hl.at 0 rfl) ?_
        refine y_cv hf (fun q hq => x_runV (ci := 9) (C := RX9) B.1 B.2.2.2 hl hR hS cm_X9_99 ⟨rfl, rfl, Nat.le_of_ble_eq_true rfl, Nat.le_of_ble_eq_true rfl⟩ (by decide) rfl k_p0 (c_X9_remember k_p0 hq) rfl rfl (Nat.le_of_ble_eq_true rfl) dX9_restore_21 ⟨Nat.le_of_ble_eq_true rfl, Nat.le_of_ble_eq_true rfl⟩) hS (fun S2 H locs hf hR hS => ?_)
        refine lv_aload_n B.1.1 B.1.2.1 dX9_restore_24 rfl (hl.at 0 rfl) ?_
        refine y_getR B hR hf k_p0 fl_X9_48 dX9_restore_25 (fun a3 k_a3 hf => ?_)
        refine lv_aload_n B.1.1 B.1.2.1 dX9_restore_28 rfl (hl.at 0 rfl) ?_
        refine y_getR B hR hf k_p0 fl_X9_64 dX9_restore_29 (fun a4 k_a4 hf => ?_)
        refine lv_iload_n B.1.1 B.1.2.1 dX9_restore_32 rfl (hl.at 1 rfl) ?_
        refine y_aald B hR hf k_a4 dX9_restore_33 (fun a5 k_a5 hf => ?_)
        refine y_cv hf (fun q hq => x_runV (ci := 5) (C := RX5) B.1 B.2.2.2 hl hR hS cm_X9_294 ⟨rfl, rfl, Nat.le_of_ble_eq_true rfl, Nat.le_of_ble_eq_true rfl⟩ (by decide) rfl k_a3 (c_X5_copyState k_a3 k_a5 hq) rfl rfl (Nat.le_of_ble_eq_true rfl) dX9_restore_34 ⟨Nat.le_of_ble_eq_true rfl, Nat.le_of_ble_eq_true rfl⟩) hS (fun S6 H locs hf hR hS => ?_)
        refine lv_iconst (v := 1) B.1.1 B.1.2.1 dX9_restore_37 (by decide) ?_
        exact y_zretK B hR hS hf rfl dX9_restore_38
      · refine lv_iconst (v := 0) B.1.1 B.1.2.1 dX9_restore_18 (by decide) ?_
        exact y_zretK B hR hS hf rfl dX9_restore_19
