abbrev xr_X10_gain : Room := { frames := 3, cells := 0, slots := 0, locals := 55 }
def f_X10_gain_47 (T : xT) (rec_20 : xS → Nat → Int32 → Int32 → Int32 → Option (Int32 × xS)) (S : xS) (p0 : Nat) (p1 : Int32) (p2 : Int32) (p3 : Int32) : Option (Int32 × xS) := xc (f_X10_assetAt T S p3) (fun r2 S1 => xc (f_X10_get T S1 p0 ((r2 + (2 : Int32)))) (fun r4 S3 => xc (f_X10_assetAt T S3 p3) (fun r6 S5 => xc (f_X10_get T S5 p0 ((r6 + (1 : Int32)))) (fun r8 S7 => xl ((p2 + (r4 - r8))) (fun v9 => xl (p3 + (1 : Int32)) (fun v10 => rec_20 S7 p0 p1 v9 v10))))))
set_option maxRecDepth 100000 in
set_option maxHeartbeats 4000000 in
theorem w_X10_gain_47 {p : Program} {l : Launch} {e : Env} {s : State} {m : MethodId} {args : Array Value} {below : List Frame} {meth : Method} {c : Code} {z : Nat} {D : va_G} {dA : Nat → ClassId} {T : xT} (B : xB p s m args meth c cX10_gain RX10 4 (some .int) D dA) {q : Int32 × xS} {rec_20 : xS → Nat → Int32 → Int32 → Int32 → Option (Int32 × xS)} (hrec_20 : ∀ (S : xS) (H : Heap) (locs : List Loc) (ls : Array Slot) (p0 : Nat) (p1 : Int32) (p2 : Int32) (p3 : Int32), xlk T p0 10 = true → rec_20 S p0 p1 p2 p3 = some q → xRel z D dA T S H → va_S (xA z) s.heap H locs → xL ls 4 [some (.ref (z + p0)), some (.int p1), some (.int p2), some (.int p3)] → xGi p l e xr_X10_gain s m args below meth c z D dA T q H locs 20 ls []) : ∀ (S : xS) (H : Heap) (locs : List Loc) (ls : Array Slot) (p0 : Nat) (p1 : Int32) (p2 : Int32) (p3 : Int32), xlk T p0 10 = true → f_X10_gain_47 T rec_20 S p0 p1 p2 p3 = some q → xRel z D dA T S H → va_S (xA z) s.heap H locs → xL ls 4 [some (.ref (z + p0)), some (.int p1), some (.int p2), some (.int p3)] → xGi p l e xr_X10_gain s m args below meth c z D dA T q H locs 47 ls [] := by
  intro S H locs ls p0 p1 p2 p3 k_p0 hf hR hS hl
  unfold f_X10_gain_47 at hf
  refine lv_iload_n B.1.1 B.1.2.1 dX10_gain_47 rfl (hl.at 2 rfl) ?_
  refine lv_aload_n B.1.1 B.1.2.1 dX10_gain_48 rfl (hl.at 0 rfl) ?_
  refine lv_iload_n B.1.1 B.1.2.1 dX10_gain_49 rfl (hl.at 3 rfl) ?_
  refine y_ci hf (fun q hq => y_runS B.1 B.2.2.2 hl hR hS cm_X10_218 ⟨rfl, rfl, Nat.le_of_ble_eq_true rfl, Nat.le_of_ble_eq_true rfl⟩ (c_X10_assetAt hq) rfl rfl (Nat.le_of_ble_eq_true rfl) dX10_gain_50 ⟨Nat.le_of_ble_eq_true rfl, Nat.le_of_ble_eq_true rfl⟩) hS (fun r2 S1 H locs hf hR hS => ?_)
  refine lv_iconst (v := 2) B.1.1 B.1.2.1 dX10_gain_53 (by decide) ?_
  refine lv_iadd B.1.1 B.1.2.1 dX10_gain_54 ?_
  refine y_ci hf (fun q hq => x_runV (ci := 10) (C := RX10) B.1 B.2.2.2 hl hR hS cm_X10_193 ⟨rfl, rfl, Nat.le_of_ble_eq_true rfl, Nat.le_of_ble_eq_true rfl⟩ (by decide) rfl k_p0 (c_X10_get k_p0 hq) rfl rfl (Nat.le_of_ble_eq_true rfl) dX10_gain_55 ⟨Nat.le_of_ble_eq_true rfl, Nat.le_of_ble_eq_true rfl⟩) hS (fun r4 S3 H locs hf hR hS => ?_)
  refine lv_aload_n B.1.1 B.1.2.1 dX10_gain_58 rfl (hl.at 0 rfl) ?_
  refine lv_iload_n B.1.1 B.1.2.1 dX10_gain_59 rfl (hl.at 3 rfl) ?_
  refine y_ci hf (fun q hq => y_runS B.1 B.2.2.2 hl hR hS cm_X10_218 ⟨rfl, rfl, Nat.le_of_ble_eq_true rfl, Nat.le_of_ble_eq_true rfl⟩ (c_X10_assetAt hq) rfl rfl (Nat.le_of_ble_eq_true rfl) dX10_gain_60 ⟨Nat.le_of_ble_eq_true rfl, Nat.le_of_ble_eq_true rfl⟩) hS (fun r6 S5 H locs hf hR hS => ?_)
  refine lv_iconst (v := 1) B.1.1 B.1.2.1 dX10_gain_63 (by decide) ?_
  refine lv_iadd B.1.1 B.1.2.1 dX10_gain_64 ?_
  refine y_ci hf (fun q hq => x_runV (ci := 10) (C := RX10) B.1 B.2.2.2 hl hR hS cm_X10_193 ⟨rfl, rfl, Nat.le_of_ble_eq_true rfl, Nat.le_of_ble_eq_true rfl⟩ (by decide) rfl k_p0 (c_X10_get k_p0 hq) rfl rfl (Nat.le_of_ble_eq_true rfl) dX10_gain_65 ⟨Nat.le_of_ble_eq_true rfl, Nat.le_of_ble_eq_true rfl⟩) hS (fun r8 S7 H locs hf hR hS => ?_)
  refine lv_isub B.1.1 B.1.2.1 dX10_gain_68 ?_
  refine lv_iadd B.1.1 B.1.2.1 dX10_gain_69 ?_
  refine y_istore_n B hl hf dX10_gain_70 rfl (by decide) rfl (fun v9 ls hf hl => ?_)
  have hl : xL ls 4 [_, _, _, _] := hl
  refine y_iinc (d := 1) B hl hf dX10_gain_71 rfl (by decide) (by decide) rfl (fun v10 ls hf hl => ?_)
  have hl : xL ls 4 [_, _, _, _] := hl
  refine lv_goto (tgt := 20) B.1.1 B.1.2.1 dX10_gain_74 (by decide) ?_
  exact hrec_20 _ _ _ _ _ _ _ _ k_p0 hf hR hS hl
def f_X10_gain_20 (T : xT) : Nat → xS → Nat → Int32 → Int32 → Int32 → Option (Int32 × xS)
  | 0, _, _, _, _, _ => none
  | n + 1, S, p0, p1, p2, p3 => if (8 : Int32) ≤ p3 then some (p2, S) else xc (f_X10_isAsset T S p0 p3) (fun r2 S1 => if r2 = (0 : Int32) then xl (p3 + (1 : Int32)) (fun v3 => f_X10_gain_20 T n S1 p0 p1 p2 v3) else if p1 = (-1 : Int32) then f_X10_gain_47 T (f_X10_gain_20 T n) S1 p0 p1 p2 p3 else if p3 = p1 then f_X10_gain_47 T (f_X10_gain_20 T n) S1 p0 p1 p2 p3 else xl (p3 + (1 : Int32)) (fun v4 => f_X10_gain_20 T n S1 p0 p1 p2 v4))
set_option maxRecDepth 100000 in
set_option maxHeartbeats 4000000 in
theorem w_X10_gain_20 {p : Program} {l : Launch} {e : Env} {s : State} {m : MethodId} {args : Array Value} {below : List Frame} {meth : Method} {c : Code} {z : Nat} {D : va_G} {dA : Nat → ClassId} {T : xT} (B : xB p s m args meth c cX10_gain RX10 4 (some .int) D dA) {q : Int32 × xS} : ∀ (n : Nat), ∀ (S : xS) (H : Heap) (locs : List Loc) (ls : Array Slot) (p0 : Nat) (p1 : Int32) (p2 : Int32) (p3 : Int32), xlk T p0 10 = true → f_X10_gain_20 T n S p0 p1 p2 p3 = some q → xRel z D dA T S H → va_S (xA z) s.heap H locs → xL ls 4 [some (.ref (z + p0)), some (.int p1), some (.int p2), some (.int p3)] → xGi p l e xr_X10_gain s m args below meth c z D dA T q H locs 20 ls [] := by
  intro n
  induction n with
  | zero =>
    intro S H locs ls p0 p1 p2 p3 k_p0 hf hR hS hl
    exact absurd hf (by simp [f_X10_gain_20])
  | succ n ih =>
    intro S H locs ls p0 p1 p2 p3 k_p0 hf hR hS hl
    unfold f_X10_gain_20 at hf
    refine lv_iload_n B.1.1 B.1.2.1 dX10_gain_20 rfl (hl.at 3 rfl) ?_
    refine lv_bipush (v := 8) B.1.1 B.1.2.1 dX10_gain_21 (by decide) ?_
    refine y_icmp_ge (tgt := 77) B hf dX10_gain_23 (by decide) (fun hf => ?_) (fun hf => ?_)
    · refine lv_iload_n B.1.1 B.1.2.1 dX10_gain_77 rfl (hl.at 2 rfl) ?_
      exact y_iret B hR hS hf dX10_gain_78
    · refine lv_aload_n B.1.1 B.1.2.1 dX10_gain_26 rfl (hl.at 0 rfl) ?_
      refine lv_iload_n B.1.1 B.1.2.1 dX10_gain_27 rfl (hl.at 3 rfl) ?_
      refine y_ci hf (fun q hq => x_runV (ci := 10) (C := RX10) B.1 B.2.2.2 hl hR hS cm_X10_221 ⟨rfl, rfl, Nat.le_of_ble_eq_true rfl, Nat.le_of_ble_eq_true rfl⟩ (by decide) rfl k_p0 (c_X10_isAsset k_p0 hq) rfl rfl (Nat.le_of_ble_eq_true rfl) dX10_gain_28 ⟨Nat.le_of_ble_eq_true rfl, Nat.le_of_ble_eq_true rfl⟩) hS (fun r2 S1 H locs hf hR hS => ?_)
      refine y_if_eq (tgt := 71) B hf dX10_gain_31 (by decide) (fun hf => ?_) (fun hf => ?_)
      · refine y_iinc (d := 1) B hl hf dX10_gain_71 rfl (by decide) (by decide) rfl (fun v3 ls hf hl => ?_)
        have hl : xL ls 4 [_, _, _, _] := hl
        refine lv_goto (tgt := 20) B.1.1 B.1.2.1 dX10_gain_74 (by decide) ?_
        exact ih _ _ _ _ _ _ _ _ k_p0 hf hR hS hl
      · refine lv_iload_n B.1.1 B.1.2.1 dX10_gain_34 rfl (hl.at 1 rfl) ?_
        refine lv_iconst (v := -1) B.1.1 B.1.2.1 dX10_gain_35 (by decide) ?_
        refine y_icmp_eq (tgt := 47) B hf dX10_gain_36 (by decide) (fun hf => ?_) (fun hf => ?_)
        · exact w_X10_gain_47 B ih _ _ _ _ _ _ _ _ k_p0 hf hR hS hl
        · refine lv_iload_n B.1.1 B.1.2.1 dX10_gain_39 rfl (hl.at 3 rfl) ?_
          refine lv_iload_n B.1.1 B.1.2.1 dX10_gain_40 rfl (hl.at 1 rfl) ?_
          refine y_icmp_eq (tgt := 47) B hf dX10_gain_41 (by decide) (fun hf => ?_) (fun hf => ?_)
          · exact w_X10_gain_47 B ih _ _ _ _ _ _ _ _ k_p0 hf hR hS hl
          · refine lv_goto (tgt := 71) B.1.1 B.1.2.1 dX10_gain_44 (by decide) ?_
            refine y_iinc (d := 1) B hl hf dX10_gain_71 rfl (by decide) (by decide) rfl (fun v4 ls hf hl => ?_)
            have hl : xL ls 4 [_, _, _, _] := hl
            refine lv_goto (tgt := 20) B.1.1 B.1.2.1 dX10_gain_74 (by decide) ?_
            exact ih _ _ _ _ _ _ _ _ k_p0 hf hR hS hl
def f_X10_gain (T : xT) (S : xS) (p0 : Nat) (p1 : Int32) : Option (Int32 × xS) := if p1 = (-1 : Int32) then xl ((0 : Int32)) (fun v1 => xl ((0 : Int32)) (fun v2 => f_X10_gain_20 T xfu S p0 p1 v1 v2)) else xc (f_X10_isAsset T S p0 p1) (fun r4 S3 => if r4 = (0 : Int32) then some ((-1000000000 : Int32), S3) else xl ((0 : Int32)) (fun v5 => xl ((0 : Int32)) (fun v6 => f_X10_gain_20 T xfu S3 p0 p1 v5 v6)))
set_option maxRecDepth 100000 in
set_option maxHeartbeats 4000000 in
theorem c_X10_gain {l : Launch} {z : Nat} {D : va_G} {dA : Nat → ClassId} {T : xT} {S : xS} {p0 : Nat} {p1 : Int32} (k_p0 : xlk T p0 10 = true) {q : Int32 × xS} (hf : f_X10_gain T S p0 p1 = some q) : Met l yX10_gain (xws yX10_gain cX10_gain 4 (some .int)) xr_X10_gain (xPc z D dA T S [.ref (z + p0), .int p1]) (xQi z D dA T q) 0 0 (xA z) := by
  refine x_met RX10 (by decide) rfl (Nat.le_of_ble_eq_true rfl) ?_
  intro p e s m below meth c ls _ X hr hlk hml _ hR hS hl
  have B : xB p s m _ meth c cX10_gain RX10 4 (some .int) D dA := ⟨X, hr, hlk, hml⟩
  have hl : xL ls 4 [_, _, _, _] := hl
  unfold f_X10_gain at hf
  refine lv_iload_n B.1.1 B.1.2.1 dX10_gain_0 rfl (hl.at 1 rfl) ?_
  refine lv_iconst (v := -1) B.1.1 B.1.2.1 dX10_gain_1 (by decide) ?_
  refine y_icmp_eq (tgt := 16) B hf dX10_gain_2 (by decide) (fun hf => ?_) (fun hf => ?_)
  · refine lv_iconst (v := 0) B.1.1 B.1.2.1 dX10_gain_16 (by decide) ?_
    refine y_istore_n B hl hf dX10_gain_17 rfl (by decide) rfl (fun v1 ls hf hl => ?_)
    have hl : xL ls 4 [_, _, _, _] := hl
    refine lv_iconst (v := 0) B.1.1 B.1.2.1 dX10_gain_18 (by decide) ?_
    refine y_istore_n B hl hf dX10_gain_19 rfl (by decide) rfl (fun v2 ls hf hl => ?_)
    have hl : xL ls 4 [_, _, _, _] := hl
    exact w_X10_gain_20 B xfu _ _ _ _ _ _ _ _ k_p0 hf hR hS hl
  · refine lv_aload_n B.1.1 B.1.2.1 dX10_gain_5 rfl (hl.at 0 rfl) ?_
    refine lv_iload_n B.1.1 B.1.2.1 dX10_gain_6 rfl (hl.at 1 rfl) ?_
    refine y_ci hf (fun q hq => x_runV (ci := 10) (C := RX10) B.1 B.2.2.2 hl hR hS cm_X10_221 ⟨rfl, rfl, Nat.le_of_ble_eq_true rfl, Nat.le_of_ble_eq_true rfl⟩ (by decide) rfl k_p0 (c_X10_isAsset k_p0 hq) rfl rfl (Nat.le_of_ble_eq_true rfl) dX10_gain_7 ⟨Nat.le_of_ble_eq_true rfl, Nat.le_of_ble_eq_true rfl⟩) hS (fun r4 S3 H locs hf hR hS => ?_)
    refine y_if_ne (tgt := 16) B hf dX10_gain_10 (by decide) (fun hf => ?_) (fun hf => ?_)
    · refine lv_iconst (v := 0) B.1.1 B.1.2.1 dX10_gain_16 (by decide) ?_
      refine y_istore_n B hl hf dX10_gain_17 rfl (by decide) rfl (fun v5 ls hf hl => ?_)
      have hl : xL ls 4 [_, _, _, _] := hl
      refine lv_iconst (v := 0) B.1.1 B.1.2.1 dX10_gain_18 (by decide) ?_
      refine y_istore_n B hl hf dX10_gain_19 rfl (by decide) rfl (fun v6 ls hf hl => ?_)
      have hl : xL ls 4 [_, _, _, _] := hl
      exact w_X10_gain_20 B xfu _ _ _ _ _ _ _ _ k_p0 hf hR hS hl
    · refine lv_ldc (v := -1000000000) B.1.1 B.1.2.1 B.1.2.2.1 (B.1.2.2.2.1 _ tw_1301) dX10_gain_13 ?_
      exact y_iret B hR hS hf dX10_gain_15
abbrev xr_X10_below : Room := { frames := 3, cells := 0, slots := 0, locals := 55 }
def f_X10_below_4 (T : xT) : Nat → xS → Nat → Int32 → Int32 → Option (Int32 × xS)
  | 0, _, _, _, _ => none
  | n + 1, S, p0, p1, p2 => if (8 : Int32) ≤ p2 then some (p1, S) else xc (f_X10_isThere T S p0 p2) (fun r2 S1 => if r2 = (0 : Int32) then xl ((p1 ||| (0 : Int32))) (fun v3 => xl (p2 + (1 : Int32)) (fun v4 => f_X10_below_4 T n S1 p0 v3 v4)) else xc (f_X10_get T S1 p0 (((5 : Int32) + p2))) (fun r6 S5 => xc (f_X10_floorOf T S5 p0 p2) (fun r8 S7 => if r8 ≤ r6 then xl ((p1 ||| (0 : Int32))) (fun v9 => xl (p2 + (1 : Int32)) (fun v10 => f_X10_below_4 T n S7 p0 v9 v10)) else xl ((p1 ||| ((1 : Int32) <<< (p2 &&& 31)))) (fun v11 => xl (p2 + (1 : Int32)) (fun v12 => f_X10_below_4 T n S7 p0 v11 v12)))))
set_option maxRecDepth 100000 in
set_option maxHeartbeats 4000000 in
theorem w_X10_below_4 {p : Program} {l : Launch} {e : Env} {s : State} {m : MethodId} {args : Array Value} {below : List Frame} {meth : Method} {c : Code} {z : Nat} {D : va_G} {dA : Nat → ClassId} {T : xT} (B : xB p s m args meth c cX10_below RX10 3 (some .int) D dA) {q : Int32 × xS} : ∀ (n : Nat), ∀ (S : xS) (H : Heap) (locs : List Loc) (ls : Array Slot) (p0 : Nat) (p1 : Int32) (p2 : Int32), xlk T p0 10 = true → f_X10_below_4 T n S p0 p1 p2 = some q → xRel z D dA T S H → va_S (xA z) s.heap H locs → xL ls 3 [some (.ref (z + p0)), some (.int p1), some (.int p2)] → xGi p l e xr_X10_below s m args below meth c z D dA T q H locs 4 ls [] := by
  intro n
  induction n with
  | zero =>
    intro S H locs ls p0 p1 p2 k_p0 hf hR hS hl
    exact absurd hf (by simp [f_X10_below_4])
  | succ n ih =>
    intro S H locs ls p0 p1 p2 k_p0 hf hR hS hl
    unfold f_X10_below_4 at hf
    refine lv_iload_n B.1.1 B.1.2.1 dX10_below_4 rfl (hl.at 2 rfl) ?_
    refine lv_bipush (v := 8) B.1.1 B.1.2.1 dX10_below_5 (by decide) ?_
    refine y_icmp_ge (tgt := 49) B hf dX10_below_7 (by decide) (fun hf => ?_) (fun hf => ?_)
    · refine lv_iload_n B.1.1 B.1.2.1 dX10_below_49 rfl (hl.at 1 rfl) ?_
      exact y_iret B hR hS hf dX10_below_50
    · refine lv_iload_n B.1.1 B.1.2.1 dX10_below_10 rfl (hl.at 1 rfl) ?_
      refine lv_aload_n B.1.1 B.1.2.1 dX10_below_11 rfl (hl.at 0 rfl) ?_
      refine lv_iload_n B.1.1 B.1.2.1 dX10_below_12 rfl (hl.at 2 rfl) ?_
      refine y_ci hf (fun q hq => x_runV (ci := 10) (C := RX10) B.1 B.2.2.2 hl hR hS cm_X10_203 ⟨rfl, rfl, Nat.le_of_ble_eq_true rfl, Nat.le_of_ble_eq_true rfl⟩ (by decide) rfl k_p0 (c_X10_isThere k_p0 hq) rfl rfl (Nat.le_of_ble_eq_true rfl) dX10_below_13 ⟨Nat.le_of_ble_eq_true rfl, Nat.le_of_ble_eq_true rfl⟩) hS (fun r2 S1 H locs hf hR hS => ?_)
      refine y_if_eq (tgt := 40) B hf dX10_below_16 (by decide) (fun hf => ?_) (fun hf => ?_)
      · refine lv_iconst (v := 0) B.1.1 B.1.2.1 dX10_below_40 (by decide) ?_
        refine lv_ior B.1.1 B.1.2.1 dX10_below_41 ?_
        refine y_istore_n B hl hf dX10_below_42 rfl (by decide) rfl (fun v3 ls hf hl => ?_)
        have hl : xL ls 3 [_, _, _] := hl
        refine y_iinc (d := 1) B hl hf dX10_below_43 rfl (by decide) (by decide) rfl (fun v4 ls hf hl => ?_)
        have hl : xL ls 3 [_, _, _] := hl
        refine lv_goto (tgt := 4) B.1.1 B.1.2.1 dX10_below_46 (by decide) ?_
        exact ih _ _ _ _ _ _ _ k_p0 hf hR hS hl
      · refine lv_aload_n B.1.1 B.1.2.1 dX10_below_19 rfl (hl.at 0 rfl) ?_
        refine lv_iconst (v := 5) B.1.1 B.1.2.1 dX10_below_20 (by decide) ?_
        refine lv_iload_n B.1.1 B.1.2.1 dX10_below_21 rfl (hl.at 2 rfl) ?_
        refine lv_iadd B.1.1 B.1.2.1 dX10_below_22 ?_
        refine y_ci hf (fun q hq => x_runV (ci := 10) (C := RX10) B.1 B.2.2.2 hl hR hS cm_X10_193 ⟨rfl, rfl, Nat.le_of_ble_eq_true rfl, Nat.le_of_ble_eq_true rfl⟩ (by decide) rfl k_p0 (c_X10_get k_p0 hq) rfl rfl (Nat.le_of_ble_eq_true rfl) dX10_below_23 ⟨Nat.le_of_ble_eq_true rfl, Nat.le_of_ble_eq_true rfl⟩) hS (fun r6 S5 H locs hf hR hS => ?_)
        refine lv_aload_n B.1.1 B.1.2.1 dX10_below_26 rfl (hl.at 0 rfl) ?_
        refine lv_iload_n B.1.1 B.1.2.1 dX10_below_27 rfl (hl.at 2 rfl) ?_
        refine y_ci hf (fun q hq => x_runV (ci := 10) (C := RX10) B.1 B.2.2.2 hl hR hS cm_X10_237 ⟨rfl, rfl, Nat.le_of_ble_eq_true rfl, Nat.le_of_ble_eq_true rfl⟩ (by decide) rfl k_p0 (c_X10_floorOf k_p0 hq) rfl rfl (Nat.le_of_ble_eq_true rfl) dX10_below_28 ⟨Nat.le_of_ble_eq_true rfl, Nat.le_of_ble_eq_true rfl⟩) hS (fun r8 S7 H locs hf hR hS => ?_)
        refine y_icmp_ge (tgt := 40) B hf dX10_below_31 (by decide) (fun hf => ?_) (fun hf => ?_)
        · refine lv_iconst (v := 0) B.1.1 B.1.2.1 dX10_below_40 (by decide) ?_
          refine lv_ior B.1.1 B.1.2.1 dX10_below_41 ?_
          refine y_istore_n B hl hf dX10_below_42 rfl (by decide) rfl (fun v9 ls hf hl => ?_)
          have hl : xL ls 3 [_, _, _] := hl
          refine y_iinc (d := 1) B hl hf dX10_below_43 rfl (by decide) (by decide) rfl (fun v10 ls hf hl => ?_)
          have hl : xL ls 3 [_, _, _] := hl
          refine lv_goto (tgt := 4) B.1.1 B.1.2.1 dX10_below_46 (by decide) ?_
          exact ih _ _ _ _ _ _ _ k_p0 hf hR hS hl
        · refine lv_iconst (v := 1) B.1.1 B.1.2.1 dX10_below_34 (by decide) ?_
          refine lv_iload_n B.1.1 B.1.2.1 dX10_below_35 rfl (hl.at 2 rfl) ?_
          refine lv_ishl B.1.1 B.1.2.1 dX10_below_36 ?_
          refine lv_goto (tgt := 41) B.1.1 B.1.2.1 dX10_below_37 (by decide) ?_
          refine lv_ior B.1.1 B.1.2.1 dX10_below_41 ?_
          refine y_istore_n B hl hf dX10_below_42 rfl (by decide) rfl (fun v11 ls hf hl => ?_)
          have hl : xL ls 3 [_, _, _] := hl
          refine y_iinc (d := 1) B hl hf dX10_below_43 rfl (by decide) (by decide) rfl (fun v12 ls hf hl => ?_)
          have hl : xL ls 3 [_, _, _] := hl
          refine lv_goto (tgt := 4) B.1.1 B.1.2.1 dX10_below_46 (by decide) ?_
          exact ih _ _ _ _ _ _ _ k_p0 hf hR hS hl
def f_X10_below (T : xT) (S : xS) (p0 : Nat) : Option (Int32 × xS) := xl ((0 : Int32)) (fun v1 => xl ((0 : Int32)) (fun v2 => f_X10_below_4 T xfu S p0 v1 v2))
set_option maxRecDepth 100000 in
set_option maxHeartbeats 4000000 in
theorem c_X10_below {l : Launch} {z : Nat} {D : va_G} {dA : Nat → ClassId} {T : xT} {S : xS} {p0 : Nat} (k_p0 : xlk T p0 10 = true) {q : Int32 × xS} (hf : f_X10_below T S p0 = some q) : Met l yX10_below (xws yX10_below cX10_below 3 (some .int)) xr_X10_below (xPc z D dA T S [.ref (z + p0)]) (xQi z D dA T q) 0 0 (xA z) := by
  refine x_met RX10 (by decide) rfl (Nat.le_of_ble_eq_true rfl) ?_
  intro p e s m below meth c ls _ X hr hlk hml _ hR hS hl
  have B : xB p s m _ meth c cX10_below RX10 3 (some .int) D dA := ⟨X, hr, hlk, hml⟩
  have hl : xL ls 3 [_, _, _] := hl
  unfold f_X10_below at hf
  refine lv_iconst (v := 0) B.1.1 B.1.2.1 dX10_below_0 (by decide) ?_
  refine y_istore_n B hl hf dX10_below_1 rfl (by decide) rfl (fun v1 ls hf hl => ?_)
  have hl : xL ls 3 [_, _, _] := hl
  refine lv_iconst (v := 0) B.1.1 B.1.2.1 dX10_below_2 (by decide) ?_
  refine y_istore_n B hl hf dX10_below_3 rfl (by decide) rfl (fun v2 ls hf hl => ?_)
  have hl : xL ls 3 [_, _, _] := hl
  exact w_X10_below_4 B xfu _ _ _ _ _ _ _ k_p0 hf hR hS hl
abbrev xr_X10_stepAt : Room := { frames := 1, cells := 0, slots := 0, locals := 12 }
def f_X10_stepAt (T : xT) (S : xS) (p0 : Int32) : Option (Int32 × xS) := some (((310 : Int32) + ((8 : Int32) * p0)), S)
set_option maxRecDepth 100000 in
set_option maxHeartbeats 4000000 in
theorem c_X10_stepAt {l : Launch} {z : Nat} {D : va_G} {dA : Nat → ClassId} {T : xT} {S : xS} {p0 : Int32} {q : Int32 × xS} (hf : f_X10_stepAt T S p0 = some q) : Met l yX10_stepAt (xws yX10_stepAt cX10_stepAt 1 (some .int)) xr_X10_stepAt (xPc z D dA T S [.int p0]) (xQi z D dA T q) 0 0 (xA z) := by
  refine x_met RX10 (by decide) rfl (Nat.le_of_ble_eq_true rfl) ?_
  intro p e s m below meth c ls _ X hr hlk hml _ hR hS hl
  have B : xB p s m _ meth c cX10_stepAt RX10 1 (some .int) D dA := ⟨X, hr, hlk, hml⟩
  have hl : xL ls 1 [_] := hl
  unfold f_X10_stepAt at hf
  refine lv_sipush (v := 310) B.1.1 B.1.2.1 dX10_stepAt_0 (by decide) ?_
  refine lv_bipush (v := 8) B.1.1 B.1.2.1 dX10_stepAt_3 (by decide) ?_
  refine lv_iload_n B.1.1 B.1.2.1 dX10_stepAt_5 rfl (hl.at 0 rfl) ?_
  refine lv_imul B.1.1 B.1.2.1 dX10_stepAt_6 ?_
  refine lv_iadd B.1.1 B.1.2.1 dX10_stepAt_7 ?_
  exact y_iret B hR hS hf dX10_stepAt_8
abbrev xr_X10_forgetSteps : Room := { frames := 2, cells := 0, slots := 0, locals := 34 }
def f_X10_forgetSteps_18 (T : xT) : Nat → xS → Nat → Int32 → Option (xS)
  | 0, _, _, _ => none
  | n + 1, S, p0, p1 => if (56 : Int32) ≤ p1 then some S else xcv (f_X10_put T S p0 (((310 : Int32) + p1)) ((0 : Int32))) (fun S1 => xl (p1 + (1 : Int32)) (fun v2 => f_X10_forgetSteps_18 T n S1 p0 v2))
set_option maxRecDepth 100000 in
set_option maxHeartbeats 4000000 in
theorem w_X10_forgetSteps_18 {p : Program} {l : Launch} {e : Env} {s : State} {m : MethodId} {args : Array Value} {below : List Frame} {meth : Method} {c : Code} {z : Nat} {D : va_G} {dA : Nat → ClassId} {T : xT} (B : xB p s m args meth c cX10_forgetSteps RX10 2 none D dA) {q : xS} : ∀ (n : Nat), ∀ (S : xS) (H : Heap) (locs : List Loc) (ls : Array Slot) (p0 : Nat) (p1 : Int32), xlk T p0 10 = true → f_X10_forgetSteps_18 T n S p0 p1 = some q → xRel z D dA T S H → va_S (xA z) s.heap H locs → xL ls 2 [some (.ref (z + p0)), some (.int p1)] → xGv p l e xr_X10_forgetSteps s m args below meth c z D dA T q H locs 18 ls [] := by
  intro n
  induction n with
  | zero =>
    intro S H locs ls p0 p1 k_p0 hf hR hS hl
    exact absurd hf (by simp [f_X10_forgetSteps_18])
  | succ n ih =>
    intro S H locs ls p0 p1 k_p0 hf hR hS hl
    unfold f_X10_forgetSteps_18 at hf
    refine lv_iload_n B.1.1 B.1.2.1 dX10_forgetSteps_18 rfl (hl.at 1 rfl) ?_
    refine lv_bipush (v := 56) B.1.1 B.1.2.1 dX10_forgetSteps_19 (by decide) ?_
    refine y_icmp_ge (tgt := 40) B hf dX10_forgetSteps_21 (by decide) (fun hf => ?_) (fun hf => ?_)
    · exact y_vret B hR hS hf dX10_forgetSteps_40
    · refine lv_aload_n B.1.1 B.1.2.1 dX10_forgetSteps_24 rfl (hl.at 0 rfl) ?_
      refine lv_sipush (v := 310) B.1.1 B.1.2.1 dX10_forgetSteps_25 (by decide) ?_
      refine lv_iload_n B.1.1 B.1.2.1 dX10_forgetSteps_28 rfl (hl.at 1 rfl) ?_
      refine lv_iadd B.1.1 B.1.2.1 dX10_forgetSteps_29 ?_
      refine lv_iconst (v := 0) B.1.1 B.1.2.1 dX10_forgetSteps_30 (by decide) ?_
      refine y_cv hf (fun q hq => x_runV (ci := 10) (C := RX10) B.1 B.2.2.2 hl hR hS cm_X10_71 ⟨rfl, rfl, Nat.le_of_ble_eq_true rfl, Nat.le_of_ble_eq_true rfl⟩ (by decide) rfl k_p0 (c_X10_put k_p0 hq) rfl rfl (Nat.le_of_ble_eq_true rfl) dX10_forgetSteps_31 ⟨Nat.le_of_ble_eq_true rfl, Nat.le_of_ble_eq_true rfl⟩) hS (fun S1 H locs hf hR hS => ?_)
      refine y_iinc (d := 1) B hl hf dX10_forgetSteps_34 rfl (by decide) (by decide) rfl (fun v2 ls hf hl => ?_)
      have hl : xL ls 2 [_, _] := hl
      refine lv_goto (tgt := 18) B.1.1 B.1.2.1 dX10_forgetSteps_37 (by decide) ?_
      exact ih _ _ _ _ _ _ k_p0 hf hR hS hl
def f_X10_forgetSteps (T : xT) (S : xS) (p0 : Nat) : Option (xS) := xcv (f_X10_put T S p0 ((308 : Int32)) ((1 : Int32))) (fun S1 => xcv (f_X10_put T S1 p0 ((309 : Int32)) ((0 : Int32))) (fun S2 => xl ((0 : Int32)) (fun v3 => f_X10_forgetSteps_18 T xfu S2 p0 v3)))
set_option maxRecDepth 100000 in
set_option maxHeartbeats 4000000 in
theorem c_X10_forgetSteps {l : Launch} {z : Nat} {D : va_G} {dA : Nat → ClassId} {T : xT} {S : xS} {p0 : Nat} (k_p0 : xlk T p0 10 = true) {q : xS} (hf : f_X10_forgetSteps T S p0 = some q) : Met l yX10_forgetSteps (xws yX10_forgetSteps cX10_forgetSteps 2 none) xr_X10_forgetSteps (xPc z D dA T S [.ref (z + p0)]) (xQv z D dA T q) 0 0 (xA z) := by
  refine x_met RX10 (by decide) rfl (Nat.le_of_ble_eq_true rfl) ?_
  intro p e s m below meth c ls _ X hr hlk hml _ hR hS hl
  have B : xB p s m _ meth c cX10_forgetSteps RX10 2 none D dA := ⟨X, hr, hlk, hml⟩
  have hl : xL ls 2 [_, _] := hl
  unfold f_X10_forgetSteps at hf
  refine lv_aload_n B.1.1 B.1.2.1 dX10_forgetSteps_0 rfl (hl.at 0 rfl) ?_
  refine lv_sipush (v := 308) B.1.1 B.1.2.1 dX10_forgetSteps_1 (by decide) ?_
  refine lv_iconst (v := 1) B.1.1 B.1.2.1 dX10_forgetSteps_4 (by decide) ?_
  refine y_cv hf (fun q hq => x_runV (ci := 10) (C := RX10) B.1 B.2.2.2 hl hR hS cm_X10_71 ⟨rfl, rfl, Nat.le_of_ble_eq_true rfl, Nat.le_of_ble_eq_true rfl⟩ (by decide) rfl k_p0 (c_X10_put k_p0 hq) rfl rfl (Nat.le_of_ble_eq_true rfl) dX10_forgetSteps_5 ⟨Nat.le_of_ble_eq_true rfl, Nat.le_of_ble_eq_true rfl⟩) hS (fun S1 H locs hf hR hS => ?_)
  refine lv_aload_n B.1.1 B.1.2.1 dX10_forgetSteps_8 rfl (hl.at 0 rfl) ?_
  refine lv_sipush (v := 309) B.1.1 B.1.2.1 dX10_forgetSteps_9 (by decide) ?_
  refine lv_iconst (v := 0) B.1.1 B.1.2.1 dX10_forgetSteps_12 (by decide) ?_
  refine y_cv hf (fun q hq => x_runV (ci := 10) (C := RX10) B.1 B.2.2.2 hl hR hS cm_X10_71 ⟨rfl, rfl, Nat.le_of_ble_eq_true rfl, Nat.le_of_ble_eq_true rfl⟩ (by decide) rfl k_p0 (c_X10_put k_p0 hq) rfl rfl (Nat.le_of_ble_eq_true rfl) dX10_forgetSteps_13 ⟨Nat.le_of_ble_eq_true rfl, Nat.le_of_ble_eq_true rfl⟩) hS (fun S2 H locs hf hR hS => ?_)
  refine lv_iconst (v := 0) B.1.1 B.1.2.1 dX10_forgetSteps_16 (by decide) ?_
  refine y_istore_n B hl hf dX10_forgetSteps_17 rfl (by decide) rfl (fun v3 ls hf hl => ?_)
  have hl : xL ls 2 [_, _] := hl
  exact w_X10_forgetSteps_18 B xfu _ _ _ _ _ _ k_p0 hf hR hS hl
abbrev xr_X10_weighBy : Room := { frames := 2, cells := 0, slots := 0, locals := 33 }
def f_X10_weighBy_2 (T : xT) : Nat → xS → Nat → Int32 → Int32 → Option (xS)
  | 0, _, _, _, _ => none
  | n + 1, S, p0, p1, p2 => if (8 : Int32) ≤ p2 then some S else xgr T S p0 15 21 (fun a1 => xc (f_X10_get T S p0 ((p1 + p2))) (fun r3 S2 => xsj T S2 a1 p2 ((r3).toInt64) (fun S4 => xl (p2 + (1 : Int32)) (fun v5 => f_X10_weighBy_2 T n S4 p0 p1 v5))))
set_option maxRecDepth 100000 in
set_option maxHeartbeats 4000000 in
theorem w_X10_weighBy_2 {p : Program} {l : Launch} {e : Env} {s : State} {m : MethodId} {args : Array Value} {below : List Frame} {meth : Method} {c : Code} {z : Nat} {D : va_G} {dA : Nat → ClassId} {T : xT} (B : xB p s m args meth c cX10_weighBy RX10 3 none D dA) {q : xS} : ∀ (n : Nat), ∀ (S : xS) (H : Heap) (locs : List Loc) (ls : Array Slot) (p0 : Nat) (p1 : Int32) (p2 : Int32), xlk T p0 10 = true → f_X10_weighBy_2 T n S p0 p1 p2 = some q → xRel z D dA T S H → va_S (xA z) s.heap H locs → xL ls 3 [some (.ref (z + p0)), some (.int p1), some (.int p2)] → xGv p l e xr_X10_weighBy s m args below meth c z D dA T q H locs 2 ls [] := by
  intro n
  induction n with
  | zero =>
    intro S H locs ls p0 p1 p2 k_p0 hf hR hS hl
    exact absurd hf (by simp [f_X10_weighBy_2])
  | succ n ih =>
    intro S H locs ls p0 p1 p2 k_p0 hf hR hS hl
    unfold f_X10_weighBy_2 at hf
    refine lv_iload_n B.1.1 B.1.2.1 dX10_weighBy_2 rfl (hl.at 2 rfl) ?_
    refine lv_bipush (v := 8) B.1.1 B.1.2.1 dX10_weighBy_3 (by decide) ?_
    refine y_icmp_ge (tgt := 28) B hf dX10_weighBy_5 (by decide) (fun hf => ?_) (fun hf => ?_)
    · exact y_vret B hR hS hf dX10_weighBy_28
    · refine lv_aload_n B.1.1 B.1.2.1 dX10_weighBy_8 rfl (hl.at 0 rfl) ?_
      refine y_getR B hR hf k_p0 fl_X10_31 dX10_weighBy_9 (fun a1 k_a1 hf => ?_)
      refine lv_iload_n B.1.1 B.1.2.1 dX10_weighBy_12 rfl (hl.at 2 rfl) ?_
      refine lv_aload_n B.1.1 B.1.2.1 dX10_weighBy_13 rfl (hl.at 0 rfl) ?_
      refine lv_iload_n B.1.1 B.1.2.1 dX10_weighBy_14 rfl (hl.at 1 rfl) ?_
      refine lv_iload_n B.1.1 B.1.2.1 dX10_weighBy_15 rfl (hl.at 2 rfl) ?_
      refine lv_iadd B.1.1 B.1.2.1 dX10_weighBy_16 ?_
      refine y_ci hf (fun q hq => x_runV (ci := 10) (C := RX10) B.1 B.2.2.2 hl hR hS cm_X10_193 ⟨rfl, rfl, Nat.le_of_ble_eq_true rfl, Nat.le_of_ble_eq_true rfl⟩ (by decide) rfl k_p0 (c_X10_get k_p0 hq) rfl rfl (Nat.le_of_ble_eq_true rfl) dX10_weighBy_17 ⟨Nat.le_of_ble_eq_true rfl, Nat.le_of_ble_eq_true rfl⟩) hS (fun r3 S2 H locs hf hR hS => ?_)
      refine lv_i2l B.1.1 B.1.2.1 dX10_weighBy_20 rfl ?_
      refine y_last B hR hS hf k_a1 dX10_weighBy_21 (fun S4 H locs hf hR hS => ?_)
      refine y_iinc (d := 1) B hl hf dX10_weighBy_22 rfl (by decide) (by decide) rfl (fun v5 ls hf hl => ?_)
      have hl : xL ls 3 [_, _, _] := hl
      refine lv_goto (tgt := 2) B.1.1 B.1.2.1 dX10_weighBy_25 (by decide) ?_
      exact ih _ _ _ _ _ _ _ k_p0 hf hR hS hl
def f_X10_weighBy (T : xT) (S : xS) (p0 : Nat) (p1 : Int32) : Option (xS) := xl ((0 : Int32)) (fun v1 => f_X10_weighBy_2 T xfu S p0 p1 v1)
set_option maxRecDepth 100000 in
set_option maxHeartbeats 4000000 in
theorem c_X10_weighBy {l : Launch} {z : Nat} {D : va_G} {dA : Nat → ClassId} {T : xT} {S : xS} {p0 : Nat} {p1 : Int32} (k_p0 : xlk T p0 10 = true) {q : xS} (hf : f_X10_weighBy T S p0 p1 = some q) : Met l yX10_weighBy (xws yX10_weighBy cX10_weighBy 3 none) xr_X10_weighBy (xPc z D dA T S [.ref (z + p0), .int p1]) (xQv z D dA T q) 0 0 (xA z) := by
  refine x_met RX10 (by decide) rfl (Nat.le_of_ble_eq_true rfl) ?_
  intro p e s m below meth c ls _ X hr hlk hml _ hR hS hl
  have B : xB p s m _ meth c cX10_weighBy RX10 3 none D dA := ⟨X, hr, hlk, hml⟩
  have hl : xL ls 3 [_, _, _] := hl
  unfold f_X10_weighBy at hf
  refine lv_iconst (v := 0) B.1.1 B.1.2.1 dX10_weighBy_0 (by decide) ?_
  refine y_istore_n B hl hf dX10_weighBy_1 rfl (by decide) rfl (fun v1 ls hf hl => ?_)
  have hl : xL ls 3 [_, _, _] := hl
  exact w_X10_weighBy_2 B xfu _ _ _ _ _ _ _ k_p0 hf hR hS hl
abbrev xr_X10_notes : Room := { frames := 2, cells := 0, slots := 0, locals := 34 }
def f_X10_notes_3 (T : xT) : Nat → xS → Nat → Int32 → Int32 → Int32 → Int32 → Option (xS)
  | 0, _, _, _, _, _, _ => none
  | n + 1, S, p0, p1, p2, p3, p4 => if (8 : Int32) ≤ p4 then some S else xc (f_X10_stepAt T S p1) (fun r2 S1 => xgr T S1 p0 16 20 (fun a3 => xai T S1 a3 p4 (fun v4 => xcv (f_X10_put T S1 p0 ((r2 + p4)) v4) (fun S5 => xgr T S5 p0 16 20 (fun a6 => xai T S5 a6 p4 (fun v7 => xcv (f_X10_more T S5 p0 ((p2 + p4)) ((p3 * v7))) (fun S8 => xl (p4 + (1 : Int32)) (fun v9 => f_X10_notes_3 T n S8 p0 p1 p2 p3 v9))))))))
set_option maxRecDepth 100000 in
set_option maxHeartbeats 4000000 in
theorem w_X10_notes_3 {p : Program} {l : Launch} {e : Env} {s : State} {m : MethodId} {args : Array Value} {below : List Frame} {meth : Method} {c : Code} {z : Nat} {D : va_G} {dA : Nat → ClassId} {T : xT} (B : xB p s m args meth c cX10_notes RX10 5 none D dA) {q : xS} : ∀ (n : Nat), ∀ (S : xS) (H : Heap) (locs : List Loc) (ls : Array Slot) (p0 : Nat) (p1 : Int32) (p2 : Int32) (p3 : Int32) (p4 : Int32), xlk T p0 10 = true → f_X10_notes_3 T n S p0 p1 p2 p3 p4 = some q → xRel z D dA T S H → va_S (xA z) s.heap H locs → xL ls 5 [some (.ref (z + p0)), some (.int p1), some (.int p2), some (.int p3), some (.int p4)] → xGv p l e xr_X10_notes s m args below meth c z D dA T q H locs 3 ls [] := by
  intro n
  induction n with
  | zero =>
    intro S H locs ls p0 p1 p2 p3 p4 k_p0 hf hR hS hl
    exact absurd hf (by simp [f_X10_notes_3])
  | succ n ih =>
    intro S H locs ls p0 p1 p2 p3 p4 k_p0 hf hR hS hl
    unfold f_X10_notes_3 at hf
    refine lv_iload B.1.1 B.1.2.1 dX10_notes_3 (hl.at 4 rfl) ?_
    refine lv_bipush (v := 8) B.1.1 B.1.2.1 dX10_notes_5 (by decide) ?_
    refine y_icmp_ge (tgt := 51) B hf dX10_notes_7 (by decide) (fun hf => ?_) (fun hf => ?_)
    · exact y_vret B hR hS hf dX10_notes_51
    · refine lv_aload_n B.1.1 B.1.2.1 dX10_notes_10 rfl (hl.at 0 rfl) ?_
      refine lv_iload_n B.1.1 B.1.2.1 dX10_notes_11 rfl (hl.at 1 rfl) ?_
      refine y_ci hf (fun q hq => y_runS B.1 B.2.2.2 hl hR hS cm_X10_243 ⟨rfl, rfl, Nat.le_of_ble_eq_true rfl, Nat.le_of_ble_eq_true rfl⟩ (c_X10_stepAt hq) rfl rfl (Nat.le_of_ble_eq_true rfl) dX10_notes_12 ⟨Nat.le_of_ble_eq_true rfl, Nat.le_of_ble_eq_true rfl⟩) hS (fun r2 S1 H locs hf hR hS => ?_)
      refine lv_iload B.1.1 B.1.2.1 dX10_notes_15 (hl.at 4 rfl) ?_
      refine lv_iadd B.1.1 B.1.2.1 dX10_notes_17 ?_
      refine lv_aload_n B.1.1 B.1.2.1 dX10_notes_18 rfl (hl.at 0 rfl) ?_
      refine y_getR B hR hf k_p0 fl_X10_35 dX10_notes_19 (fun a3 k_a3 hf => ?_)
      refine lv_iload B.1.1 B.1.2.1 dX10_notes_22 (hl.at 4 rfl) ?_
      refine y_iald B hR hf k_a3 dX10_notes_24 (fun v4 hf => ?_)
      refine y_cv hf (fun q hq => x_runV (ci := 10) (C := RX10) B.1 B.2.2.2 hl hR hS cm_X10_71 ⟨rfl, rfl, Nat.le_of_ble_eq_true rfl, Nat.le_of_ble_eq_true rfl⟩ (by decide) rfl k_p0 (c_X10_put k_p0 hq) rfl rfl (Nat.le_of_ble_eq_true rfl) dX10_notes_25 ⟨Nat.le_of_ble_eq_true rfl, Nat.le_of_ble_eq_true rfl⟩) hS (fun S5 H locs hf hR hS => ?_)
      refine lv_aload_n B.1.1 B.1.2.1 dX10_notes_28 rfl (hl.at 0 rfl) ?_
      refine lv_iload_n B.1.1 B.1.2.1 dX10_notes_29 rfl (hl.at 2 rfl) ?_
      refine lv_iload B.1.1 B.1.2.1 dX10_notes_30 (hl.at 4 rfl) ?_
      refine lv_iadd B.1.1 B.1.2.1 dX10_notes_32 ?_
      refine lv_iload_n B.1.1 B.1.2.1 dX10_notes_33 rfl (hl.at 3 rfl) ?_
      refine lv_aload_n B.1.1 B.1.2.1 dX10_notes_34 rfl (hl.at 0 rfl) ?_
      refine y_getR B hR hf k_p0 fl_X10_35 dX10_notes_35 (fun a6 k_a6 hf => ?_)
      refine lv_iload B.1.1 B.1.2.1 dX10_notes_38 (hl.at 4 rfl) ?_
      refine y_iald B hR hf k_a6 dX10_notes_40 (fun v7 hf => ?_)
      refine lv_imul B.1.1 B.1.2.1 dX10_notes_41 ?_
      refine y_cv hf (fun q hq => x_runV (ci := 10) (C := RX10) B.1 B.2.2.2 hl hR hS cm_X10_246 ⟨rfl, rfl, Nat.le_of_ble_eq_true rfl, Nat.le_of_ble_eq_true rfl⟩ (by decide) rfl k_p0 (c_X10_more k_p0 hq) rfl rfl (Nat.le_of_ble_eq_true rfl) dX10_notes_42 ⟨Nat.le_of_ble_eq_true rfl, Nat.le_of_ble_eq_true rfl⟩) hS (fun S8 H locs hf hR hS => ?_)
      refine y_iinc (d := 1) B hl hf dX10_notes_45 rfl (by decide) (by decide) rfl (fun v9 ls hf hl => ?_)
      have hl : xL ls 5 [_, _, _, _, _] := hl
      refine lv_goto (tgt := 3) B.1.1 B.1.2.1 dX10_notes_48 (by decide) ?_
      exact ih _ _ _ _ _ _ _ _ _ k_p0 hf hR hS hl
def f_X10_notes (T : xT) (S : xS) (p0 : Nat) (p1 : Int32) (p2 : Int32) (p3 : Int32) : Option (xS) := xl ((0 : Int32)) (fun v1 => f_X10_notes_3 T xfu S p0 p1 p2 p3 v1)
set_option maxRecDepth 100000 in
set_option maxHeartbeats 4000000 in
theorem c_X10_notes {l : Launch} {z : Nat} {D : va_G} {dA : Nat → ClassId} {T : xT} {S : xS} {p0 : Nat} {p1 : Int32} {p2 : Int32} {p3 : Int32} (k_p0 : xlk T p0 10 = true) {q : xS} (hf : f_X10_notes T S p0 p1 p2 p3 = some q) : Met l yX10_notes (xws yX10_notes cX10_notes 5 none) xr_X10_notes (xPc z D dA T S [.ref (z + p0), .int p1, .int p2, .int p3]) (xQv z D dA T q) 0 0 (xA z) := by
  refine x_met RX10 (by decide) rfl (Nat.le_of_ble_eq_true rfl) ?_
  intro p e s m below meth c ls _ X hr hlk hml _ hR hS hl
  have B : xB p s m _ meth c cX10_notes RX10 5 none D dA := ⟨X, hr, hlk, hml⟩
  have hl : xL ls 5 [_, _, _, _, _] := hl
  unfold f_X10_notes at hf
  refine lv_iconst (v := 0) B.1.1 B.1.2.1 dX10_notes_0 (by decide) ?_
  refine y_istore B hl hf dX10_notes_1 (by decide) rfl (fun v1 ls hf hl => ?_)
  have hl : xL ls 5 [_, _, _, _, _] := hl
  exact w_X10_notes_3 B xfu _ _ _ _ _ _ _ _ _ k_p0 hf hR hS hl
abbrev xr_X10_moves : Room := { frames := 2, cells := 0, slots := 0, locals := 34 }
def f_X10_moves_2 (T : xT) : Nat → xS → Nat → Int32 → Int32 → Int32 → Option (xS)
  | 0, _, _, _, _, _ => none
  | n + 1, S, p0, p1, p2, p3 => if (8 : Int32) ≤ p3 then some S else xgr T S p0 16 20 (fun a1 => xai T S a1 p3 (fun v2 => xcv (f_X10_more T S p0 ((p1 + p3)) ((p2 * v2))) (fun S3 => xl (p3 + (1 : Int32)) (fun v4 => f_X10_moves_2 T n S3 p0 p1 p2 v4))))
set_option maxRecDepth 100000 in
set_option maxHeartbeats 4000000 in
theorem w_X10_moves_2 {p : Program} {l : Launch} {e : Env} {s : State} {m : MethodId} {args : Array Value} {below : List Frame} {meth : Method} {c : Code} {z : Nat} {D : va_G} {dA : Nat → ClassId} {T : xT} (B : xB p s m args meth c cX10_moves RX10 4 none D dA) {q : xS} : ∀ (n : Nat), ∀ (S : xS) (H : Heap) (locs : List Loc) (ls : Array Slot) (p0 : Nat) (p1 : Int32) (p2 : Int32) (p3 : Int32), xlk T p0 10 = true → f_X10_moves_2 T n S p0 p1 p2 p3 = some q → xRel z D dA T S H → va_S (xA z) s.heap H locs → xL ls 4 [some (.ref (z + p0)), some (.int p1), some (.int p2), some (.int p3)] → xGv p l e xr_X10_moves s m args below meth c z D dA T q H locs 2 ls [] := by
  intro n
  induction n with
  | zero =>
    intro S H locs ls p0 p1 p2 p3 k_p0 hf hR hS hl
    exact absurd hf (by simp [f_X10_moves_2])
  | succ n ih =>
    intro S H locs ls p0 p1 p2 p3 k_p0 hf hR hS hl
    unfold f_X10_moves_2 at hf
    refine lv_iload_n B.1.1 B.1.2.1 dX10_moves_2 rfl (hl.at 3 rfl) ?_
    refine lv_bipush (v := 8) B.1.1 B.1.2.1 dX10_moves_3 (by decide) ?_
    refine y_icmp_ge (tgt := 29) B hf dX10_moves_5 (by decide) (fun hf => ?_) (fun hf => ?_)
    · exact y_vret B hR hS hf dX10_moves_29
    · refine lv_aload_n B.1.1 B.1.2.1 dX10_moves_8 rfl (hl.at 0 rfl) ?_
      refine lv_iload_n B.1.1 B.1.2.1 dX10_moves_9 rfl (hl.at 1 rfl) ?_
      refine lv_iload_n B.1.1 B.1.2.1 dX10_moves_10 rfl (hl.at 3 rfl) ?_
      refine lv_iadd B.1.1 B.1.2.1 dX10_moves_11 ?_
      refine lv_iload_n B.1.1 B.1.2.1 dX10_moves_12 rfl (hl.at 2 rfl) ?_
      refine lv_aload_n B.1.1 B.1.2.1 dX10_moves_13 rfl (hl.at 0 rfl) ?_
      refine y_getR B hR hf k_p0 fl_X10_35 dX10_moves_14 (fun a1 k_a1 hf => ?_)
      refine lv_iload_n B.1.1 B.1.2.1 dX10_moves_17 rfl (hl.at 3 rfl) ?_
      refine y_iald B hR hf k_a1 dX10_moves_18 (fun v2 hf => ?_)
      refine lv_imul B.1.1 B.1.2.1 dX10_moves_19 ?_
      refine y_cv hf (fun q hq => x_runV (ci := 10) (C := RX10) B.1 B.2.2.2 hl hR hS cm_X10_246 ⟨rfl, rfl, Nat.le_of_ble_eq_true rfl, Nat.le_of_ble_eq_true rfl⟩ (by decide) rfl k_p0 (c_X10_more k_p0 hq) rfl rfl (Nat.le_of_ble_eq_true rfl) dX10_moves_20 ⟨Nat.le_of_ble_eq_true rfl, Nat.le_of_ble_eq_true rfl⟩) hS (fun S3 H locs hf hR hS => ?_)
      refine y_iinc (d := 1) B hl hf dX10_moves_23 rfl (by decide) (by decide) rfl (fun v4 ls hf hl => ?_)
      have hl : xL ls 4 [_, _, _, _] := hl
      refine lv_goto (tgt := 2) B.1.1 B.1.2.1 dX10_moves_26 (by decide) ?_
      exact ih _ _ _ _ _ _ _ _ k_p0 hf hR hS hl
def f_X10_moves (T : xT) (S : xS) (p0 : Nat) (p1 : Int32) (p2 : Int32) : Option (xS) := xl ((0 : Int32)) (fun v1 => f_X10_moves_2 T xfu S p0 p1 p2 v1)
set_option maxRecDepth 100000 in
set_option maxHeartbeats 4000000 in
theorem c_X10_moves {l : Launch} {z : Nat} {D : va_G} {dA : Nat → ClassId} {T : xT} {S : xS} {p0 : Nat} {p1 : Int32} {p2 : Int32} (k_p0 : xlk T p0 10 = true) {q : xS} (hf : f_X10_moves T S p0 p1 p2 = some q) : Met l yX10_moves (xws yX10_moves cX10_moves 4 none) xr_X10_moves (xPc z D dA T S [.ref (z + p0), .int p1, .int p2]) (xQv z D dA T q) 0 0 (xA z) := by
  refine x_met RX10 (by decide) rfl (Nat.le_of_ble_eq_true rfl) ?_
  intro p e s m below meth c ls _ X hr hlk hml _ hR hS hl
  have B : xB p s m _ meth c cX10_moves RX10 4 none D dA := ⟨X, hr, hlk, hml⟩
  have hl : xL ls 4 [_, _, _, _] := hl
  unfold f_X10_moves at hf
  refine lv_iconst (v := 0) B.1.1 B.1.2.1 dX10_moves_0 (by decide) ?_
  refine y_istore_n B hl hf dX10_moves_1 rfl (by decide) rfl (fun v1 ls hf hl => ?_)
  have hl : xL ls 4 [_, _, _, _] := hl
  exact w_X10_moves_2 B xfu _ _ _ _ _ _ _ _ k_p0 hf hR hS hl
abbrev xr_X10_chargeBack : Room := { frames := 3, cells := 0, slots := 0, locals := 60 }
def f_X10_chargeBack (T : xT) (S : xS) (p0 : Nat) (p1 : Int32) : Option (xS) := xcv (f_X10_weighBy T S p0 ((29 : Int32))) (fun S1 => xc (f_X10_greater T S1 ((0 : Int32)) p1) (fun r3 S2 => xc (f_X10_sumOf T S2 p0 ((29 : Int32))) (fun r5 S4 => xc (f_X10_lesser T S4 r3 r5) (fun r7 S6 => xcv (f_X10_dealOut T S6 p0 r7) (fun S8 => xcv (f_X10_notes T S8 p0 ((0 : Int32)) ((29 : Int32)) ((-1 : Int32))) (fun S9 => xcv (f_X10_moves T S9 p0 ((37 : Int32)) ((1 : Int32))) (fun S10 => xcv (f_X10_weighBy T S10 p0 ((37 : Int32))) (fun S11 => xc (f_X10_get T S11 p0 ((2 : Int32))) (fun r13 S12 => xc (f_X10_greater T S12 ((0 : Int32)) r13) (fun r15 S14 => xc (f_X10_sumOf T S14 p0 ((37 : Int32))) (fun r17 S16 => xc (f_X10_lesser T S16 r15 r17) (fun r19 S18 => xl r19 (fun v20 => xcv (f_X10_dealOut T S18 p0 v20) (fun S21 => xcv (f_X10_notes T S21 p0 ((1 : Int32)) ((5 : Int32)) ((1 : Int32))) (fun S22 => xcv (f_X10_moves T S22 p0 ((37 : Int32)) ((-1 : Int32))) (fun S23 => xcv (f_X10_more T S23 p0 ((2 : Int32)) ((-v20))) (fun S24 => some S24)))))))))))))))))
set_option maxRecDepth 100000 in
set_option maxHeartbeats 4000000 in
theorem c_X10_chargeBack {l : Launch} {z : Nat} {D : va_G} {dA : Nat → ClassId} {T : xT} {S : xS} {p0 : Nat} {p1 : Int32} (k_p0 : xlk T p0 10 = true) {q : xS} (hf : f_X10_chargeBack T S p0 p1 = some q) : Met l yX10_chargeBack (xws yX10_chargeBack cX10_chargeBack 3 none) xr_X10_chargeBack (xPc z D dA T S [.ref (z + p0), .int p1]) (xQv z D dA T q) 0 0 (xA z) := by
  refine x_met RX10 (by decide) rfl (Nat.le_of_ble_eq_true rfl) ?_
  intro p e s m below meth c ls _ X hr hlk hml _ hR hS hl
  have B : xB p s m _ meth c cX10_chargeBack RX10 3 none D dA := ⟨X, hr, hlk, hml⟩
  have hl : xL ls 3 [_, _, _] := hl
  unfold f_X10_chargeBack at hf
  refine lv_aload_n B.1.1 B.1.2.1 dX10_chargeBack_0 rfl (hl.at 0 rfl) ?_
  refine lv_bipush (v := 29) B.1.1 B.1.2.1 dX10_chargeBack_1 (by decide) ?_
  refine y_cv hf (fun q hq => x_runV (ci := 10) (C := RX10) B.1 B.2.2.2 hl hR hS cm_X10_249 ⟨rfl, rfl, Nat.le_of_ble_eq_true rfl, Nat.le_of_ble_eq_true rfl⟩ (by decide) rfl k_p0 (c_X10_weighBy k_p0 hq) rfl rfl (Nat.le_of_ble_eq_true rfl) dX10_chargeBack_3 ⟨Nat.le_of_ble_eq_true rfl, Nat.le_of_ble_eq_true rfl⟩) hS (fun S1 H locs hf hR hS => ?_)
  refine lv_aload_n B.1.1 B.1.2.1 dX10_chargeBack_6 rfl (hl.at 0 rfl) ?_
  refine lv_iconst (v := 0) B.1.1 B.1.2.1 dX10_chargeBack_7 (by decide) ?_
  refine lv_iload_n B.1.1 B.1.2.1 dX10_chargeBack_8 rfl (hl.at 1 rfl) ?_
  refine y_ci hf (fun q hq => y_runS B.1 B.2.2.2 hl hR hS cm_X10_224 ⟨rfl, rfl, Nat.le_of_ble_eq_true rfl, Nat.le_of_ble_eq_true rfl⟩ (c_X10_greater hq) rfl rfl (Nat.le_of_ble_eq_true rfl) dX10_chargeBack_9 ⟨Nat.le_of_ble_eq_true rfl, Nat.le_of_ble_eq_true rfl⟩) hS (fun r3 S2 H locs hf hR hS => ?_)
  refine lv_aload_n B.1.1 B.1.2.1 dX10_chargeBack_12 rfl (hl.at 0 rfl) ?_
  refine lv_bipush (v := 29) B.1.1 B.1.2.1 dX10_chargeBack_13 (by decide) ?_
  refine y_ci hf (fun q hq => x_runV (ci := 10) (C := RX10) B.1 B.2.2.2 hl hR hS cm_X10_228 ⟨rfl, rfl, Nat.le_of_ble_eq_true rfl, Nat.le_of_ble_eq_true rfl⟩ (by decide) rfl k_p0 (c_X10_sumOf k_p0 hq) rfl rfl (Nat.le_of_ble_eq_true rfl) dX10_chargeBack_15 ⟨Nat.le_of_ble_eq_true rfl, Nat.le_of_ble_eq_true rfl⟩) hS (fun r5 S4 H locs hf hR hS => ?_)
  refine y_ci hf (fun q hq => y_runS B.1 B.2.2.2 hl hR hS cm_X10_252 ⟨rfl, rfl, Nat.le_of_ble_eq_true rfl, Nat.le_of_ble_eq_true rfl⟩ (c_X10_lesser hq) rfl rfl (Nat.le_of_ble_eq_true rfl) dX10_chargeBack_18 ⟨Nat.le_of_ble_eq_true rfl, Nat.le_of_ble_eq_true rfl⟩) hS (fun r7 S6 H locs hf hR hS => ?_)
  refine y_cv hf (fun q hq => x_runV (ci := 10) (C := RX10) B.1 B.2.2.2 hl hR hS cm_X10_209 ⟨rfl, rfl, Nat.le_of_ble_eq_true rfl, Nat.le_of_ble_eq_true rfl⟩ (by decide) rfl k_p0 (c_X10_dealOut k_p0 hq) rfl rfl (Nat.le_of_ble_eq_true rfl) dX10_chargeBack_21 ⟨Nat.le_of_ble_eq_true rfl, Nat.le_of_ble_eq_true rfl⟩) hS (fun S8 H locs hf hR hS => ?_)
  refine lv_aload_n B.1.1 B.1.2.1 dX10_chargeBack_24 rfl (hl.at 0 rfl) ?_
  refine lv_iconst (v := 0) B.1.1 B.1.2.1 dX10_chargeBack_25 (by decide) ?_
  refine lv_bipush (v := 29) B.1.1 B.1.2.1 dX10_chargeBack_26 (by decide) ?_
  refine lv_iconst (v := -1) B.1.1 B.1.2.1 dX10_chargeBack_28 (by decide) ?_
  refine y_cv hf (fun q hq => x_runV (ci := 10) (C := RX10) B.1 B.2.2.2 hl hR hS cm_X10_255 ⟨rfl, rfl, Nat.le_of_ble_eq_true rfl, Nat.le_of_ble_eq_true rfl⟩ (by decide) rfl k_p0 (c_X10_notes k_p0 hq) rfl rfl (Nat.le_of_ble_eq_true rfl) dX10_chargeBack_29 ⟨Nat.le_of_ble_eq_true rfl, Nat.le_of_ble_eq_true rfl⟩) hS (fun S9 H locs hf hR hS => ?_)
  refine lv_aload_n B.1.1 B.1.2.1 dX10_chargeBack_32 rfl (hl.at 0 rfl) ?_
  refine lv_bipush (v := 37) B.1.1 B.1.2.1 dX10_chargeBack_33 (by decide) ?_
  refine lv_iconst (v := 1) B.1.1 B.1.2.1 dX10_chargeBack_35 (by decide) ?_
  refine y_cv hf (fun q hq => x_runV (ci := 10) (C := RX10) B.1 B.2.2.2 hl hR hS cm_X10_259 ⟨rfl, rfl, Nat.le_of_ble_eq_true rfl, Nat.le_of_ble_eq_true rfl⟩ (by decide) rfl k_p0 (c_X10_moves k_p0 hq) rfl rfl (Nat.le_of_ble_eq_true rfl) dX10_chargeBack_36 ⟨Nat.le_of_ble_eq_true rfl, Nat.le_of_ble_eq_true rfl⟩) hS (fun S10 H locs hf hR hS => ?_)
  refine lv_aload_n B.1.1 B.1.2.1 dX10_chargeBack_39 rfl (hl.at 0 rfl) ?_
  refine lv_bipush (v := 37) B.1.1 B.1.2.1 dX10_chargeBack_40 (by decide) ?_
  refine y_cv hf (fun q hq => x_runV (ci := 10) (C := RX10) B.1 B.2.2.2 hl hR hS cm_X10_249 ⟨rfl, rfl, Nat.le_of_ble_eq_true rfl, Nat.le_of_ble_eq_true rfl⟩ (by decide) rfl k_p0 (c_X10_weighBy k_p0 hq) rfl rfl (Nat.le_of_ble_eq_true rfl) dX10_chargeBack_42 ⟨Nat.le_of_ble_eq_true rfl, Nat.le_of_ble_eq_true rfl⟩) hS (fun S11 H locs hf hR hS => ?_)
  refine lv_iconst (v := 0) B.1.1 B.1.2.1 dX10_chargeBack_45 (by decide) ?_
  refine lv_aload_n B.1.1 B.1.2.1 dX10_chargeBack_46 rfl (hl.at 0 rfl) ?_
  refine lv_iconst (v := 2) B.1.1 B.1.2.1 dX10_chargeBack_47 (by decide) ?_
  refine y_ci hf (fun q hq => x_runV (ci := 10) (C := RX10) B.1 B.2.2.2 hl hR hS cm_X10_193 ⟨rfl, rfl, Nat.le_of_ble_eq_true rfl, Nat.le_of_ble_eq_true rfl⟩ (by decide) rfl k_p0 (c_X10_get k_p0 hq) rfl rfl (Nat.le_of_ble_eq_true rfl) dX10_chargeBack_48 ⟨Nat.le_of_ble_eq_true rfl, Nat.le_of_ble_eq_true rfl⟩) hS (fun r13 S12 H locs hf hR hS => ?_)
  refine y_ci hf (fun q hq => y_runS B.1 B.2.2.2 hl hR hS cm_X10_224 ⟨rfl, rfl, Nat.le_of_ble_eq_true rfl, Nat.le_of_ble_eq_true rfl⟩ (c_X10_greater hq) rfl rfl (Nat.le_of_ble_eq_true rfl) dX10_chargeBack_51 ⟨Nat.le_of_ble_eq_true rfl, Nat.le_of_ble_eq_true rfl⟩) hS (fun r15 S14 H locs hf hR hS => ?_)
  refine lv_aload_n B.1.1 B.1.2.1 dX10_chargeBack_54 rfl (hl.at 0 rfl) ?_
  refine lv_bipush (v := 37) B.1.1 B.1.2.1 dX10_chargeBack_55 (by decide) ?_
  refine y_ci hf (fun q hq => x_runV (ci := 10) (C := RX10) B.1 B.2.2.2 hl hR hS cm_X10_228 ⟨rfl, rfl, Nat.le_of_ble_eq_true rfl, Nat.le_of_ble_eq_true rfl⟩ (by decide) rfl k_p0 (c_X10_sumOf k_p0 hq) rfl rfl (Nat.le_of_ble_eq_true rfl) dX10_chargeBack_57 ⟨Nat.le_of_ble_eq_true rfl, Nat.le_of_ble_eq_true rfl⟩) hS (fun r17 S16 H locs hf hR hS => ?_)
  refine y_ci hf (fun q hq => y_runS B.1 B.2.2.2 hl hR hS cm_X10_252 ⟨rfl, rfl, Nat.le_of_ble_eq_true rfl, Nat.le_of_ble_eq_true rfl⟩ (c_X10_lesser hq) rfl rfl (Nat.le_of_ble_eq_true rfl) dX10_chargeBack_60 ⟨Nat.le_of_ble_eq_true rfl, Nat.le_of_ble_eq_true rfl⟩) hS (fun r19 S18 H locs hf hR hS => ?_)
  refine y_istore_n B hl hf dX10_chargeBack_63 rfl (by decide) rfl (fun v20 ls hf hl => ?_)
  have hl : xL ls 3 [_, _, _] := hl
  refine lv_aload_n B.1.1 B.1.2.1 dX10_chargeBack_64 rfl (hl.at 0 rfl) ?_
  refine lv_iload_n B.1.1 B.1.2.1 dX10_chargeBack_65 rfl (hl.at 2 rfl) ?_
  refine y_cv hf (fun q hq => x_runV (ci := 10) (C := RX10) B.1 B.2.2.2 hl hR hS cm_X10_209 ⟨rfl, rfl, Nat.le_of_ble_eq_true rfl, Nat.le_of_ble_eq_true rfl⟩ (by decide) rfl k_p0 (c_X10_dealOut k_p0 hq) rfl rfl (Nat.le_of_ble_eq_true rfl) dX10_chargeBack_66 ⟨Nat.le_of_ble_eq_true rfl, Nat.le_of_ble_eq_true rfl⟩) hS (fun S21 H locs hf hR hS => ?_)
  refine lv_aload_n B.1.1 B.1.2.1 dX10_chargeBack_69 rfl (hl.at 0 rfl) ?_
  refine lv_iconst (v := 1) B.1.1 B.1.2.1 dX10_chargeBack_70 (by decide) ?_
  refine lv_iconst (v := 5) B.1.1 B.1.2.1 dX10_chargeBack_71 (by decide) ?_
  refine lv_iconst (v := 1) B.1.1 B.1.2.1 dX10_chargeBack_72 (by decide) ?_
  refine y_cv hf (fun q hq => x_runV (ci := 10) (C := RX10) B.1 B.2.2.2 hl hR hS cm_X10_255 ⟨rfl, rfl, Nat.le_of_ble_eq_true rfl, Nat.le_of_ble_eq_true rfl⟩ (by decide) rfl k_p0 (c_X10_notes k_p0 hq) rfl rfl (Nat.le_of_ble_eq_true rfl) dX10_chargeBack_73 ⟨Nat.le_of_ble_eq_true rfl, Nat.le_of_ble_eq_true rfl⟩) hS (fun S22 H locs hf hR hS => ?_)
  refine lv_aload_n B.1.1 B.1.2.1 dX10_chargeBack_76 rfl (hl.at 0 rfl) ?_
  refine lv_bipush (v := 37) B.1.1 B.1.2.1 dX10_chargeBack_77 (by decide) ?_
  refine lv_iconst (v := -1) B.1.1 B.1.2.1 dX10_chargeBack_79 (by decide) ?_
  refine y_cv hf (fun q hq => x_runV (ci := 10) (C := RX10) B.1 B.2.2.2 hl hR hS cm_X10_259 ⟨rfl, rfl, Nat.le_of_ble_eq_true rfl, Nat.le_of_ble_eq_true rfl⟩ (by decide) rfl k_p0 (c_X10_moves k_p0 hq) rfl rfl (Nat.le_of_ble_eq_true rfl) dX10_chargeBack_80 ⟨Nat.le_of_ble_eq_true rfl, Nat.le_of_ble_eq_true rfl⟩) hS (fun S23 H locs hf hR hS => ?_)
  refine lv_aload_n B.1.1 B.1.2.1 dX10_chargeBack_83 rfl (hl.at 0 rfl) ?_
  refine lv_iconst (v := 2) B.1.1 B.1.2.1 dX10_chargeBack_84 (by decide) ?_
  refine lv_iload_n B.1.1 B.1.2.1 dX10_chargeBack_85 rfl (hl.at 2 rfl) ?_
  refine lv_ineg B.1.1 B.1.2.1 dX10_chargeBack_86 ?_
  refine y_cv hf (fun q hq => x_runV (ci := 10) (C := RX10) B.1 B.2.2.2 hl hR hS cm_X10_246 ⟨rfl, rfl, Nat.le_of_ble_eq_true rfl, Nat.le_of_ble_eq_true rfl⟩ (by decide) rfl k_p0 (c_X10_more k_p0 hq) rfl rfl (Nat.le_of_ble_eq_true rfl) dX10_chargeBack_87 ⟨Nat.le_of_ble_eq_true rfl, Nat.le_of_ble_eq_true rfl⟩) hS (fun S24 H locs hf hR hS => ?_)
  exact y_vret B hR hS hf dX10_chargeBack_90
abbrev xr_X10_takeLoss : Room := { frames := 4, cells := 0, slots := 0, locals := 79 }
def f_X10_takeLoss (T : xT) (S : xS) (p0 : Nat) (p1 : Int32) : Option (xS) := xc (f_X10_greater T S ((0 : Int32)) p1) (fun r2 S1 => xc (f_X10_get T S1 p0 ((2 : Int32))) (fun r4 S3 => xc (f_X10_greater T S3 ((0 : Int32)) ((-r4))) (fun r6 S5 => xc (f_X10_lesser T S5 r2 r6) (fun r8 S7 => xl r8 (fun v9 => xc (f_X10_get T S7 p0 ((0 : Int32))) (fun r11 S10 => xcv (f_X10_weighRatio T S10 p0 r11) (fun S12 => xcv (f_X10_dealOut T S12 p0 v9) (fun S13 => xcv (f_X10_notes T S13 p0 ((2 : Int32)) ((5 : Int32)) ((-1 : Int32))) (fun S14 => xcv (f_X10_moves T S14 p0 ((29 : Int32)) ((1 : Int32))) (fun S15 => xcv (f_X10_more T S15 p0 ((2 : Int32)) v9) (fun S16 => some S16)))))))))))
set_option maxRecDepth 100000 in
set_option maxHeartbeats 4000000 in
theorem c_X10_takeLoss {l : Launch} {z : Nat} {D : va_G} {dA : Nat → ClassId} {T : xT} {S : xS} {p0 : Nat} {p1 : Int32} (k_p0 : xlk T p0 10 = true) {q : xS} (hf : f_X10_takeLoss T S p0 p1 = some q) : Met l yX10_takeLoss (xws yX10_takeLoss cX10_takeLoss 3 none) xr_X10_takeLoss (xPc z D dA T S [.ref (z + p0), .int p1]) (xQv z D dA T q) 0 0 (xA z) := by
  refine x_met RX10 (by decide) rfl (Nat.le_of_ble_eq_true rfl) ?_
  intro p e s m below meth c ls _ X hr hlk hml _ hR hS hl
  have B : xB p s m _ meth c cX10_takeLoss RX10 3 none D dA := ⟨X, hr, hlk, hml⟩
  have hl : xL ls 3 [_, _, _] := hl
  unfold f_X10_takeLoss at hf
  refine lv_iconst (v := 0) B.1.1 B.1.2.1 dX10_takeLoss_0 (by decide) ?_
  refine lv_iload_n B.1.1 B.1.2.1 dX10_takeLoss_1 rfl (hl.at 1 rfl) ?_
  refine y_ci hf (fun q hq => y_runS B.1 B.2.2.2 hl hR hS cm_X10_224 ⟨rfl, rfl, Nat.le_of_ble_eq_true rfl, Nat.le_of_ble_eq_true rfl⟩ (c_X10_greater hq) rfl rfl (Nat.le_of_ble_eq_true rfl) dX10_takeLoss_2 ⟨Nat.le_of_ble_eq_true rfl, Nat.le_of_ble_eq_true rfl⟩) hS (fun r2 S1 H locs hf hR hS => ?_)
  refine lv_iconst (v := 0) B.1.1 B.1.2.1 dX10_takeLoss_5 (by decide) ?_
  refine lv_aload_n B.1.1 B.1.2.1 dX10_takeLoss_6 rfl (hl.at 0 rfl) ?_
  refine lv_iconst (v := 2) B.1.1 B.1.2.1 dX10_takeLoss_7 (by decide) ?_
  refine y_ci hf (fun q hq => x_runV (ci := 10) (C := RX10) B.1 B.2.2.2 hl hR hS cm_X10_193 ⟨rfl, rfl, Nat.le_of_ble_eq_true rfl, Nat.le_of_ble_eq_true rfl⟩ (by decide) rfl k_p0 (c_X10_get k_p0 hq) rfl rfl (Nat.le_of_ble_eq_true rfl) dX10_takeLoss_8 ⟨Nat.le_of_ble_eq_true rfl, Nat.le_of_ble_eq_true rfl⟩) hS (fun r4 S3 H locs hf hR hS => ?_)
  refine lv_ineg B.1.1 B.1.2.1 dX10_takeLoss_11 ?_
  refine y_ci hf (fun q hq => y_runS B.1 B.2.2.2 hl hR hS cm_X10_224 ⟨rfl, rfl, Nat.le_of_ble_eq_true rfl, Nat.le_of_ble_eq_true rfl⟩ (c_X10_greater hq) rfl rfl (Nat.le_of_ble_eq_true rfl) dX10_takeLoss_12 ⟨Nat.le_of_ble_eq_true rfl, Nat.le_of_ble_eq_true rfl⟩) hS (fun r6 S5 H locs hf hR hS => ?_)
  refine y_ci hf (fun q hq => y_runS B.1 B.2.2.2 hl hR hS cm_X10_252 ⟨rfl, rfl, Nat.le_of_ble_eq_true rfl, Nat.le_of_ble_eq_true rfl⟩ (c_X10_lesser hq) rfl rfl (Nat.le_of_ble_eq_true rfl) dX10_takeLoss_15 ⟨Nat.le_of_ble_eq_true rfl, Nat.le_of_ble_eq_true rfl⟩) hS (fun r8 S7 H locs hf hR hS => ?_)
  refine y_istore_n B hl hf dX10_takeLoss_18 rfl (by decide) rfl (fun v9 ls hf hl => ?_)
  have hl : xL ls 3 [_, _, _] := hl
  refine lv_aload_n B.1.1 B.1.2.1 dX10_takeLoss_19 rfl (hl.at 0 rfl) ?_
  refine lv_aload_n B.1.1 B.1.2.1 dX10_takeLoss_20 rfl (hl.at 0 rfl) ?_
  refine lv_iconst (v := 0) B.1.1 B.1.2.1 dX10_takeLoss_21 (by decide) ?_
  refine y_ci hf (fun q hq => x_runV (ci := 10) (C := RX10) B.1 B.2.2.2 hl hR hS cm_X10_193 ⟨rfl, rfl, Nat.le_of_ble_eq_true rfl, Nat.le_of_ble_eq_true rfl⟩ (by decide) rfl k_p0 (c_X10_get k_p0 hq) rfl rfl (Nat.le_of_ble_eq_true rfl) dX10_takeLoss_22 ⟨Nat.le_of_ble_eq_true rfl, Nat.le_of_ble_eq_true rfl⟩) hS (fun r11 S10 H locs hf hR hS => ?_)
  refine y_cv hf (fun q hq => x_runV (ci := 10) (C := RX10) B.1 B.2.2.2 hl hR hS cm_X10_262 ⟨rfl, rfl, Nat.le_of_ble_eq_true rfl, Nat.le_of_ble_eq_true rfl⟩ (by decide) rfl k_p0 (c_X10_weighRatio k_p0 hq) rfl rfl (Nat.le_of_ble_eq_true rfl) dX10_takeLoss_25 ⟨Nat.le_of_ble_eq_true rfl, Nat.le_of_ble_eq_true rfl⟩) hS (fun S12 H locs hf hR hS => ?_)
  refine lv_aload_n B.1.1 B.1.2.1 dX10_takeLoss_28 rfl (hl.at 0 rfl) ?_
  refine lv_iload_n B.1.1 B.1.2.1 dX10_takeLoss_29 rfl (hl.at 2 rfl) ?_
  refine y_cv hf (fun q hq => x_runV (ci := 10) (C := RX10) B.1 B.2.2.2 hl hR hS cm_X10_209 ⟨rfl, rfl, Nat.le_of_ble_eq_true rfl, Nat.le_of_ble_eq_true rfl⟩ (by decide) rfl k_p0 (c_X10_dealOut k_p0 hq) rfl rfl (Nat.le_of_ble_eq_true rfl) dX10_takeLoss_30 ⟨Nat.le_of_ble_eq_true rfl, Nat.le_of_ble_eq_true rfl⟩) hS (fun S13 H locs hf hR hS => ?_)
  refine lv_aload_n B.1.1 B.1.2.1 dX10_takeLoss_33 rfl (hl.at 0 rfl) ?_
  refine lv_iconst (v := 2) B.1.1 B.1.2.1 dX10_takeLoss_34 (by decide) ?_
  refine lv_iconst (v := 5) B.1.1 B.1.2.1 dX10_takeLoss_35 (by decide) ?_
  refine lv_iconst (v := -1) B.1.1 B.1.2.1 dX10_takeLoss_36 (by decide) ?_
  refine y_cv hf (fun q hq => x_runV (ci := 10) (C := RX10) B.1 B.2.2.2 hl hR hS cm_X10_255 ⟨rfl, rfl, Nat.le_of_ble_eq_true rfl, Nat.le_of_ble_eq_true rfl⟩ (by decide) rfl k_p0 (c_X10_notes k_p0 hq) rfl rfl (Nat.le_of_ble_eq_true rfl) dX10_takeLoss_37 ⟨Nat.le_of_ble_eq_true rfl, Nat.le_of_ble_eq_true rfl⟩) hS (fun S14 H locs hf hR hS => ?_)
  refine lv_aload_n B.1.1 B.1.2.1 dX10_takeLoss_40 rfl (hl.at 0 rfl) ?_
  refine lv_bipush (v := 29) B.1.1 B.1.2.1 dX10_takeLoss_41 (by decide) ?_
  refine lv_iconst (v := 1) B.1.1 B.1.2.1 dX10_takeLoss_43 (by decide) ?_
  refine y_cv hf (fun q hq => x_runV (ci := 10) (C := RX10) B.1 B.2.2.2 hl hR hS cm_X10_259 ⟨rfl, rfl, Nat.le_of_ble_eq_true rfl, Nat.le_of_ble_eq_true rfl⟩ (by decide) rfl k_p0 (c_X10_moves k_p0 hq) rfl rfl (Nat.le_of_ble_eq_true rfl) dX10_takeLoss_44 ⟨Nat.le_of_ble_eq_true rfl, Nat.le_of_ble_eq_true rfl⟩) hS (fun S15 H locs hf hR hS => ?_)
  refine lv_aload_n B.1.1 B.1.2.1 dX10_takeLoss_47 rfl (hl.at 0 rfl) ?_
  refine lv_iconst (v := 2) B.1.1 B.1.2.1 dX10_takeLoss_48 (by decide) ?_
  refine lv_iload_n B.1.1 B.1.2.1 dX10_takeLoss_49 rfl (hl.at 2 rfl) ?_
  refine y_cv hf (fun q hq => x_runV (ci := 10) (C := RX10) B.1 B.2.2.2 hl hR hS cm_X10_246 ⟨rfl, rfl, Nat.le_of_ble_eq_true rfl, Nat.le_of_ble_eq_true rfl⟩ (by decide) rfl k_p0 (c_X10_more k_p0 hq) rfl rfl (Nat.le_of_ble_eq_true rfl) dX10_takeLoss_50 ⟨Nat.le_of_ble_eq_true rfl, Nat.le_of_ble_eq_true rfl⟩) hS (fun S16 H locs hf hR hS => ?_)
  exact y_vret B hR hS hf dX10_takeLoss_53
