abbrev xr_X10_sumOf : Room := { frames := 2, cells := 0, slots := 0, locals := 33 }
def f_X10_sumOf_4 (T : xT) : Nat → xS → Nat → Int32 → Int32 → Int32 → Option (Int32 × xS)
  | 0, _, _, _, _, _ => none
  | n + 1, S, p0, p1, p2, p3 => if (8 : Int32) ≤ p3 then some (p2, S) else xc (f_X10_get T S p0 ((p1 + p3))) (fun r2 S1 => xl ((p2 + r2)) (fun v3 => xl (p3 + (1 : Int32)) (fun v4 => f_X10_sumOf_4 T n S1 p0 p1 v3 v4)))
set_option maxRecDepth 100000 in
set_option maxHeartbeats 4000000 in
theorem w_X10_sumOf_4 {p : Program} {l : Launch} {e : Env} {s : State} {m : MethodId} {args : Array Value} {below : List Frame} {meth : Method} {c : Code} {z : Nat} {D : va_G} {dA : Nat → ClassId} {T : xT} (B : xB p s m args meth c cX10_sumOf RX10 4 (some .int) D dA) {q : Int32 × xS} : ∀ (n : Nat), ∀ (S : xS) (H : Heap) (locs : List Loc) (ls : Array Slot) (p0 : Nat) (p1 : Int32) (p2 : Int32) (p3 : Int32), xlk T p0 10 = true → f_X10_sumOf_4 T n S p0 p1 p2 p3 = some q → xRel z D dA T S H → va_S (xA z) s.heap H locs → xL ls 4 [some (.ref (z + p0)), some (.int p1), some (.int p2), some (.int p3)] → xGi p l e xr_X10_sumOf s m args below meth c z D dA T q H locs 4 ls [] := by
  intro n
  induction n with
  | zero =>
    intro S H locs ls p0 p1 p2 p3 k_p0 hf hR hS hl
    exact absurd hf (by simp [f_X10_sumOf_4])
  | succ n ih =>
    intro S H locs ls p0 p1 p2 p3 k_p0 hf hR hS hl
    unfold f_X10_sumOf_4 at hf
    refine lv_iload_n B.1.1 B.1.2.1 dX10_sumOf_4 rfl (hl.at 3 rfl) ?_
    refine lv_bipush (v := 8) B.1.1 B.1.2.1 dX10_sumOf_5 (by decide) ?_
    refine y_icmp_ge (tgt := 26) B hf dX10_sumOf_7 (by decide) (fun hf => ?_) (fun hf => ?_)
    · refine lv_iload_n B.1.1 B.1.2.1 dX10_sumOf_26 rfl (hl.at 2 rfl) ?_
      exact y_iret B hR hS hf dX10_sumOf_27
    · refine lv_iload_n B.1.1 B.1.2.1 dX10_sumOf_10 rfl (hl.at 2 rfl) ?_
      refine lv_aload_n B.1.1 B.1.2.1 dX10_sumOf_11 rfl (hl.at 0 rfl) ?_
      refine lv_iload_n B.1.1 B.1.2.1 dX10_sumOf_12 rfl (hl.at 1 rfl) ?_
      refine lv_iload_n B.1.1 B.1.2.1 dX10_sumOf_13 rfl (hl.at 3 rfl) ?_
      refine lv_iadd B.1.1 B.1.2.1 dX10_sumOf_14 ?_
      refine y_ci hf (fun q hq => x_runV (ci := 10) (C := RX10) B.1 B.2.2.2 hl hR hS cm_X10_193 ⟨rfl, rfl, Nat.le_of_ble_eq_true rfl, Nat.le_of_ble_eq_true rfl⟩ (by decide) rfl k_p0 (c_X10_get k_p0 hq) rfl rfl (Nat.le_of_ble_eq_true rfl) dX10_sumOf_15 ⟨Nat.le_of_ble_eq_true rfl, Nat.le_of_ble_eq_true rfl⟩) hS (fun r2 S1 H locs hf hR hS => ?_)
      refine lv_iadd B.1.1 B.1.2.1 dX10_sumOf_18 ?_
      refine y_istore_n B hl hf dX10_sumOf_19 rfl (by decide) rfl (fun v3 ls hf hl => ?_)
      have hl : xL ls 4 [_, _, _, _] := hl
      refine y_iinc (d := 1) B hl hf dX10_sumOf_20 rfl (by decide) (by decide) rfl (fun v4 ls hf hl => ?_)
      have hl : xL ls 4 [_, _, _, _] := hl
      refine lv_goto (tgt := 4) B.1.1 B.1.2.1 dX10_sumOf_23 (by decide) ?_
      exact ih _ _ _ _ _ _ _ _ k_p0 hf hR hS hl
def f_X10_sumOf (T : xT) (S : xS) (p0 : Nat) (p1 : Int32) : Option (Int32 × xS) := xl ((0 : Int32)) (fun v1 => xl ((0 : Int32)) (fun v2 => f_X10_sumOf_4 T xfu S p0 p1 v1 v2))
set_option maxRecDepth 100000 in
set_option maxHeartbeats 4000000 in
theorem c_X10_sumOf {l : Launch} {z : Nat} {D : va_G} {dA : Nat → ClassId} {T : xT} {S : xS} {p0 : Nat} {p1 : Int32} (k_p0 : xlk T p0 10 = true) {q : Int32 × xS} (hf : f_X10_sumOf T S p0 p1 = some q) : Met l yX10_sumOf (xws yX10_sumOf cX10_sumOf 4 (some .int)) xr_X10_sumOf (xPc z D dA T S [.ref (z + p0), .int p1]) (xQi z D dA T q) 0 0 (xA z) := by
  refine x_met RX10 (by decide) rfl (Nat.le_of_ble_eq_true rfl) ?_
  intro p e s m below meth c ls _ X hr hlk hml _ hR hS hl
  have B : xB p s m _ meth c cX10_sumOf RX10 4 (some .int) D dA := ⟨X, hr, hlk, hml⟩
  have hl : xL ls 4 [_, _, _, _] := hl
  unfold f_X10_sumOf at hf
  refine lv_iconst (v := 0) B.1.1 B.1.2.1 dX10_sumOf_0 (by decide) ?_
  refine y_istore_n B hl hf dX10_sumOf_1 rfl (by decide) rfl (fun v1 ls hf hl => ?_)
  have hl : xL ls 4 [_, _, _, _] := hl
  refine lv_iconst (v := 0) B.1.1 B.1.2.1 dX10_sumOf_2 (by decide) ?_
  refine y_istore_n B hl hf dX10_sumOf_3 rfl (by decide) rfl (fun v2 ls hf hl => ?_)
  have hl : xL ls 4 [_, _, _, _] := hl
  exact w_X10_sumOf_4 B xfu _ _ _ _ _ _ _ _ k_p0 hf hR hS hl
abbrev xr_X10_assetAt : Room := { frames := 1, cells := 0, slots := 0, locals := 12 }
def f_X10_assetAt (T : xT) (S : xS) (p0 : Int32) : Option (Int32 × xS) := some (((45 : Int32) + ((4 : Int32) * p0)), S)
set_option maxRecDepth 100000 in
set_option maxHeartbeats 4000000 in
theorem c_X10_assetAt {l : Launch} {z : Nat} {D : va_G} {dA : Nat → ClassId} {T : xT} {S : xS} {p0 : Int32} {q : Int32 × xS} (hf : f_X10_assetAt T S p0 = some q) : Met l yX10_assetAt (xws yX10_assetAt cX10_assetAt 1 (some .int)) xr_X10_assetAt (xPc z D dA T S [.int p0]) (xQi z D dA T q) 0 0 (xA z) := by
  refine x_met RX10 (by decide) rfl (Nat.le_of_ble_eq_true rfl) ?_
  intro p e s m below meth c ls _ X hr hlk hml _ hR hS hl
  have B : xB p s m _ meth c cX10_assetAt RX10 1 (some .int) D dA := ⟨X, hr, hlk, hml⟩
  have hl : xL ls 1 [_] := hl
  unfold f_X10_assetAt at hf
  refine lv_bipush (v := 45) B.1.1 B.1.2.1 dX10_assetAt_0 (by decide) ?_
  refine lv_iconst (v := 4) B.1.1 B.1.2.1 dX10_assetAt_2 (by decide) ?_
  refine lv_iload_n B.1.1 B.1.2.1 dX10_assetAt_3 rfl (hl.at 0 rfl) ?_
  refine lv_imul B.1.1 B.1.2.1 dX10_assetAt_4 ?_
  refine lv_iadd B.1.1 B.1.2.1 dX10_assetAt_5 ?_
  exact y_iret B hR hS hf dX10_assetAt_6
abbrev xr_X10_isAsset : Room := { frames := 2, cells := 0, slots := 0, locals := 34 }
def f_X10_isAsset (T : xT) (S : xS) (p0 : Nat) (p1 : Int32) : Option (Int32 × xS) := xc (f_X10_isIn T S p1 ((0 : Int32)) ((7 : Int32))) (fun r2 S1 => if r2 = (0 : Int32) then some ((0 : Int32), S1) else xc (f_X10_assetAt T S1 p1) (fun r4 S3 => xc (f_X10_get T S3 p0 r4) (fun r6 S5 => if r6 = (1 : Int32) then some ((1 : Int32), S5) else some ((0 : Int32), S5))))
set_option maxRecDepth 100000 in
set_option maxHeartbeats 4000000 in
theorem c_X10_isAsset {l : Launch} {z : Nat} {D : va_G} {dA : Nat → ClassId} {T : xT} {S : xS} {p0 : Nat} {p1 : Int32} (k_p0 : xlk T p0 10 = true) {q : Int32 × xS} (hf : f_X10_isAsset T S p0 p1 = some q) : Met l yX10_isAsset (xws yX10_isAsset cX10_isAsset 2 (some .boolean)) xr_X10_isAsset (xPc z D dA T S [.ref (z + p0), .int p1]) (xQi z D dA T q) 0 0 (xA z) := by
  refine x_met RX10 (by decide) rfl (Nat.le_of_ble_eq_true rfl) ?_
  intro p e s m below meth c ls _ X hr hlk hml _ hR hS hl
  have B : xB p s m _ meth c cX10_isAsset RX10 2 (some .boolean) D dA := ⟨X, hr, hlk, hml⟩
  have hl : xL ls 2 [_, _] := hl
  unfold f_X10_isAsset at hf
  refine lv_iload_n B.1.1 B.1.2.1 dX10_isAsset_0 rfl (hl.at 1 rfl) ?_
  refine lv_iconst (v := 0) B.1.1 B.1.2.1 dX10_isAsset_1 (by decide) ?_
  refine lv_bipush (v := 7) B.1.1 B.1.2.1 dX10_isAsset_2 (by decide) ?_
  refine y_ci hf (fun q hq => y_runS B.1 B.2.2.2 hl hR hS cm_X10_81 ⟨rfl, rfl, Nat.le_of_ble_eq_true rfl, Nat.le_of_ble_eq_true rfl⟩ (c_X10_isIn hq) rfl rfl (Nat.le_of_ble_eq_true rfl) dX10_isAsset_4 ⟨Nat.le_of_ble_eq_true rfl, Nat.le_of_ble_eq_true rfl⟩) hS (fun r2 S1 H locs hf hR hS => ?_)
  refine y_if_eq (tgt := 26) B hf dX10_isAsset_7 (by decide) (fun hf => ?_) (fun hf => ?_)
  · refine lv_iconst (v := 0) B.1.1 B.1.2.1 dX10_isAsset_26 (by decide) ?_
    exact y_zretK B hR hS hf rfl dX10_isAsset_27
  · refine lv_aload_n B.1.1 B.1.2.1 dX10_isAsset_10 rfl (hl.at 0 rfl) ?_
    refine lv_iload_n B.1.1 B.1.2.1 dX10_isAsset_11 rfl (hl.at 1 rfl) ?_
    refine y_ci hf (fun q hq => y_runS B.1 B.2.2.2 hl hR hS cm_X10_218 ⟨rfl, rfl, Nat.le_of_ble_eq_true rfl, Nat.le_of_ble_eq_true rfl⟩ (c_X10_assetAt hq) rfl rfl (Nat.le_of_ble_eq_true rfl) dX10_isAsset_12 ⟨Nat.le_of_ble_eq_true rfl, Nat.le_of_ble_eq_true rfl⟩) hS (fun r4 S3 H locs hf hR hS => ?_)
    refine y_ci hf (fun q hq => x_runV (ci := 10) (C := RX10) B.1 B.2.2.2 hl hR hS cm_X10_193 ⟨rfl, rfl, Nat.le_of_ble_eq_true rfl, Nat.le_of_ble_eq_true rfl⟩ (by decide) rfl k_p0 (c_X10_get k_p0 hq) rfl rfl (Nat.le_of_ble_eq_true rfl) dX10_isAsset_15 ⟨Nat.le_of_ble_eq_true rfl, Nat.le_of_ble_eq_true rfl⟩) hS (fun r6 S5 H locs hf hR hS => ?_)
    refine lv_iconst (v := 1) B.1.1 B.1.2.1 dX10_isAsset_18 (by decide) ?_
    refine y_icmp_ne (tgt := 26) B hf dX10_isAsset_19 (by decide) (fun hf => ?_) (fun hf => ?_)
    · refine lv_iconst (v := 0) B.1.1 B.1.2.1 dX10_isAsset_26 (by decide) ?_
      exact y_zretK B hR hS hf rfl dX10_isAsset_27
    · refine lv_iconst (v := 1) B.1.1 B.1.2.1 dX10_isAsset_22 (by decide) ?_
      refine lv_goto (tgt := 27) B.1.1 B.1.2.1 dX10_isAsset_23 (by decide) ?_
      exact y_zretK B hR hS hf rfl dX10_isAsset_27
abbrev xr_X10_greater : Room := { frames := 1, cells := 0, slots := 0, locals := 12 }
def f_X10_greater (T : xT) (S : xS) (p0 : Int32) (p1 : Int32) : Option (Int32 × xS) := if p0 ≤ p1 then some (p1, S) else some (p0, S)
set_option maxRecDepth 100000 in
set_option maxHeartbeats 4000000 in
theorem c_X10_greater {l : Launch} {z : Nat} {D : va_G} {dA : Nat → ClassId} {T : xT} {S : xS} {p0 : Int32} {p1 : Int32} {q : Int32 × xS} (hf : f_X10_greater T S p0 p1 = some q) : Met l yX10_greater (xws yX10_greater cX10_greater 2 (some .int)) xr_X10_greater (xPc z D dA T S [.int p0, .int p1]) (xQi z D dA T q) 0 0 (xA z) := by
  refine x_met RX10 (by decide) rfl (Nat.le_of_ble_eq_true rfl) ?_
  intro p e s m below meth c ls _ X hr hlk hml _ hR hS hl
  have B : xB p s m _ meth c cX10_greater RX10 2 (some .int) D dA := ⟨X, hr, hlk, hml⟩
  have hl : xL ls 2 [_, _] := hl
  unfold f_X10_greater at hf
  refine lv_iload_n B.1.1 B.1.2.1 dX10_greater_0 rfl (hl.at 0 rfl) ?_
  refine lv_iload_n B.1.1 B.1.2.1 dX10_greater_1 rfl (hl.at 1 rfl) ?_
  refine y_icmp_le (tgt := 9) B hf dX10_greater_2 (by decide) (fun hf => ?_) (fun hf => ?_)
  · refine lv_iload_n B.1.1 B.1.2.1 dX10_greater_9 rfl (hl.at 1 rfl) ?_
    exact y_iret B hR hS hf dX10_greater_10
  · refine lv_iload_n B.1.1 B.1.2.1 dX10_greater_5 rfl (hl.at 0 rfl) ?_
    refine lv_goto (tgt := 10) B.1.1 B.1.2.1 dX10_greater_6 (by decide) ?_
    exact y_iret B hR hS hf dX10_greater_10
abbrev xr_X10_held : Room := { frames := 3, cells := 0, slots := 0, locals := 55 }
def f_X10_held_4 (T : xT) : Nat → xS → Nat → Int32 → Int32 → Option (Int32 × xS)
  | 0, _, _, _, _ => none
  | n + 1, S, p0, p1, p2 => if (8 : Int32) ≤ p2 then some (p1, S) else xc (f_X10_isAsset T S p0 p2) (fun r2 S1 => if r2 = (0 : Int32) then xl ((p1 + (0 : Int32))) (fun v3 => xl (p2 + (1 : Int32)) (fun v4 => f_X10_held_4 T n S1 p0 v3 v4)) else xc (f_X10_assetAt T S1 p2) (fun r6 S5 => xc (f_X10_get T S5 p0 ((r6 + (3 : Int32)))) (fun r8 S7 => xc (f_X10_assetAt T S7 p2) (fun r10 S9 => xc (f_X10_get T S9 p0 ((r10 + (1 : Int32)))) (fun r12 S11 => xc (f_X10_greater T S11 ((0 : Int32)) ((r8 - r12))) (fun r14 S13 => xl ((p1 + r14)) (fun v15 => xl (p2 + (1 : Int32)) (fun v16 => f_X10_held_4 T n S13 p0 v15 v16))))))))
set_option maxRecDepth 100000 in
set_option maxHeartbeats 4000000 in
theorem w_X10_held_4 {p : Program} {l : Launch} {e : Env} {s : State} {m : MethodId} {args : Array Value} {below : List Frame} {meth : Method} {c : Code} {z : Nat} {D : va_G} {dA : Nat → ClassId} {T : xT} (B : xB p s m args meth c cX10_held RX10 3 (some .int) D dA) {q : Int32 × xS} : ∀ (n : Nat), ∀ (S : xS) (H : Heap) (locs : List Loc) (ls : Array Slot) (p0 : Nat) (p1 : Int32) (p2 : Int32), xlk T p0 10 = true → f_X10_held_4 T n S p0 p1 p2 = some q → xRel z D dA T S H → va_S (xA z) s.heap H locs → xL ls 3 [some (.ref (z + p0)), some (.int p1), some (.int p2)] → xGi p l e xr_X10_held s m args below meth c z D dA T q H locs 4 ls [] := by
  intro n
  induction n with
  | zero =>
    intro S H locs ls p0 p1 p2 k_p0 hf hR hS hl
    exact absurd hf (by simp [f_X10_held_4])
  | succ n ih =>
    intro S H locs ls p0 p1 p2 k_p0 hf hR hS hl
    unfold f_X10_held_4 at hf
    refine lv_iload_n B.1.1 B.1.2.1 dX10_held_4 rfl (hl.at 2 rfl) ?_
    refine lv_bipush (v := 8) B.1.1 B.1.2.1 dX10_held_5 (by decide) ?_
    refine y_icmp_ge (tgt := 56) B hf dX10_held_7 (by decide) (fun hf => ?_) (fun hf => ?_)
    · refine lv_iload_n B.1.1 B.1.2.1 dX10_held_56 rfl (hl.at 1 rfl) ?_
      exact y_iret B hR hS hf dX10_held_57
    · refine lv_iload_n B.1.1 B.1.2.1 dX10_held_10 rfl (hl.at 1 rfl) ?_
      refine lv_aload_n B.1.1 B.1.2.1 dX10_held_11 rfl (hl.at 0 rfl) ?_
      refine lv_iload_n B.1.1 B.1.2.1 dX10_held_12 rfl (hl.at 2 rfl) ?_
      refine y_ci hf (fun q hq => x_runV (ci := 10) (C := RX10) B.1 B.2.2.2 hl hR hS cm_X10_221 ⟨rfl, rfl, Nat.le_of_ble_eq_true rfl, Nat.le_of_ble_eq_true rfl⟩ (by decide) rfl k_p0 (c_X10_isAsset k_p0 hq) rfl rfl (Nat.le_of_ble_eq_true rfl) dX10_held_13 ⟨Nat.le_of_ble_eq_true rfl, Nat.le_of_ble_eq_true rfl⟩) hS (fun r2 S1 H locs hf hR hS => ?_)
      refine y_if_eq (tgt := 47) B hf dX10_held_16 (by decide) (fun hf => ?_) (fun hf => ?_)
      · refine lv_iconst (v := 0) B.1.1 B.1.2.1 dX10_held_47 (by decide) ?_
        refine lv_iadd B.1.1 B.1.2.1 dX10_held_48 ?_
        refine y_istore_n B hl hf dX10_held_49 rfl (by decide) rfl (fun v3 ls hf hl => ?_)
        have hl : xL ls 3 [_, _, _] := hl
        refine y_iinc (d := 1) B hl hf dX10_held_50 rfl (by decide) (by decide) rfl (fun v4 ls hf hl => ?_)
        have hl : xL ls 3 [_, _, _] := hl
        refine lv_goto (tgt := 4) B.1.1 B.1.2.1 dX10_held_53 (by decide) ?_
        exact ih _ _ _ _ _ _ _ k_p0 hf hR hS hl
      · refine lv_iconst (v := 0) B.1.1 B.1.2.1 dX10_held_19 (by decide) ?_
        refine lv_aload_n B.1.1 B.1.2.1 dX10_held_20 rfl (hl.at 0 rfl) ?_
        refine lv_iload_n B.1.1 B.1.2.1 dX10_held_21 rfl (hl.at 2 rfl) ?_
        refine y_ci hf (fun q hq => y_runS B.1 B.2.2.2 hl hR hS cm_X10_218 ⟨rfl, rfl, Nat.le_of_ble_eq_true rfl, Nat.le_of_ble_eq_true rfl⟩ (c_X10_assetAt hq) rfl rfl (Nat.le_of_ble_eq_true rfl) dX10_held_22 ⟨Nat.le_of_ble_eq_true rfl, Nat.le_of_ble_eq_true rfl⟩) hS (fun r6 S5 H locs hf hR hS => ?_)
        refine lv_iconst (v := 3) B.1.1 B.1.2.1 dX10_held_25 (by decide) ?_
        refine lv_iadd B.1.1 B.1.2.1 dX10_held_26 ?_
        refine y_ci hf (fun q hq => x_runV (ci := 10) (C := RX10) B.1 B.2.2.2 hl hR hS cm_X10_193 ⟨rfl, rfl, Nat.le_of_ble_eq_true rfl, Nat.le_of_ble_eq_true rfl⟩ (by decide) rfl k_p0 (c_X10_get k_p0 hq) rfl rfl (Nat.le_of_ble_eq_true rfl) dX10_held_27 ⟨Nat.le_of_ble_eq_true rfl, Nat.le_of_ble_eq_true rfl⟩) hS (fun r8 S7 H locs hf hR hS => ?_)
        refine lv_aload_n B.1.1 B.1.2.1 dX10_held_30 rfl (hl.at 0 rfl) ?_
        refine lv_iload_n B.1.1 B.1.2.1 dX10_held_31 rfl (hl.at 2 rfl) ?_
        refine y_ci hf (fun q hq => y_runS B.1 B.2.2.2 hl hR hS cm_X10_218 ⟨rfl, rfl, Nat.le_of_ble_eq_true rfl, Nat.le_of_ble_eq_true rfl⟩ (c_X10_assetAt hq) rfl rfl (Nat.le_of_ble_eq_true rfl) dX10_held_32 ⟨Nat.le_of_ble_eq_true rfl, Nat.le_of_ble_eq_true rfl⟩) hS (fun r10 S9 H locs hf hR hS => ?_)
        refine lv_iconst (v := 1) B.1.1 B.1.2.1 dX10_held_35 (by decide) ?_
        refine lv_iadd B.1.1 B.1.2.1 dX10_held_36 ?_
        refine y_ci hf (fun q hq => x_runV (ci := 10) (C := RX10) B.1 B.2.2.2 hl hR hS cm_X10_193 ⟨rfl, rfl, Nat.le_of_ble_eq_true rfl, Nat.le_of_ble_eq_true rfl⟩ (by decide) rfl k_p0 (c_X10_get k_p0 hq) rfl rfl (Nat.le_of_ble_eq_true rfl) dX10_held_37 ⟨Nat.le_of_ble_eq_true rfl, Nat.le_of_ble_eq_true rfl⟩) hS (fun r12 S11 H locs hf hR hS => ?_)
        refine lv_isub B.1.1 B.1.2.1 dX10_held_40 ?_
        refine y_ci hf (fun q hq => y_runS B.1 B.2.2.2 hl hR hS cm_X10_224 ⟨rfl, rfl, Nat.le_of_ble_eq_true rfl, Nat.le_of_ble_eq_true rfl⟩ (c_X10_greater hq) rfl rfl (Nat.le_of_ble_eq_true rfl) dX10_held_41 ⟨Nat.le_of_ble_eq_true rfl, Nat.le_of_ble_eq_true rfl⟩) hS (fun r14 S13 H locs hf hR hS => ?_)
        refine lv_goto (tgt := 48) B.1.1 B.1.2.1 dX10_held_44 (by decide) ?_
        refine lv_iadd B.1.1 B.1.2.1 dX10_held_48 ?_
        refine y_istore_n B hl hf dX10_held_49 rfl (by decide) rfl (fun v15 ls hf hl => ?_)
        have hl : xL ls 3 [_, _, _] := hl
        refine y_iinc (d := 1) B hl hf dX10_held_50 rfl (by decide) (by decide) rfl (fun v16 ls hf hl => ?_)
        have hl : xL ls 3 [_, _, _] := hl
        refine lv_goto (tgt := 4) B.1.1 B.1.2.1 dX10_held_53 (by decide) ?_
        exact ih _ _ _ _ _ _ _ k_p0 hf hR hS hl
def f_X10_held (T : xT) (S : xS) (p0 : Nat) : Option (Int32 × xS) := xl ((0 : Int32)) (fun v1 => xl ((0 : Int32)) (fun v2 => f_X10_held_4 T xfu S p0 v1 v2))
set_option maxRecDepth 100000 in
set_option maxHeartbeats 4000000 in
theorem c_X10_held {l : Launch} {z : Nat} {D : va_G} {dA : Nat → ClassId} {T : xT} {S : xS} {p0 : Nat} (k_p0 : xlk T p0 10 = true) {q : Int32 × xS} (hf : f_X10_held T S p0 = some q) : Met l yX10_held (xws yX10_held cX10_held 3 (some .int)) xr_X10_held (xPc z D dA T S [.ref (z + p0)]) (xQi z D dA T q) 0 0 (xA z) := by
  refine x_met RX10 (by decide) rfl (Nat.le_of_ble_eq_true rfl) ?_
  intro p e s m below meth c ls _ X hr hlk hml _ hR hS hl
  have B : xB p s m _ meth c cX10_held RX10 3 (some .int) D dA := ⟨X, hr, hlk, hml⟩
  have hl : xL ls 3 [_, _, _] := hl
  unfold f_X10_held at hf
  refine lv_iconst (v := 0) B.1.1 B.1.2.1 dX10_held_0 (by decide) ?_
  refine y_istore_n B hl hf dX10_held_1 rfl (by decide) rfl (fun v1 ls hf hl => ?_)
  have hl : xL ls 3 [_, _, _] := hl
  refine lv_iconst (v := 0) B.1.1 B.1.2.1 dX10_held_2 (by decide) ?_
  refine y_istore_n B hl hf dX10_held_3 rfl (by decide) rfl (fun v2 ls hf hl => ?_)
  have hl : xL ls 3 [_, _, _] := hl
  exact w_X10_held_4 B xfu _ _ _ _ _ _ _ k_p0 hf hR hS hl
abbrev xr_X10_net : Room := { frames := 3, cells := 0, slots := 0, locals := 55 }
def f_X10_net_8 (T : xT) : Nat → xS → Nat → Int32 → Int32 → Option (Int32 × xS)
  | 0, _, _, _, _ => none
  | n + 1, S, p0, p1, p2 => if (8 : Int32) ≤ p2 then some (p1, S) else xc (f_X10_isAsset T S p0 p2) (fun r2 S1 => if r2 = (0 : Int32) then xl ((p1 + (0 : Int32))) (fun v3 => xl (p2 + (1 : Int32)) (fun v4 => f_X10_net_8 T n S1 p0 v3 v4)) else xc (f_X10_assetAt T S1 p2) (fun r6 S5 => xc (f_X10_get T S5 p0 ((r6 + (1 : Int32)))) (fun r8 S7 => xc (f_X10_assetAt T S7 p2) (fun r10 S9 => xc (f_X10_get T S9 p0 ((r10 + (3 : Int32)))) (fun r12 S11 => xl ((p1 + (r8 - r12))) (fun v13 => xl (p2 + (1 : Int32)) (fun v14 => f_X10_net_8 T n S11 p0 v13 v14)))))))
set_option maxRecDepth 100000 in
set_option maxHeartbeats 4000000 in
theorem w_X10_net_8 {p : Program} {l : Launch} {e : Env} {s : State} {m : MethodId} {args : Array Value} {below : List Frame} {meth : Method} {c : Code} {z : Nat} {D : va_G} {dA : Nat → ClassId} {T : xT} (B : xB p s m args meth c cX10_net RX10 3 (some .int) D dA) {q : Int32 × xS} : ∀ (n : Nat), ∀ (S : xS) (H : Heap) (locs : List Loc) (ls : Array Slot) (p0 : Nat) (p1 : Int32) (p2 : Int32), xlk T p0 10 = true → f_X10_net_8 T n S p0 p1 p2 = some q → xRel z D dA T S H → va_S (xA z) s.heap H locs → xL ls 3 [some (.ref (z + p0)), some (.int p1), some (.int p2)] → xGi p l e xr_X10_net s m args below meth c z D dA T q H locs 8 ls [] := by
  intro n
  induction n with
  | zero =>
    intro S H locs ls p0 p1 p2 k_p0 hf hR hS hl
    exact absurd hf (by simp [f_X10_net_8])
  | succ n ih =>
    intro S H locs ls p0 p1 p2 k_p0 hf hR hS hl
    unfold f_X10_net_8 at hf
    refine lv_iload_n B.1.1 B.1.2.1 dX10_net_8 rfl (hl.at 2 rfl) ?_
    refine lv_bipush (v := 8) B.1.1 B.1.2.1 dX10_net_9 (by decide) ?_
    refine y_icmp_ge (tgt := 56) B hf dX10_net_11 (by decide) (fun hf => ?_) (fun hf => ?_)
    · refine lv_iload_n B.1.1 B.1.2.1 dX10_net_56 rfl (hl.at 1 rfl) ?_
      exact y_iret B hR hS hf dX10_net_57
    · refine lv_iload_n B.1.1 B.1.2.1 dX10_net_14 rfl (hl.at 1 rfl) ?_
      refine lv_aload_n B.1.1 B.1.2.1 dX10_net_15 rfl (hl.at 0 rfl) ?_
      refine lv_iload_n B.1.1 B.1.2.1 dX10_net_16 rfl (hl.at 2 rfl) ?_
      refine y_ci hf (fun q hq => x_runV (ci := 10) (C := RX10) B.1 B.2.2.2 hl hR hS cm_X10_221 ⟨rfl, rfl, Nat.le_of_ble_eq_true rfl, Nat.le_of_ble_eq_true rfl⟩ (by decide) rfl k_p0 (c_X10_isAsset k_p0 hq) rfl rfl (Nat.le_of_ble_eq_true rfl) dX10_net_17 ⟨Nat.le_of_ble_eq_true rfl, Nat.le_of_ble_eq_true rfl⟩) hS (fun r2 S1 H locs hf hR hS => ?_)
      refine y_if_eq (tgt := 47) B hf dX10_net_20 (by decide) (fun hf => ?_) (fun hf => ?_)
      · refine lv_iconst (v := 0) B.1.1 B.1.2.1 dX10_net_47 (by decide) ?_
        refine lv_iadd B.1.1 B.1.2.1 dX10_net_48 ?_
        refine y_istore_n B hl hf dX10_net_49 rfl (by decide) rfl (fun v3 ls hf hl => ?_)
        have hl : xL ls 3 [_, _, _] := hl
        refine y_iinc (d := 1) B hl hf dX10_net_50 rfl (by decide) (by decide) rfl (fun v4 ls hf hl => ?_)
        have hl : xL ls 3 [_, _, _] := hl
        refine lv_goto (tgt := 8) B.1.1 B.1.2.1 dX10_net_53 (by decide) ?_
        exact ih _ _ _ _ _ _ _ k_p0 hf hR hS hl
      · refine lv_aload_n B.1.1 B.1.2.1 dX10_net_23 rfl (hl.at 0 rfl) ?_
        refine lv_iload_n B.1.1 B.1.2.1 dX10_net_24 rfl (hl.at 2 rfl) ?_
        refine y_ci hf (fun q hq => y_runS B.1 B.2.2.2 hl hR hS cm_X10_218 ⟨rfl, rfl, Nat.le_of_ble_eq_true rfl, Nat.le_of_ble_eq_true rfl⟩ (c_X10_assetAt hq) rfl rfl (Nat.le_of_ble_eq_true rfl) dX10_net_25 ⟨Nat.le_of_ble_eq_true rfl, Nat.le_of_ble_eq_true rfl⟩) hS (fun r6 S5 H locs hf hR hS => ?_)
        refine lv_iconst (v := 1) B.1.1 B.1.2.1 dX10_net_28 (by decide) ?_
        refine lv_iadd B.1.1 B.1.2.1 dX10_net_29 ?_
        refine y_ci hf (fun q hq => x_runV (ci := 10) (C := RX10) B.1 B.2.2.2 hl hR hS cm_X10_193 ⟨rfl, rfl, Nat.le_of_ble_eq_true rfl, Nat.le_of_ble_eq_true rfl⟩ (by decide) rfl k_p0 (c_X10_get k_p0 hq) rfl rfl (Nat.le_of_ble_eq_true rfl) dX10_net_30 ⟨Nat.le_of_ble_eq_true rfl, Nat.le_of_ble_eq_true rfl⟩) hS (fun r8 S7 H locs hf hR hS => ?_)
        refine lv_aload_n B.1.1 B.1.2.1 dX10_net_33 rfl (hl.at 0 rfl) ?_
        refine lv_iload_n B.1.1 B.1.2.1 dX10_net_34 rfl (hl.at 2 rfl) ?_
        refine y_ci hf (fun q hq => y_runS B.1 B.2.2.2 hl hR hS cm_X10_218 ⟨rfl, rfl, Nat.le_of_ble_eq_true rfl, Nat.le_of_ble_eq_true rfl⟩ (c_X10_assetAt hq) rfl rfl (Nat.le_of_ble_eq_true rfl) dX10_net_35 ⟨Nat.le_of_ble_eq_true rfl, Nat.le_of_ble_eq_true rfl⟩) hS (fun r10 S9 H locs hf hR hS => ?_)
        refine lv_iconst (v := 3) B.1.1 B.1.2.1 dX10_net_38 (by decide) ?_
        refine lv_iadd B.1.1 B.1.2.1 dX10_net_39 ?_
        refine y_ci hf (fun q hq => x_runV (ci := 10) (C := RX10) B.1 B.2.2.2 hl hR hS cm_X10_193 ⟨rfl, rfl, Nat.le_of_ble_eq_true rfl, Nat.le_of_ble_eq_true rfl⟩ (by decide) rfl k_p0 (c_X10_get k_p0 hq) rfl rfl (Nat.le_of_ble_eq_true rfl) dX10_net_40 ⟨Nat.le_of_ble_eq_true rfl, Nat.le_of_ble_eq_true rfl⟩) hS (fun r12 S11 H locs hf hR hS => ?_)
        refine lv_isub B.1.1 B.1.2.1 dX10_net_43 ?_
        refine lv_goto (tgt := 48) B.1.1 B.1.2.1 dX10_net_44 (by decide) ?_
        refine lv_iadd B.1.1 B.1.2.1 dX10_net_48 ?_
        refine y_istore_n B hl hf dX10_net_49 rfl (by decide) rfl (fun v13 ls hf hl => ?_)
        have hl : xL ls 3 [_, _, _] := hl
        refine y_iinc (d := 1) B hl hf dX10_net_50 rfl (by decide) (by decide) rfl (fun v14 ls hf hl => ?_)
        have hl : xL ls 3 [_, _, _] := hl
        refine lv_goto (tgt := 8) B.1.1 B.1.2.1 dX10_net_53 (by decide) ?_
        exact ih _ _ _ _ _ _ _ k_p0 hf hR hS hl
def f_X10_net (T : xT) (S : xS) (p0 : Nat) : Option (Int32 × xS) := xc (f_X10_get T S p0 ((3 : Int32))) (fun r2 S1 => xl r2 (fun v3 => xl ((0 : Int32)) (fun v4 => f_X10_net_8 T xfu S1 p0 v3 v4)))
set_option maxRecDepth 100000 in
set_option maxHeartbeats 4000000 in
theorem c_X10_net {l : Launch} {z : Nat} {D : va_G} {dA : Nat → ClassId} {T : xT} {S : xS} {p0 : Nat} (k_p0 : xlk T p0 10 = true) {q : Int32 × xS} (hf : f_X10_net T S p0 = some q) : Met l yX10_net (xws yX10_net cX10_net 3 (some .int)) xr_X10_net (xPc z D dA T S [.ref (z + p0)]) (xQi z D dA T q) 0 0 (xA z) := by
  refine x_met RX10 (by decide) rfl (Nat.le_of_ble_eq_true rfl) ?_
  intro p e s m below meth c ls _ X hr hlk hml _ hR hS hl
  have B : xB p s m _ meth c cX10_net RX10 3 (some .int) D dA := ⟨X, hr, hlk, hml⟩
  have hl : xL ls 3 [_, _, _] := hl
  unfold f_X10_net at hf
  refine lv_aload_n B.1.1 B.1.2.1 dX10_net_0 rfl (hl.at 0 rfl) ?_
  refine lv_iconst (v := 3) B.1.1 B.1.2.1 dX10_net_1 (by decide) ?_
  refine y_ci hf (fun q hq => x_runV (ci := 10) (C := RX10) B.1 B.2.2.2 hl hR hS cm_X10_193 ⟨rfl, rfl, Nat.le_of_ble_eq_true rfl, Nat.le_of_ble_eq_true rfl⟩ (by decide) rfl k_p0 (c_X10_get k_p0 hq) rfl rfl (Nat.le_of_ble_eq_true rfl) dX10_net_2 ⟨Nat.le_of_ble_eq_true rfl, Nat.le_of_ble_eq_true rfl⟩) hS (fun r2 S1 H locs hf hR hS => ?_)
  refine y_istore_n B hl hf dX10_net_5 rfl (by decide) rfl (fun v3 ls hf hl => ?_)
  have hl : xL ls 3 [_, _, _] := hl
  refine lv_iconst (v := 0) B.1.1 B.1.2.1 dX10_net_6 (by decide) ?_
  refine y_istore_n B hl hf dX10_net_7 rfl (by decide) rfl (fun v4 ls hf hl => ?_)
  have hl : xL ls 3 [_, _, _] := hl
  exact w_X10_net_8 B xfu _ _ _ _ _ _ _ k_p0 hf hR hS hl
abbrev xr_X10_lesser : Room := { frames := 1, cells := 0, slots := 0, locals := 12 }
def f_X10_lesser (T : xT) (S : xS) (p0 : Int32) (p1 : Int32) : Option (Int32 × xS) := if p1 ≤ p0 then some (p1, S) else some (p0, S)
set_option maxRecDepth 100000 in
set_option maxHeartbeats 4000000 in
theorem c_X10_lesser {l : Launch} {z : Nat} {D : va_G} {dA : Nat → ClassId} {T : xT} {S : xS} {p0 : Int32} {p1 : Int32} {q : Int32 × xS} (hf : f_X10_lesser T S p0 p1 = some q) : Met l yX10_lesser (xws yX10_lesser cX10_lesser 2 (some .int)) xr_X10_lesser (xPc z D dA T S [.int p0, .int p1]) (xQi z D dA T q) 0 0 (xA z) := by
  refine x_met RX10 (by decide) rfl (Nat.le_of_ble_eq_true rfl) ?_
  intro p e s m below meth c ls _ X hr hlk hml _ hR hS hl
  have B : xB p s m _ meth c cX10_lesser RX10 2 (some .int) D dA := ⟨X, hr, hlk, hml⟩
  have hl : xL ls 2 [_, _] := hl
  unfold f_X10_lesser at hf
  refine lv_iload_n B.1.1 B.1.2.1 dX10_lesser_0 rfl (hl.at 0 rfl) ?_
  refine lv_iload_n B.1.1 B.1.2.1 dX10_lesser_1 rfl (hl.at 1 rfl) ?_
  refine y_icmp_ge (tgt := 9) B hf dX10_lesser_2 (by decide) (fun hf => ?_) (fun hf => ?_)
  · refine lv_iload_n B.1.1 B.1.2.1 dX10_lesser_9 rfl (hl.at 1 rfl) ?_
    exact y_iret B hR hS hf dX10_lesser_10
  · refine lv_iload_n B.1.1 B.1.2.1 dX10_lesser_5 rfl (hl.at 0 rfl) ?_
    refine lv_goto (tgt := 10) B.1.1 B.1.2.1 dX10_lesser_6 (by decide) ?_
    exact y_iret B hR hS hf dX10_lesser_10
abbrev xr_X10_floorOf : Room := { frames := 2, cells := 0, slots := 0, locals := 33 }
def f_X10_floorOf (T : xT) (S : xS) (p0 : Nat) (p1 : Int32) : Option (Int32 × xS) := xc (f_X10_get T S p0 (((13 : Int32) + p1))) (fun r2 S1 => xc (f_X10_get T S1 p0 (((29 : Int32) + p1))) (fun r4 S3 => some (((-r2) - r4), S3)))
set_option maxRecDepth 100000 in
set_option maxHeartbeats 4000000 in
theorem c_X10_floorOf {l : Launch} {z : Nat} {D : va_G} {dA : Nat → ClassId} {T : xT} {S : xS} {p0 : Nat} {p1 : Int32} (k_p0 : xlk T p0 10 = true) {q : Int32 × xS} (hf : f_X10_floorOf T S p0 p1 = some q) : Met l yX10_floorOf (xws yX10_floorOf cX10_floorOf 2 (some .int)) xr_X10_floorOf (xPc z D dA T S [.ref (z + p0), .int p1]) (xQi z D dA T q) 0 0 (xA z) := by
  refine x_met RX10 (by decide) rfl (Nat.le_of_ble_eq_true rfl) ?_
  intro p e s m below meth c ls _ X hr hlk hml _ hR hS hl
  have B : xB p s m _ meth c cX10_floorOf RX10 2 (some .int) D dA := ⟨X, hr, hlk, hml⟩
  have hl : xL ls 2 [_, _] := hl
  unfold f_X10_floorOf at hf
  refine lv_aload_n B.1.1 B.1.2.1 dX10_floorOf_0 rfl (hl.at 0 rfl) ?_
  refine lv_bipush (v := 13) B.1.1 B.1.2.1 dX10_floorOf_1 (by decide) ?_
  refine lv_iload_n B.1.1 B.1.2.1 dX10_floorOf_3 rfl (hl.at 1 rfl) ?_
  refine lv_iadd B.1.1 B.1.2.1 dX10_floorOf_4 ?_
  refine y_ci hf (fun q hq => x_runV (ci := 10) (C := RX10) B.1 B.2.2.2 hl hR hS cm_X10_193 ⟨rfl, rfl, Nat.le_of_ble_eq_true rfl, Nat.le_of_ble_eq_true rfl⟩ (by decide) rfl k_p0 (c_X10_get k_p0 hq) rfl rfl (Nat.le_of_ble_eq_true rfl) dX10_floorOf_5 ⟨Nat.le_of_ble_eq_true rfl, Nat.le_of_ble_eq_true rfl⟩) hS (fun r2 S1 H locs hf hR hS => ?_)
  refine lv_ineg B.1.1 B.1.2.1 dX10_floorOf_8 ?_
  refine lv_aload_n B.1.1 B.1.2.1 dX10_floorOf_9 rfl (hl.at 0 rfl) ?_
  refine lv_bipush (v := 29) B.1.1 B.1.2.1 dX10_floorOf_10 (by decide) ?_
  refine lv_iload_n B.1.1 B.1.2.1 dX10_floorOf_12 rfl (hl.at 1 rfl) ?_
  refine lv_iadd B.1.1 B.1.2.1 dX10_floorOf_13 ?_
  refine y_ci hf (fun q hq => x_runV (ci := 10) (C := RX10) B.1 B.2.2.2 hl hR hS cm_X10_193 ⟨rfl, rfl, Nat.le_of_ble_eq_true rfl, Nat.le_of_ble_eq_true rfl⟩ (by decide) rfl k_p0 (c_X10_get k_p0 hq) rfl rfl (Nat.le_of_ble_eq_true rfl) dX10_floorOf_14 ⟨Nat.le_of_ble_eq_true rfl, Nat.le_of_ble_eq_true rfl⟩) hS (fun r4 S3 H locs hf hR hS => ?_)
  refine lv_isub B.1.1 B.1.2.1 dX10_floorOf_17 ?_
  exact y_iret B hR hS hf dX10_floorOf_18
abbrev xr_X10_gapOf : Room := { frames := 5, cells := 0, slots := 0, locals := 102 }
def f_X10_gapOf (T : xT) (S : xS) (p0 : Nat) (p1 : Int32) : Option (Int32 × xS) := xc (f_X10_sumOf T S p0 ((5 : Int32))) (fun r2 S1 => xc (f_X10_get T S1 p0 ((2 : Int32))) (fun r4 S3 => xcv (f_X10_laySale T S3 p0 ((r2 + r4))) (fun S5 => xgr T S5 p0 17 20 (fun a6 => xai T S5 a6 p1 (fun v7 => xc (f_X10_get T S5 p0 (((5 : Int32) + p1))) (fun r9 S8 => some ((v7 - r9), S8)))))))
set_option maxRecDepth 100000 in
set_option maxHeartbeats 4000000 in
theorem c_X10_gapOf {l : Launch} {z : Nat} {D : va_G} {dA : Nat → ClassId} {T : xT} {S : xS} {p0 : Nat} {p1 : Int32} (k_p0 : xlk T p0 10 = true) {q : Int32 × xS} (hf : f_X10_gapOf T S p0 p1 = some q) : Met l yX10_gapOf (xws yX10_gapOf cX10_gapOf 2 (some .int)) xr_X10_gapOf (xPc z D dA T S [.ref (z + p0), .int p1]) (xQi z D dA T q) 0 0 (xA z) := by
  refine x_met RX10 (by decide) rfl (Nat.le_of_ble_eq_true rfl) ?_
  intro p e s m below meth c ls _ X hr hlk hml _ hR hS hl
  have B : xB p s m _ meth c cX10_gapOf RX10 2 (some .int) D dA := ⟨X, hr, hlk, hml⟩
  have hl : xL ls 2 [_, _] := hl
  unfold f_X10_gapOf at hf
  refine lv_aload_n B.1.1 B.1.2.1 dX10_gapOf_0 rfl (hl.at 0 rfl) ?_
  refine lv_aload_n B.1.1 B.1.2.1 dX10_gapOf_1 rfl (hl.at 0 rfl) ?_
  refine lv_iconst (v := 5) B.1.1 B.1.2.1 dX10_gapOf_2 (by decide) ?_
  refine y_ci hf (fun q hq => x_runV (ci := 10) (C := RX10) B.1 B.2.2.2 hl hR hS cm_X10_228 ⟨rfl, rfl, Nat.le_of_ble_eq_true rfl, Nat.le_of_ble_eq_true rfl⟩ (by decide) rfl k_p0 (c_X10_sumOf k_p0 hq) rfl rfl (Nat.le_of_ble_eq_true rfl) dX10_gapOf_3 ⟨Nat.le_of_ble_eq_true rfl, Nat.le_of_ble_eq_true rfl⟩) hS (fun r2 S1 H locs hf hR hS => ?_)
  refine lv_aload_n B.1.1 B.1.2.1 dX10_gapOf_6 rfl (hl.at 0 rfl) ?_
  refine lv_iconst (v := 2) B.1.1 B.1.2.1 dX10_gapOf_7 (by decide) ?_
  refine y_ci hf (fun q hq => x_runV (ci := 10) (C := RX10) B.1 B.2.2.2 hl hR hS cm_X10_193 ⟨rfl, rfl, Nat.le_of_ble_eq_true rfl, Nat.le_of_ble_eq_true rfl⟩ (by decide) rfl k_p0 (c_X10_get k_p0 hq) rfl rfl (Nat.le_of_ble_eq_true rfl) dX10_gapOf_8 ⟨Nat.le_of_ble_eq_true rfl, Nat.le_of_ble_eq_true rfl⟩) hS (fun r4 S3 H locs hf hR hS => ?_)
  refine lv_iadd B.1.1 B.1.2.1 dX10_gapOf_11 ?_
  refine y_cv hf (fun q hq => x_runV (ci := 10) (C := RX10) B.1 B.2.2.2 hl hR hS cm_X10_215 ⟨rfl, rfl, Nat.le_of_ble_eq_true rfl, Nat.le_of_ble_eq_true rfl⟩ (by decide) rfl k_p0 (c_X10_laySale k_p0 hq) rfl rfl (Nat.le_of_ble_eq_true rfl) dX10_gapOf_12 ⟨Nat.le_of_ble_eq_true rfl, Nat.le_of_ble_eq_true rfl⟩) hS (fun S5 H locs hf hR hS => ?_)
  refine lv_aload_n B.1.1 B.1.2.1 dX10_gapOf_15 rfl (hl.at 0 rfl) ?_
  refine y_getR B hR hf k_p0 fl_X10_38 dX10_gapOf_16 (fun a6 k_a6 hf => ?_)
  refine lv_iload_n B.1.1 B.1.2.1 dX10_gapOf_19 rfl (hl.at 1 rfl) ?_
  refine y_iald B hR hf k_a6 dX10_gapOf_20 (fun v7 hf => ?_)
  refine lv_aload_n B.1.1 B.1.2.1 dX10_gapOf_21 rfl (hl.at 0 rfl) ?_
  refine lv_iconst (v := 5) B.1.1 B.1.2.1 dX10_gapOf_22 (by decide) ?_
  refine lv_iload_n B.1.1 B.1.2.1 dX10_gapOf_23 rfl (hl.at 1 rfl) ?_
  refine lv_iadd B.1.1 B.1.2.1 dX10_gapOf_24 ?_
  refine y_ci hf (fun q hq => x_runV (ci := 10) (C := RX10) B.1 B.2.2.2 hl hR hS cm_X10_193 ⟨rfl, rfl, Nat.le_of_ble_eq_true rfl, Nat.le_of_ble_eq_true rfl⟩ (by decide) rfl k_p0 (c_X10_get k_p0 hq) rfl rfl (Nat.le_of_ble_eq_true rfl) dX10_gapOf_25 ⟨Nat.le_of_ble_eq_true rfl, Nat.le_of_ble_eq_true rfl⟩) hS (fun r9 S8 H locs hf hR hS => ?_)
  refine lv_isub B.1.1 B.1.2.1 dX10_gapOf_28 ?_
  exact y_iret B hR hS hf dX10_gapOf_29
abbrev xr_X10_is : Room := { frames := 4, cells := 0, slots := 0, locals := 77 }
def f_X10_is_102 (T : xT) : Nat → xS → Nat → Int32 → Int32 → Option (Int32 × xS)
  | 0, _, _, _, _ => none
  | n + 1, S, p0, p2, p3 => if (8 : Int32) ≤ p3 then some (p2, S) else xc (f_X10_isAsset T S p0 p3) (fun r2 S1 => if r2 = (0 : Int32) then xl ((p2 ||| (0 : Int32))) (fun v3 => xl (p3 + (1 : Int32)) (fun v4 => f_X10_is_102 T n S1 p0 v3 v4)) else xl ((p2 ||| ((1 : Int32) <<< (p3 &&& 31)))) (fun v5 => xl (p3 + (1 : Int32)) (fun v6 => f_X10_is_102 T n S1 p0 v5 v6)))
set_option maxRecDepth 100000 in
set_option maxHeartbeats 4000000 in
theorem w_X10_is_102 {p : Program} {l : Launch} {e : Env} {s : State} {m : MethodId} {args : Array Value} {below : List Frame} {meth : Method} {c : Code} {z : Nat} {D : va_G} {dA : Nat → ClassId} {T : xT} (B : xB p s m args meth c cX10_is RX10 4 (some .int) D dA) {q : Int32 × xS} : ∀ (n : Nat), ∀ (S : xS) (H : Heap) (locs : List Loc) (ls : Array Slot) (p0 : Nat) (p2 : Int32) (p3 : Int32), xlk T p0 10 = true → f_X10_is_102 T n S p0 p2 p3 = some q → xRel z D dA T S H → va_S (xA z) s.heap H locs → xL ls 4 [some (.ref (z + p0)), none, some (.int p2), some (.int p3)] → xGi p l e xr_X10_is s m args below meth c z D dA T q H locs 102 ls [] := by
  intro n
  induction n with
  | zero =>
    intro S H locs ls p0 p2 p3 k_p0 hf hR hS hl
    exact absurd hf (by simp [f_X10_is_102])
  | succ n ih =>
    intro S H locs ls p0 p2 p3 k_p0 hf hR hS hl
    unfold f_X10_is_102 at hf
    refine lv_iload_n B.1.1 B.1.2.1 dX10_is_102 rfl (hl.at 3 rfl) ?_
    refine lv_bipush (v := 8) B.1.1 B.1.2.1 dX10_is_103 (by decide) ?_
    refine y_icmp_ge (tgt := 132) B hf dX10_is_105 (by decide) (fun hf => ?_) (fun hf => ?_)
    · refine lv_iload_n B.1.1 B.1.2.1 dX10_is_132 rfl (hl.at 2 rfl) ?_
      exact y_iret B hR hS hf dX10_is_133
    · refine lv_iload_n B.1.1 B.1.2.1 dX10_is_108 rfl (hl.at 2 rfl) ?_
      refine lv_aload_n B.1.1 B.1.2.1 dX10_is_109 rfl (hl.at 0 rfl) ?_
      refine lv_iload_n B.1.1 B.1.2.1 dX10_is_110 rfl (hl.at 3 rfl) ?_
      refine y_ci hf (fun q hq => x_runV (ci := 10) (C := RX10) B.1 B.2.2.2 hl hR hS cm_X10_221 ⟨rfl, rfl, Nat.le_of_ble_eq_true rfl, Nat.le_of_ble_eq_true rfl⟩ (by decide) rfl k_p0 (c_X10_isAsset k_p0 hq) rfl rfl (Nat.le_of_ble_eq_true rfl) dX10_is_111 ⟨Nat.le_of_ble_eq_true rfl, Nat.le_of_ble_eq_true rfl⟩) hS (fun r2 S1 H locs hf hR hS => ?_)
      refine y_if_eq (tgt := 123) B hf dX10_is_114 (by decide) (fun hf => ?_) (fun hf => ?_)
      · refine lv_iconst (v := 0) B.1.1 B.1.2.1 dX10_is_123 (by decide) ?_
        refine lv_ior B.1.1 B.1.2.1 dX10_is_124 ?_
        refine y_istore_n B hl hf dX10_is_125 rfl (by decide) rfl (fun v3 ls hf hl => ?_)
        have hl : xL ls 4 [_, _, _, _] := hl
        refine y_iinc (d := 1) B hl hf dX10_is_126 rfl (by decide) (by decide) rfl (fun v4 ls hf hl => ?_)
        have hl : xL ls 4 [_, _, _, _] := hl
        refine lv_goto (tgt := 102) B.1.1 B.1.2.1 dX10_is_129 (by decide) ?_
        exact ih _ _ _ _ _ _ _ k_p0 hf hR hS hl
      · refine lv_iconst (v := 1) B.1.1 B.1.2.1 dX10_is_117 (by decide) ?_
        refine lv_iload_n B.1.1 B.1.2.1 dX10_is_118 rfl (hl.at 3 rfl) ?_
        refine lv_ishl B.1.1 B.1.2.1 dX10_is_119 ?_
        refine lv_goto (tgt := 124) B.1.1 B.1.2.1 dX10_is_120 (by decide) ?_
        refine lv_ior B.1.1 B.1.2.1 dX10_is_124 ?_
        refine y_istore_n B hl hf dX10_is_125 rfl (by decide) rfl (fun v5 ls hf hl => ?_)
        have hl : xL ls 4 [_, _, _, _] := hl
        refine y_iinc (d := 1) B hl hf dX10_is_126 rfl (by decide) (by decide) rfl (fun v6 ls hf hl => ?_)
        have hl : xL ls 4 [_, _, _, _] := hl
        refine lv_goto (tgt := 102) B.1.1 B.1.2.1 dX10_is_129 (by decide) ?_
        exact ih _ _ _ _ _ _ _ k_p0 hf hR hS hl
def f_X10_is (T : xT) (S : xS) (p0 : Nat) (p1 : Int32) : Option (Int32 × xS) := if p1 = (0 : Int32) then xc (f_X10_get T S p0 (((1 : Int32) + p1))) (fun r3 S2 => some (r3, S2)) else if p1 = (1 : Int32) then xc (f_X10_get T S p0 (((1 : Int32) + p1))) (fun r6 S5 => some (r6, S5)) else if p1 = (2 : Int32) then xc (f_X10_get T S p0 (((1 : Int32) + p1))) (fun r9 S8 => some (r9, S8)) else if p1 = (3 : Int32) then xc (f_X10_net T S p0) (fun r12 S11 => some (r12, S11)) else if p1 = (4 : Int32) then xc (f_X10_held T S p0) (fun r15 S14 => some (r15, S14)) else if p1 = (5 : Int32) then xc (f_X10_get T S p0 ((4 : Int32))) (fun r18 S17 => some (r18, S17)) else if p1 = (6 : Int32) then xc (f_X10_get T S p0 ((0 : Int32))) (fun r21 S20 => some (r21, S20)) else if p1 = (7 : Int32) then xl ((0 : Int32)) (fun v23 => xl ((0 : Int32)) (fun v24 => f_X10_is_102 T xfu S p0 v23 v24)) else if p1 = (8 : Int32) then xc (f_X10_sumOf T S p0 ((5 : Int32))) (fun r27 S26 => some (r27, S26)) else if p1 = (9 : Int32) then xc (f_X10_sumOf T S p0 ((29 : Int32))) (fun r30 S29 => some (r30, S29)) else if p1 = (10 : Int32) then xc (f_X10_sumOf T S p0 ((37 : Int32))) (fun r33 S32 => some (r33, S32)) else if p1 = (11 : Int32) then some ((S.1 p0 2), S) else if p1 = (12 : Int32) then some ((S.1 p0 5), S) else some ((-1000000000 : Int32), S)
set_option maxRecDepth 100000 in
set_option maxHeartbeats 4000000 in
theorem c_X10_is {l : Launch} {z : Nat} {D : va_G} {dA : Nat → ClassId} {T : xT} {S : xS} {p0 : Nat} {p1 : Int32} (k_p0 : xlk T p0 10 = true) {q : Int32 × xS} (hf : f_X10_is T S p0 p1 = some q) : Met l yX10_is (xws yX10_is cX10_is 4 (some .int)) xr_X10_is (xPc z D dA T S [.ref (z + p0), .int p1]) (xQi z D dA T q) 0 0 (xA z) := by
  refine x_met RX10 (by decide) rfl (Nat.le_of_ble_eq_true rfl) ?_
  intro p e s m below meth c ls _ X hr hlk hml _ hR hS hl
  have B : xB p s m _ meth c cX10_is RX10 4 (some .int) D dA := ⟨X, hr, hlk, hml⟩
  have hl : xL ls 4 [_, _, _, _] := hl
  unfold f_X10_is at hf
  refine lv_iload_n B.1.1 B.1.2.1 dX10_is_0 rfl (hl.at 1 rfl) ?_
  refine x_if hf (fun c1 hf => ?_) (fun c1 hf => ?_)
  · refine y_tcase (k := 0) (off := 67) (tgt := 68) B c1 dX10_is_1 (by decide) (by decide) (by decide) (by decide) ?_
    refine lv_aload_n B.1.1 B.1.2.1 dX10_is_68 rfl (hl.at 0 rfl) ?_
    refine lv_iconst (v := 1) B.1.1 B.1.2.1 dX10_is_69 (by decide) ?_
    refine lv_iload_n B.1.1 B.1.2.1 dX10_is_70 rfl (hl.at 1 rfl) ?_
    refine lv_iadd B.1.1 B.1.2.1 dX10_is_71 ?_
    refine y_ci hf (fun q hq => x_runV (ci := 10) (C := RX10) B.1 B.2.2.2 hl hR hS cm_X10_193 ⟨rfl, rfl, Nat.le_of_ble_eq_true rfl, Nat.le_of_ble_eq_true rfl⟩ (by decide) rfl k_p0 (c_X10_get k_p0 hq) rfl rfl (Nat.le_of_ble_eq_true rfl) dX10_is_72 ⟨Nat.le_of_ble_eq_true rfl, Nat.le_of_ble_eq_true rfl⟩) hS (fun r3 S2 H locs hf hR hS => ?_)
    exact y_iret B hR hS hf dX10_is_75
  refine x_if hf (fun c4 hf => ?_) (fun c4 hf => ?_)
  · refine y_tcase (k := 1) (off := 67) (tgt := 68) B c4 dX10_is_1 (by decide) (by decide) (by decide) (by decide) ?_
    refine lv_aload_n B.1.1 B.1.2.1 dX10_is_68 rfl (hl.at 0 rfl) ?_
    refine lv_iconst (v := 1) B.1.1 B.1.2.1 dX10_is_69 (by decide) ?_
    refine lv_iload_n B.1.1 B.1.2.1 dX10_is_70 rfl (hl.at 1 rfl) ?_
    refine lv_iadd B.1.1 B.1.2.1 dX10_is_71 ?_
    refine y_ci hf (fun q hq => x_runV (ci := 10) (C := RX10) B.1 B.2.2.2 hl hR hS cm_X10_193 ⟨rfl, rfl, Nat.le_of_ble_eq_true rfl, Nat.le_of_ble_eq_true rfl⟩ (by decide) rfl k_p0 (c_X10_get k_p0 hq) rfl rfl (Nat.le_of_ble_eq_true rfl) dX10_is_72 ⟨Nat.le_of_ble_eq_true rfl, Nat.le_of_ble_eq_true rfl⟩) hS (fun r6 S5 H locs hf hR hS => ?_)
    exact y_iret B hR hS hf dX10_is_75
  refine x_if hf (fun c7 hf => ?_) (fun c7 hf => ?_)
  · refine y_tcase (k := 2) (off := 67) (tgt := 68) B c7 dX10_is_1 (by decide) (by decide) (by decide) (by decide) ?_
    refine lv_aload_n B.1.1 B.1.2.1 dX10_is_68 rfl (hl.at 0 rfl) ?_
    refine lv_iconst (v := 1) B.1.1 B.1.2.1 dX10_is_69 (by decide) ?_
    refine lv_iload_n B.1.1 B.1.2.1 dX10_is_70 rfl (hl.at 1 rfl) ?_
    refine lv_iadd B.1.1 B.1.2.1 dX10_is_71 ?_
    refine y_ci hf (fun q hq => x_runV (ci := 10) (C := RX10) B.1 B.2.2.2 hl hR hS cm_X10_193 ⟨rfl, rfl, Nat.le_of_ble_eq_true rfl, Nat.le_of_ble_eq_true rfl⟩ (by decide) rfl k_p0 (c_X10_get k_p0 hq) rfl rfl (Nat.le_of_ble_eq_true rfl) dX10_is_72 ⟨Nat.le_of_ble_eq_true rfl, Nat.le_of_ble_eq_true rfl⟩) hS (fun r9 S8 H locs hf hR hS => ?_)
    exact y_iret B hR hS hf dX10_is_75
  refine x_if hf (fun c10 hf => ?_) (fun c10 hf => ?_)
  · refine y_tcase (k := 3) (off := 75) (tgt := 76) B c10 dX10_is_1 (by decide) (by decide) (by decide) (by decide) ?_
    refine lv_aload_n B.1.1 B.1.2.1 dX10_is_76 rfl (hl.at 0 rfl) ?_
    refine y_ci hf (fun q hq => x_runV (ci := 10) (C := RX10) B.1 B.2.2.2 hl hR hS cm_X10_231 ⟨rfl, rfl, Nat.le_of_ble_eq_true rfl, Nat.le_of_ble_eq_true rfl⟩ (by decide) rfl k_p0 (c_X10_net k_p0 hq) rfl rfl (Nat.le_of_ble_eq_true rfl) dX10_is_77 ⟨Nat.le_of_ble_eq_true rfl, Nat.le_of_ble_eq_true rfl⟩) hS (fun r12 S11 H locs hf hR hS => ?_)
    exact y_iret B hR hS hf dX10_is_80
  refine x_if hf (fun c13 hf => ?_) (fun c13 hf => ?_)
  · refine y_tcase (k := 4) (off := 80) (tgt := 81) B c13 dX10_is_1 (by decide) (by decide) (by decide) (by decide) ?_
    refine lv_aload_n B.1.1 B.1.2.1 dX10_is_81 rfl (hl.at 0 rfl) ?_
    refine y_ci hf (fun q hq => x_runV (ci := 10) (C := RX10) B.1 B.2.2.2 hl hR hS cm_X10_234 ⟨rfl, rfl, Nat.le_of_ble_eq_true rfl, Nat.le_of_ble_eq_true rfl⟩ (by decide) rfl k_p0 (c_X10_held k_p0 hq) rfl rfl (Nat.le_of_ble_eq_true rfl) dX10_is_82 ⟨Nat.le_of_ble_eq_true rfl, Nat.le_of_ble_eq_true rfl⟩) hS (fun r15 S14 H locs hf hR hS => ?_)
    exact y_iret B hR hS hf dX10_is_85
  refine x_if hf (fun c16 hf => ?_) (fun c16 hf => ?_)
  · refine y_tcase (k := 5) (off := 85) (tgt := 86) B c16 dX10_is_1 (by decide) (by decide) (by decide) (by decide) ?_
    refine lv_aload_n B.1.1 B.1.2.1 dX10_is_86 rfl (hl.at 0 rfl) ?_
    refine lv_iconst (v := 4) B.1.1 B.1.2.1 dX10_is_87 (by decide) ?_
    refine y_ci hf (fun q hq => x_runV (ci := 10) (C := RX10) B.1 B.2.2.2 hl hR hS cm_X10_193 ⟨rfl, rfl, Nat.le_of_ble_eq_true rfl, Nat.le_of_ble_eq_true rfl⟩ (by decide) rfl k_p0 (c_X10_get k_p0 hq) rfl rfl (Nat.le_of_ble_eq_true rfl) dX10_is_88 ⟨Nat.le_of_ble_eq_true rfl, Nat.le_of_ble_eq_true rfl⟩) hS (fun r18 S17 H locs hf hR hS => ?_)
    exact y_iret B hR hS hf dX10_is_91
  refine x_if hf (fun c19 hf => ?_) (fun c19 hf => ?_)
  · refine y_tcase (k := 6) (off := 91) (tgt := 92) B c19 dX10_is_1 (by decide) (by decide) (by decide) (by decide) ?_
    refine lv_aload_n B.1.1 B.1.2.1 dX10_is_92 rfl (hl.at 0 rfl) ?_
    refine lv_iconst (v := 0) B.1.1 B.1.2.1 dX10_is_93 (by decide) ?_
    refine y_ci hf (fun q hq => x_runV (ci := 10) (C := RX10) B.1 B.2.2.2 hl hR hS cm_X10_193 ⟨rfl, rfl, Nat.le_of_ble_eq_true rfl, Nat.le_of_ble_eq_true rfl⟩ (by decide) rfl k_p0 (c_X10_get k_p0 hq) rfl rfl (Nat.le_of_ble_eq_true rfl) dX10_is_94 ⟨Nat.le_of_ble_eq_true rfl, Nat.le_of_ble_eq_true rfl⟩) hS (fun r21 S20 H locs hf hR hS => ?_)
    exact y_iret B hR hS hf dX10_is_97
  refine x_if hf (fun c22 hf => ?_) (fun c22 hf => ?_)
  · refine y_tcase (k := 7) (off := 97) (tgt := 98) B c22 dX10_is_1 (by decide) (by decide) (by decide) (by decide) ?_
    refine lv_iconst (v := 0) B.1.1 B.1.2.1 dX10_is_98 (by decide) ?_
    refine y_istore_n B hl hf dX10_is_99 rfl (by decide) rfl (fun v23 ls hf hl => ?_)
    have hl : xL ls 4 [_, _, _, _] := hl
    refine lv_iconst (v := 0) B.1.1 B.1.2.1 dX10_is_100 (by decide) ?_
    refine y_istore_n B hl hf dX10_is_101 rfl (by decide) rfl (fun v24 ls hf hl => ?_)
    have hl : xL ls 4 [_, _, _, _] := hl
    exact w_X10_is_102 B xfu _ _ _ _ _ _ _ k_p0 hf hR hS (hl.drop [true, false, true, true] rfl)
  refine x_if hf (fun c25 hf => ?_) (fun c25 hf => ?_)
  · refine y_tcase (k := 8) (off := 133) (tgt := 134) B c25 dX10_is_1 (by decide) (by decide) (by decide) (by decide) ?_
    refine lv_aload_n B.1.1 B.1.2.1 dX10_is_134 rfl (hl.at 0 rfl) ?_
    refine lv_iconst (v := 5) B.1.1 B.1.2.1 dX10_is_135 (by decide) ?_
    refine y_ci hf (fun q hq => x_runV (ci := 10) (C := RX10) B.1 B.2.2.2 hl hR hS cm_X10_228 ⟨rfl, rfl, Nat.le_of_ble_eq_true rfl, Nat.le_of_ble_eq_true rfl⟩ (by decide) rfl k_p0 (c_X10_sumOf k_p0 hq) rfl rfl (Nat.le_of_ble_eq_true rfl) dX10_is_136 ⟨Nat.le_of_ble_eq_true rfl, Nat.le_of_ble_eq_true rfl⟩) hS (fun r27 S26 H locs hf hR hS => ?_)
    exact y_iret B hR hS hf dX10_is_139
  refine x_if hf (fun c28 hf => ?_) (fun c28 hf => ?_)
  · refine y_tcase (k := 9) (off := 139) (tgt := 140) B c28 dX10_is_1 (by decide) (by decide) (by decide) (by decide) ?_
    refine lv_aload_n B.1.1 B.1.2.1 dX10_is_140 rfl (hl.at 0 rfl) ?_
    refine lv_bipush (v := 29) B.1.1 B.1.2.1 dX10_is_141 (by decide) ?_
    refine y_ci hf (fun q hq => x_runV (ci := 10) (C := RX10) B.1 B.2.2.2 hl hR hS cm_X10_228 ⟨rfl, rfl, Nat.le_of_ble_eq_true rfl, Nat.le_of_ble_eq_true rfl⟩ (by decide) rfl k_p0 (c_X10_sumOf k_p0 hq) rfl rfl (Nat.le_of_ble_eq_true rfl) dX10_is_143 ⟨Nat.le_of_ble_eq_true rfl, Nat.le_of_ble_eq_true rfl⟩) hS (fun r30 S29 H locs hf hR hS => ?_)
    exact y_iret B hR hS hf dX10_is_146
  refine x_if hf (fun c31 hf => ?_) (fun c31 hf => ?_)
  · refine y_tcase (k := 10) (off := 146) (tgt := 147) B c31 dX10_is_1 (by decide) (by decide) (by decide) (by decide) ?_
    refine lv_aload_n B.1.1 B.1.2.1 dX10_is_147 rfl (hl.at 0 rfl) ?_
    refine lv_bipush (v := 37) B.1.1 B.1.2.1 dX10_is_148 (by decide) ?_
    refine y_ci hf (fun q hq => x_runV (ci := 10) (C := RX10) B.1 B.2.2.2 hl hR hS cm_X10_228 ⟨rfl, rfl, Nat.le_of_ble_eq_true rfl, Nat.le_of_ble_eq_true rfl⟩ (by decide) rfl k_p0 (c_X10_sumOf k_p0 hq) rfl rfl (Nat.le_of_ble_eq_true rfl) dX10_is_150 ⟨Nat.le_of_ble_eq_true rfl, Nat.le_of_ble_eq_true rfl⟩) hS (fun r33 S32 H locs hf hR hS => ?_)
    exact y_iret B hR hS hf dX10_is_153
  refine x_if hf (fun c34 hf => ?_) (fun c34 hf => ?_)
  · refine y_tcase (k := 11) (off := 153) (tgt := 154) B c34 dX10_is_1 (by decide) (by decide) (by decide) (by decide) ?_
    refine lv_aload_n B.1.1 B.1.2.1 dX10_is_154 rfl (hl.at 0 rfl) ?_
    refine y_getI B hR k_p0 fl_X10_75 dX10_is_155 ?_
    exact y_iret B hR hS hf dX10_is_158
  refine x_if hf (fun c35 hf => ?_) (fun c35 hf => ?_)
  · refine y_tcase (k := 12) (off := 158) (tgt := 159) B c35 dX10_is_1 (by decide) (by decide) (by decide) (by decide) ?_
    refine lv_aload_n B.1.1 B.1.2.1 dX10_is_159 rfl (hl.at 0 rfl) ?_
    refine y_getI B hR k_p0 fl_X10_88 dX10_is_160 ?_
    exact y_iret B hR hS hf dX10_is_163
  have n0 := lv_neT c1 (a := 0) (by decide)
  have n1 := lv_neT c4 (a := 1) (by decide)
  have n2 := lv_neT c7 (a := 2) (by decide)
  have n3 := lv_neT c10 (a := 3) (by decide)
  have n4 := lv_neT c13 (a := 4) (by decide)
  have n5 := lv_neT c16 (a := 5) (by decide)
  have n6 := lv_neT c19 (a := 6) (by decide)
  have n7 := lv_neT c22 (a := 7) (by decide)
  have n8 := lv_neT c25 (a := 8) (by decide)
  have n9 := lv_neT c28 (a := 9) (by decide)
  have n10 := lv_neT c31 (a := 10) (by decide)
  have n11 := lv_neT c34 (a := 11) (by decide)
  have n12 := lv_neT c35 (a := 12) (by decide)
  refine y_tdef (tgt := 164) B dX10_is_1 (by omega) (by decide) ?_
  refine lv_ldc (v := -1000000000) B.1.1 B.1.2.1 B.1.2.2.1 (B.1.2.2.2.1 _ tw_1301) dX10_is_164 ?_
  exact y_iret B hR hS hf dX10_is_166
abbrev xr_X10_partner : Room := { frames := 6, cells := 0, slots := 0, locals := 123 }
def f_X10_partner (T : xT) (S : xS) (p0 : Nat) (p1 : Int32) (p2 : Int32) : Option (Int32 × xS) := xc (f_X10_isThere T S p0 p1) (fun r2 S1 => if r2 = (0 : Int32) then some ((-1000000000 : Int32), S1) else xc (f_X10_isIn T S1 p2 ((0 : Int32)) ((4 : Int32))) (fun r4 S3 => if r4 = (0 : Int32) then if p2 = (5 : Int32) then xc (f_X10_floorOf T S3 p0 p1) (fun r8 S7 => some (r8, S7)) else if p2 = (6 : Int32) then xc (f_X10_gapOf T S3 p0 p1) (fun r6 S5 => some (r6, S5)) else some ((-1000000000 : Int32), S3) else xc (f_X10_get T S3 p0 ((((5 : Int32) + ((8 : Int32) * p2)) + p1))) (fun r10 S9 => some (r10, S9))))
set_option maxRecDepth 100000 in
set_option maxHeartbeats 4000000 in
theorem c_X10_partner {l : Launch} {z : Nat} {D : va_G} {dA : Nat → ClassId} {T : xT} {S : xS} {p0 : Nat} {p1 : Int32} {p2 : Int32} (k_p0 : xlk T p0 10 = true) {q : Int32 × xS} (hf : f_X10_partner T S p0 p1 p2 = some q) : Met l yX10_partner (xws yX10_partner cX10_partner 3 (some .int)) xr_X10_partner (xPc z D dA T S [.ref (z + p0), .int p1, .int p2]) (xQi z D dA T q) 0 0 (xA z) := by
  refine x_met RX10 (by decide) rfl (Nat.le_of_ble_eq_true rfl) ?_
  intro p e s m below meth c ls _ X hr hlk hml _ hR hS hl
  have B : xB p s m _ meth c cX10_partner RX10 3 (some .int) D dA := ⟨X, hr, hlk, hml⟩
  have hl : xL ls 3 [_, _, _] := hl
  unfold f_X10_partner at hf
  refine lv_aload_n B.1.1 B.1.2.1 dX10_partner_0 rfl (hl.at 0 rfl) ?_
  refine lv_iload_n B.1.1 B.1.2.1 dX10_partner_1 rfl (hl.at 1 rfl) ?_
  refine y_ci hf (fun q hq => x_runV (ci := 10) (C := RX10) B.1 B.2.2.2 hl hR hS cm_X10_203 ⟨rfl, rfl, Nat.le_of_ble_eq_true rfl, Nat.le_of_ble_eq_true rfl⟩ (by decide) rfl k_p0 (c_X10_isThere k_p0 hq) rfl rfl (Nat.le_of_ble_eq_true rfl) dX10_partner_2 ⟨Nat.le_of_ble_eq_true rfl, Nat.le_of_ble_eq_true rfl⟩) hS (fun r2 S1 H locs hf hR hS => ?_)
  refine y_if_ne (tgt := 11) B hf dX10_partner_5 (by decide) (fun hf => ?_) (fun hf => ?_)
  · refine lv_iload_n B.1.1 B.1.2.1 dX10_partner_11 rfl (hl.at 2 rfl) ?_
    refine lv_iconst (v := 0) B.1.1 B.1.2.1 dX10_partner_12 (by decide) ?_
    refine lv_iconst (v := 4) B.1.1 B.1.2.1 dX10_partner_13 (by decide) ?_
    refine y_ci hf (fun q hq => y_runS B.1 B.2.2.2 hl hR hS cm_X10_81 ⟨rfl, rfl, Nat.le_of_ble_eq_true rfl, Nat.le_of_ble_eq_true rfl⟩ (c_X10_isIn hq) rfl rfl (Nat.le_of_ble_eq_true rfl) dX10_partner_14 ⟨Nat.le_of_ble_eq_true rfl, Nat.le_of_ble_eq_true rfl⟩) hS (fun r4 S3 H locs hf hR hS => ?_)
    refine y_if_eq (tgt := 33) B hf dX10_partner_17 (by decide) (fun hf => ?_) (fun hf => ?_)
    · refine lv_iload_n B.1.1 B.1.2.1 dX10_partner_33 rfl (hl.at 2 rfl) ?_
      refine lv_iconst (v := 5) B.1.1 B.1.2.1 dX10_partner_34 (by decide) ?_
      refine y_icmp_ne (tgt := 46) B hf dX10_partner_35 (by decide) (fun hf => ?_) (fun hf => ?_)
      · refine lv_iload_n B.1.1 B.1.2.1 dX10_partner_46 rfl (hl.at 2 rfl) ?_
        refine lv_bipush (v := 6) B.1.1 B.1.2.1 dX10_partner_47 (by decide) ?_
        refine y_icmp_ne (tgt := 60) B hf dX10_partner_49 (by decide) (fun hf => ?_) (fun hf => ?_)
        · refine lv_ldc (v := -1000000000) B.1.1 B.1.2.1 B.1.2.2.1 (B.1.2.2.2.1 _ tw_1301) dX10_partner_60 ?_
          exact y_iret B hR hS hf dX10_partner_62
        · refine lv_aload_n B.1.1 B.1.2.1 dX10_partner_52 rfl (hl.at 0 rfl) ?_
          refine lv_iload_n B.1.1 B.1.2.1 dX10_partner_53 rfl (hl.at 1 rfl) ?_
          refine y_ci hf (fun q hq => x_runV (ci := 10) (C := RX10) B.1 B.2.2.2 hl hR hS cm_X10_240 ⟨rfl, rfl, Nat.le_of_ble_eq_true rfl, Nat.le_of_ble_eq_true rfl⟩ (by decide) rfl k_p0 (c_X10_gapOf k_p0 hq) rfl rfl (Nat.le_of_ble_eq_true rfl) dX10_partner_54 ⟨Nat.le_of_ble_eq_true rfl, Nat.le_of_ble_eq_true rfl⟩) hS (fun r6 S5 H locs hf hR hS => ?_)
          refine lv_goto (tgt := 62) B.1.1 B.1.2.1 dX10_partner_57 (by decide) ?_
          exact y_iret B hR hS hf dX10_partner_62
      · refine lv_aload_n B.1.1 B.1.2.1 dX10_partner_38 rfl (hl.at 0 rfl) ?_
        refine lv_iload_n B.1.1 B.1.2.1 dX10_partner_39 rfl (hl.at 1 rfl) ?_
        refine y_ci hf (fun q hq => x_runV (ci := 10) (C := RX10) B.1 B.2.2.2 hl hR hS cm_X10_237 ⟨rfl, rfl, Nat.le_of_ble_eq_true rfl, Nat.le_of_ble_eq_true rfl⟩ (by decide) rfl k_p0 (c_X10_floorOf k_p0 hq) rfl rfl (Nat.le_of_ble_eq_true rfl) dX10_partner_40 ⟨Nat.le_of_ble_eq_true rfl, Nat.le_of_ble_eq_true rfl⟩) hS (fun r8 S7 H locs hf hR hS => ?_)
        refine lv_goto (tgt := 62) B.1.1 B.1.2.1 dX10_partner_43 (by decide) ?_
        exact y_iret B hR hS hf dX10_partner_62
    · refine lv_aload_n B.1.1 B.1.2.1 dX10_partner_20 rfl (hl.at 0 rfl) ?_
      refine lv_iconst (v := 5) B.1.1 B.1.2.1 dX10_partner_21 (by decide) ?_
      refine lv_bipush (v := 8) B.1.1 B.1.2.1 dX10_partner_22 (by decide) ?_
      refine lv_iload_n B.1.1 B.1.2.1 dX10_partner_24 rfl (hl.at 2 rfl) ?_
      refine lv_imul B.1.1 B.1.2.1 dX10_partner_25 ?_
      refine lv_iadd B.1.1 B.1.2.1 dX10_partner_26 ?_
      refine lv_iload_n B.1.1 B.1.2.1 dX10_partner_27 rfl (hl.at 1 rfl) ?_
      refine lv_iadd B.1.1 B.1.2.1 dX10_partner_28 ?_
      refine y_ci hf (fun q hq => x_runV (ci := 10) (C := RX10) B.1 B.2.2.2 hl hR hS cm_X10_193 ⟨rfl, rfl, Nat.le_of_ble_eq_true rfl, Nat.le_of_ble_eq_true rfl⟩ (by decide) rfl k_p0 (c_X10_get k_p0 hq) rfl rfl (Nat.le_of_ble_eq_true rfl) dX10_partner_29 ⟨Nat.le_of_ble_eq_true rfl, Nat.le_of_ble_eq_true rfl⟩) hS (fun r10 S9 H locs hf hR hS => ?_)
      exact y_iret B hR hS hf dX10_partner_32
  · refine lv_ldc (v := -1000000000) B.1.1 B.1.2.1 B.1.2.2.1 (B.1.2.2.2.1 _ tw_1301) dX10_partner_8 ?_
    exact y_iret B hR hS hf dX10_partner_10
