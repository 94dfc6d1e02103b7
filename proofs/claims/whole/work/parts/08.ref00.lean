abbrev xr_X10_isIn : Room := { frames := 1, cells := 0, slots := 0, locals := 12 }
def f_X10_isIn (T : xT) (S : xS) (p0 : Int32) (p1 : Int32) (p2 : Int32) : Option (Int32 × xS) := if p0 < p1 then some ((0 : Int32), S) else if p2 < p0 then some ((0 : Int32), S) else some ((1 : Int32), S)
set_option maxRecDepth 100000 in
set_option maxHeartbeats 4000000 in
theorem c_X10_isIn {l : Launch} {z : Nat} {D : va_G} {dA : Nat → ClassId} {T : xT} {S : xS} {p0 : Int32} {p1 : Int32} {p2 : Int32} {q : Int32 × xS} (hf : f_X10_isIn T S p0 p1 p2 = some q) : Met l yX10_isIn (xws yX10_isIn cX10_isIn 3 (some .boolean)) xr_X10_isIn (xPc z D dA T S [.int p0, .int p1, .int p2]) (xQi z D dA T q) 0 0 (xA z) := by
  refine x_met RX10 (by decide) rfl (Nat.le_of_ble_eq_true rfl) ?_
  intro p e s m below meth c ls _ X hr hlk hml _ hR hS hl
  have B : xB p s m _ meth c cX10_isIn RX10 3 (some .boolean) D dA := ⟨X, hr, hlk, hml⟩
  have hl : xL ls 3 [_, _, _] := hl
  unfold f_X10_isIn at hf
  refine lv_iload_n B.1.1 B.1.2.1 dX10_isIn_0 rfl (hl.at 0 rfl) ?_
  refine lv_iload_n B.1.1 B.1.2.1 dX10_isIn_1 rfl (hl.at 1 rfl) ?_
  refine y_icmp_lt (tgt := 14) B hf dX10_isIn_2 (by decide) (fun hf => ?_) (fun hf => ?_)
  · refine lv_iconst (v := 0) B.1.1 B.1.2.1 dX10_isIn_14 (by decide) ?_
    exact y_zretK B hR hS hf rfl dX10_isIn_15
  · refine lv_iload_n B.1.1 B.1.2.1 dX10_isIn_5 rfl (hl.at 0 rfl) ?_
    refine lv_iload_n B.1.1 B.1.2.1 dX10_isIn_6 rfl (hl.at 2 rfl) ?_
    refine y_icmp_gt (tgt := 14) B hf dX10_isIn_7 (by decide) (fun hf => ?_) (fun hf => ?_)
    · refine lv_iconst (v := 0) B.1.1 B.1.2.1 dX10_isIn_14 (by decide) ?_
      exact y_zretK B hR hS hf rfl dX10_isIn_15
    · refine lv_iconst (v := 1) B.1.1 B.1.2.1 dX10_isIn_10 (by decide) ?_
      refine lv_goto (tgt := 15) B.1.1 B.1.2.1 dX10_isIn_11 (by decide) ?_
      exact y_zretK B hR hS hf rfl dX10_isIn_15
abbrev xr_X10_get : Room := { frames := 1, cells := 0, slots := 0, locals := 12 }
def f_X10_get (T : xT) (S : xS) (p0 : Nat) (p1 : Int32) : Option (Int32 × xS) := xgr T S p0 0 20 (fun a1 => xai T S a1 (((S.1 p0 1) + p1)) (fun v2 => some (v2, S)))
set_option maxRecDepth 100000 in
set_option maxHeartbeats 4000000 in
theorem c_X10_get {l : Launch} {z : Nat} {D : va_G} {dA : Nat → ClassId} {T : xT} {S : xS} {p0 : Nat} {p1 : Int32} (k_p0 : xlk T p0 10 = true) {q : Int32 × xS} (hf : f_X10_get T S p0 p1 = some q) : Met l yX10_get (xws yX10_get cX10_get 2 (some .int)) xr_X10_get (xPc z D dA T S [.ref (z + p0), .int p1]) (xQi z D dA T q) 0 0 (xA z) := by
  refine x_met RX10 (by decide) rfl (Nat.le_of_ble_eq_true rfl) ?_
  intro p e s m below meth c ls _ X hr hlk hml _ hR hS hl
  have B : xB p s m _ meth c cX10_get RX10 2 (some .int) D dA := ⟨X, hr, hlk, hml⟩
  have hl : xL ls 2 [_, _] := hl
  unfold f_X10_get at hf
  refine lv_aload_n B.1.1 B.1.2.1 dX10_get_0 rfl (hl.at 0 rfl) ?_
  refine y_getR B hR hf k_p0 fl_X10_1 dX10_get_1 (fun a1 k_a1 hf => ?_)
  refine lv_aload_n B.1.1 B.1.2.1 dX10_get_4 rfl (hl.at 0 rfl) ?_
  refine y_getI B hR k_p0 fl_X10_7 dX10_get_5 ?_
  refine lv_iload_n B.1.1 B.1.2.1 dX10_get_8 rfl (hl.at 1 rfl) ?_
  refine lv_iadd B.1.1 B.1.2.1 dX10_get_9 ?_
  refine y_iald B hR hf k_a1 dX10_get_10 (fun v2 hf => ?_)
  exact y_iret B hR hS hf dX10_get_11
abbrev xr_X10_put : Room := { frames := 1, cells := 0, slots := 0, locals := 12 }
def f_X10_put (T : xT) (S : xS) (p0 : Nat) (p1 : Int32) (p2 : Int32) : Option (xS) := xgr T S p0 0 20 (fun a1 => xst T S a1 (((S.1 p0 1) + p1)) p2 (fun S2 => some S2))
set_option maxRecDepth 100000 in
set_option maxHeartbeats 4000000 in
theorem c_X10_put {l : Launch} {z : Nat} {D : va_G} {dA : Nat → ClassId} {T : xT} {S : xS} {p0 : Nat} {p1 : Int32} {p2 : Int32} (k_p0 : xlk T p0 10 = true) {q : xS} (hf : f_X10_put T S p0 p1 p2 = some q) : Met l yX10_put (xws yX10_put cX10_put 3 none) xr_X10_put (xPc z D dA T S [.ref (z + p0), .int p1, .int p2]) (xQv z D dA T q) 0 0 (xA z) := by
  refine x_met RX10 (by decide) rfl (Nat.le_of_ble_eq_true rfl) ?_
  intro p e s m below meth c ls _ X hr hlk hml _ hR hS hl
  have B : xB p s m _ meth c cX10_put RX10 3 none D dA := ⟨X, hr, hlk, hml⟩
  have hl : xL ls 3 [_, _, _] := hl
  unfold f_X10_put at hf
  refine lv_aload_n B.1.1 B.1.2.1 dX10_put_0 rfl (hl.at 0 rfl) ?_
  refine y_getR B hR hf k_p0 fl_X10_1 dX10_put_1 (fun a1 k_a1 hf => ?_)
  refine lv_aload_n B.1.1 B.1.2.1 dX10_put_4 rfl (hl.at 0 rfl) ?_
  refine y_getI B hR k_p0 fl_X10_7 dX10_put_5 ?_
  refine lv_iload_n B.1.1 B.1.2.1 dX10_put_8 rfl (hl.at 1 rfl) ?_
  refine lv_iadd B.1.1 B.1.2.1 dX10_put_9 ?_
  refine lv_iload_n B.1.1 B.1.2.1 dX10_put_10 rfl (hl.at 2 rfl) ?_
  refine y_iast B hR hS hf k_a1 dX10_put_11 (fun S2 H locs hf hR hS => ?_)
  exact y_vret B hR hS hf dX10_put_12
abbrev xr_X10_more : Room := { frames := 1, cells := 0, slots := 0, locals := 12 }
def f_X10_more (T : xT) (S : xS) (p0 : Nat) (p1 : Int32) (p2 : Int32) : Option (xS) := xgr T S p0 0 20 (fun a1 => xai T S a1 (((S.1 p0 1) + p1)) (fun v2 => xst T S a1 (((S.1 p0 1) + p1)) ((v2 + p2)) (fun S3 => some S3)))
set_option maxRecDepth 100000 in
set_option maxHeartbeats 4000000 in
theorem c_X10_more {l : Launch} {z : Nat} {D : va_G} {dA : Nat → ClassId} {T : xT} {S : xS} {p0 : Nat} {p1 : Int32} {p2 : Int32} (k_p0 : xlk T p0 10 = true) {q : xS} (hf : f_X10_more T S p0 p1 p2 = some q) : Met l yX10_more (xws yX10_more cX10_more 3 none) xr_X10_more (xPc z D dA T S [.ref (z + p0), .int p1, .int p2]) (xQv z D dA T q) 0 0 (xA z) := by
  refine x_met RX10 (by decide) rfl (Nat.le_of_ble_eq_true rfl) ?_
  intro p e s m below meth c ls _ X hr hlk hml _ hR hS hl
  have B : xB p s m _ meth c cX10_more RX10 3 none D dA := ⟨X, hr, hlk, hml⟩
  have hl : xL ls 3 [_, _, _] := hl
  unfold f_X10_more at hf
  refine lv_aload_n B.1.1 B.1.2.1 dX10_more_0 rfl (hl.at 0 rfl) ?_
  refine y_getR B hR hf k_p0 fl_X10_1 dX10_more_1 (fun a1 k_a1 hf => ?_)
  refine lv_aload_n B.1.1 B.1.2.1 dX10_more_4 rfl (hl.at 0 rfl) ?_
  refine y_getI B hR k_p0 fl_X10_7 dX10_more_5 ?_
  refine lv_iload_n B.1.1 B.1.2.1 dX10_more_8 rfl (hl.at 1 rfl) ?_
  refine lv_iadd B.1.1 B.1.2.1 dX10_more_9 ?_
  refine lv_dup2_11 B.1.1 B.1.2.1 dX10_more_10 rfl rfl ?_
  refine y_iald B hR hf k_a1 dX10_more_11 (fun v2 hf => ?_)
  refine lv_iload_n B.1.1 B.1.2.1 dX10_more_12 rfl (hl.at 2 rfl) ?_
  refine lv_iadd B.1.1 B.1.2.1 dX10_more_13 ?_
  refine y_iast B hR hS hf k_a1 dX10_more_14 (fun S3 H locs hf hR hS => ?_)
  exact y_vret B hR hS hf dX10_more_15
abbrev xr_X10_copyRow : Room := { frames := 1, cells := 0, slots := 0, locals := 12 }
def f_X10_copyRow_2 (T : xT) : Nat → xS → Nat → Int32 → Int32 → Int32 → Option (xS)
  | 0, _, _, _, _, _ => none
  | n + 1, S, p0, p1, p2, p3 => if (366 : Int32) ≤ p3 then some S else xgr T S p0 0 20 (fun a1 => xgr T S p0 0 20 (fun a2 => xai T S a2 ((((366 : Int32) * p1) + p3)) (fun v3 => xst T S a1 ((((366 : Int32) * p2) + p3)) v3 (fun S4 => xl (p3 + (1 : Int32)) (fun v5 => f_X10_copyRow_2 T n S4 p0 p1 p2 v5)))))
set_option maxRecDepth 100000 in
set_option maxHeartbeats 4000000 in
theorem w_X10_copyRow_2 {p : Program} {l : Launch} {e : Env} {s : State} {m : MethodId} {args : Array Value} {below : List Frame} {meth : Method} {c : Code} {z : Nat} {D : va_G} {dA : Nat → ClassId} {T : xT} (B : xB p s m args meth c cX10_copyRow RX10 4 none D dA) {q : xS} : ∀ (n : Nat), ∀ (S : xS) (H : Heap) (locs : List Loc) (ls : Array Slot) (p0 : Nat) (p1 : Int32) (p2 : Int32) (p3 : Int32), xlk T p0 10 = true → f_X10_copyRow_2 T n S p0 p1 p2 p3 = some q → xRel z D dA T S H → va_S (xA z) s.heap H locs → xL ls 4 [some (.ref (z + p0)), some (.int p1), some (.int p2), some (.int p3)] → xGv p l e xr_X10_copyRow s m args below meth c z D dA T q H locs 2 ls [] := by
  intro n
  induction n with
  | zero =>
    intro S H locs ls p0 p1 p2 p3 k_p0 hf hR hS hl
    exact absurd hf (by simp [f_X10_copyRow_2])
  | succ n ih =>
    intro S H locs ls p0 p1 p2 p3 k_p0 hf hR hS hl
    unfold f_X10_copyRow_2 at hf
    refine lv_iload_n B.1.1 B.1.2.1 dX10_copyRow_2 rfl (hl.at 3 rfl) ?_
    refine lv_sipush (v := 366) B.1.1 B.1.2.1 dX10_copyRow_3 (by decide) ?_
    refine y_icmp_ge (tgt := 39) B hf dX10_copyRow_6 (by decide) (fun hf => ?_) (fun hf => ?_)
    · exact y_vret B hR hS hf dX10_copyRow_39
    · refine lv_aload_n B.1.1 B.1.2.1 dX10_copyRow_9 rfl (hl.at 0 rfl) ?_
      refine y_getR B hR hf k_p0 fl_X10_1 dX10_copyRow_10 (fun a1 k_a1 hf => ?_)
      refine lv_sipush (v := 366) B.1.1 B.1.2.1 dX10_copyRow_13 (by decide) ?_
      refine lv_iload_n B.1.1 B.1.2.1 dX10_copyRow_16 rfl (hl.at 2 rfl) ?_
      refine lv_imul B.1.1 B.1.2.1 dX10_copyRow_17 ?_
      refine lv_iload_n B.1.1 B.1.2.1 dX10_copyRow_18 rfl (hl.at 3 rfl) ?_
      refine lv_iadd B.1.1 B.1.2.1 dX10_copyRow_19 ?_
      refine lv_aload_n B.1.1 B.1.2.1 dX10_copyRow_20 rfl (hl.at 0 rfl) ?_
      refine y_getR B hR hf k_p0 fl_X10_1 dX10_copyRow_21 (fun a2 k_a2 hf => ?_)
      refine lv_sipush (v := 366) B.1.1 B.1.2.1 dX10_copyRow_24 (by decide) ?_
      refine lv_iload_n B.1.1 B.1.2.1 dX10_copyRow_27 rfl (hl.at 1 rfl) ?_
      refine lv_imul B.1.1 B.1.2.1 dX10_copyRow_28 ?_
      refine lv_iload_n B.1.1 B.1.2.1 dX10_copyRow_29 rfl (hl.at 3 rfl) ?_
      refine lv_iadd B.1.1 B.1.2.1 dX10_copyRow_30 ?_
      refine y_iald B hR hf k_a2 dX10_copyRow_31 (fun v3 hf => ?_)
      refine y_iast B hR hS hf k_a1 dX10_copyRow_32 (fun S4 H locs hf hR hS => ?_)
      refine y_iinc (d := 1) B hl hf dX10_copyRow_33 rfl (by decide) (by decide) rfl (fun v5 ls hf hl => ?_)
      have hl : xL ls 4 [_, _, _, _] := hl
      refine lv_goto (tgt := 2) B.1.1 B.1.2.1 dX10_copyRow_36 (by decide) ?_
      exact ih _ _ _ _ _ _ _ _ k_p0 hf hR hS hl
def f_X10_copyRow (T : xT) (S : xS) (p0 : Nat) (p1 : Int32) (p2 : Int32) : Option (xS) := xl ((0 : Int32)) (fun v1 => f_X10_copyRow_2 T xfu S p0 p1 p2 v1)
set_option maxRecDepth 100000 in
set_option maxHeartbeats 4000000 in
theorem c_X10_copyRow {l : Launch} {z : Nat} {D : va_G} {dA : Nat → ClassId} {T : xT} {S : xS} {p0 : Nat} {p1 : Int32} {p2 : Int32} (k_p0 : xlk T p0 10 = true) {q : xS} (hf : f_X10_copyRow T S p0 p1 p2 = some q) : Met l yX10_copyRow (xws yX10_copyRow cX10_copyRow 4 none) xr_X10_copyRow (xPc z D dA T S [.ref (z + p0), .int p1, .int p2]) (xQv z D dA T q) 0 0 (xA z) := by
  refine x_met RX10 (by decide) rfl (Nat.le_of_ble_eq_true rfl) ?_
  intro p e s m below meth c ls _ X hr hlk hml _ hR hS hl
  have B : xB p s m _ meth c cX10_copyRow RX10 4 none D dA := ⟨X, hr, hlk, hml⟩
  have hl : xL ls 4 [_, _, _, _] := hl
  unfold f_X10_copyRow at hf
  refine lv_iconst (v := 0) B.1.1 B.1.2.1 dX10_copyRow_0 (by decide) ?_
  refine y_istore_n B hl hf dX10_copyRow_1 rfl (by decide) rfl (fun v1 ls hf hl => ?_)
  have hl : xL ls 4 [_, _, _, _] := hl
  exact w_X10_copyRow_2 B xfu _ _ _ _ _ _ _ _ k_p0 hf hR hS hl
abbrev xr_X10_layPlainTiers : Room := { frames := 2, cells := 0, slots := 0, locals := 34 }
def f_X10_layPlainTiers_16 (T : xT) : Nat → xS → Nat → Int32 → Option (xS)
  | 0, _, _, _ => none
  | n + 1, S, p0, p1 => if (8 : Int32) ≤ p1 then some S else xcv (f_X10_put T S p0 (((79 : Int32) + p1)) ((1 : Int32))) (fun S1 => xl (p1 + (1 : Int32)) (fun v2 => f_X10_layPlainTiers_16 T n S1 p0 v2))
set_option maxRecDepth 100000 in
set_option maxHeartbeats 4000000 in
theorem w_X10_layPlainTiers_16 {p : Program} {l : Launch} {e : Env} {s : State} {m : MethodId} {args : Array Value} {below : List Frame} {meth : Method} {c : Code} {z : Nat} {D : va_G} {dA : Nat → ClassId} {T : xT} (B : xB p s m args meth c cX10_layPlainTiers RX10 2 none D dA) {q : xS} : ∀ (n : Nat), ∀ (S : xS) (H : Heap) (locs : List Loc) (ls : Array Slot) (p0 : Nat) (p1 : Int32), xlk T p0 10 = true → f_X10_layPlainTiers_16 T n S p0 p1 = some q → xRel z D dA T S H → va_S (xA z) s.heap H locs → xL ls 2 [some (.ref (z + p0)), some (.int p1)] → xGv p l e xr_X10_layPlainTiers s m args below meth c z D dA T q H locs 16 ls [] := by
  intro n
  induction n with
  | zero =>
    intro S H locs ls p0 p1 k_p0 hf hR hS hl
    exact absurd hf (by simp [f_X10_layPlainTiers_16])
  | succ n ih =>
    intro S H locs ls p0 p1 k_p0 hf hR hS hl
    unfold f_X10_layPlainTiers_16 at hf
    refine lv_iload_n B.1.1 B.1.2.1 dX10_layPlainTiers_16 rfl (hl.at 1 rfl) ?_
    refine lv_bipush (v := 8) B.1.1 B.1.2.1 dX10_layPlainTiers_17 (by decide) ?_
    refine y_icmp_ge (tgt := 37) B hf dX10_layPlainTiers_19 (by decide) (fun hf => ?_) (fun hf => ?_)
    · exact y_vret B hR hS hf dX10_layPlainTiers_37
    · refine lv_aload_n B.1.1 B.1.2.1 dX10_layPlainTiers_22 rfl (hl.at 0 rfl) ?_
      refine lv_bipush (v := 79) B.1.1 B.1.2.1 dX10_layPlainTiers_23 (by decide) ?_
      refine lv_iload_n B.1.1 B.1.2.1 dX10_layPlainTiers_25 rfl (hl.at 1 rfl) ?_
      refine lv_iadd B.1.1 B.1.2.1 dX10_layPlainTiers_26 ?_
      refine lv_iconst (v := 1) B.1.1 B.1.2.1 dX10_layPlainTiers_27 (by decide) ?_
      refine y_cv hf (fun q hq => x_runV (ci := 10) (C := RX10) B.1 B.2.2.2 hl hR hS cm_X10_71 ⟨rfl, rfl, Nat.le_of_ble_eq_true rfl, Nat.le_of_ble_eq_true rfl⟩ (by decide) rfl k_p0 (c_X10_put k_p0 hq) rfl rfl (Nat.le_of_ble_eq_true rfl) dX10_layPlainTiers_28 ⟨Nat.le_of_ble_eq_true rfl, Nat.le_of_ble_eq_true rfl⟩) hS (fun S1 H locs hf hR hS => ?_)
      refine y_iinc (d := 1) B hl hf dX10_layPlainTiers_31 rfl (by decide) (by decide) rfl (fun v2 ls hf hl => ?_)
      have hl : xL ls 2 [_, _] := hl
      refine lv_goto (tgt := 16) B.1.1 B.1.2.1 dX10_layPlainTiers_34 (by decide) ?_
      exact ih _ _ _ _ _ _ k_p0 hf hR hS hl
def f_X10_layPlainTiers (T : xT) (S : xS) (p0 : Nat) : Option (xS) := xcv (f_X10_put T S p0 ((77 : Int32)) ((0 : Int32))) (fun S1 => xcv (f_X10_put T S1 p0 ((78 : Int32)) ((-1 : Int32))) (fun S2 => xl ((0 : Int32)) (fun v3 => f_X10_layPlainTiers_16 T xfu S2 p0 v3)))
set_option maxRecDepth 100000 in
set_option maxHeartbeats 4000000 in
theorem c_X10_layPlainTiers {l : Launch} {z : Nat} {D : va_G} {dA : Nat → ClassId} {T : xT} {S : xS} {p0 : Nat} (k_p0 : xlk T p0 10 = true) {q : xS} (hf : f_X10_layPlainTiers T S p0 = some q) : Met l yX10_layPlainTiers (xws yX10_layPlainTiers cX10_layPlainTiers 2 none) xr_X10_layPlainTiers (xPc z D dA T S [.ref (z + p0)]) (xQv z D dA T q) 0 0 (xA z) := by
  refine x_met RX10 (by decide) rfl (Nat.le_of_ble_eq_true rfl) ?_
  intro p e s m below meth c ls _ X hr hlk hml _ hR hS hl
  have B : xB p s m _ meth c cX10_layPlainTiers RX10 2 none D dA := ⟨X, hr, hlk, hml⟩
  have hl : xL ls 2 [_, _] := hl
  unfold f_X10_layPlainTiers at hf
  refine lv_aload_n B.1.1 B.1.2.1 dX10_layPlainTiers_0 rfl (hl.at 0 rfl) ?_
  refine lv_bipush (v := 77) B.1.1 B.1.2.1 dX10_layPlainTiers_1 (by decide) ?_
  refine lv_iconst (v := 0) B.1.1 B.1.2.1 dX10_layPlainTiers_3 (by decide) ?_
  refine y_cv hf (fun q hq => x_runV (ci := 10) (C := RX10) B.1 B.2.2.2 hl hR hS cm_X10_71 ⟨rfl, rfl, Nat.le_of_ble_eq_true rfl, Nat.le_of_ble_eq_true rfl⟩ (by decide) rfl k_p0 (c_X10_put k_p0 hq) rfl rfl (Nat.le_of_ble_eq_true rfl) dX10_layPlainTiers_4 ⟨Nat.le_of_ble_eq_true rfl, Nat.le_of_ble_eq_true rfl⟩) hS (fun S1 H locs hf hR hS => ?_)
  refine lv_aload_n B.1.1 B.1.2.1 dX10_layPlainTiers_7 rfl (hl.at 0 rfl) ?_
  refine lv_bipush (v := 78) B.1.1 B.1.2.1 dX10_layPlainTiers_8 (by decide) ?_
  refine lv_iconst (v := -1) B.1.1 B.1.2.1 dX10_layPlainTiers_10 (by decide) ?_
  refine y_cv hf (fun q hq => x_runV (ci := 10) (C := RX10) B.1 B.2.2.2 hl hR hS cm_X10_71 ⟨rfl, rfl, Nat.le_of_ble_eq_true rfl, Nat.le_of_ble_eq_true rfl⟩ (by decide) rfl k_p0 (c_X10_put k_p0 hq) rfl rfl (Nat.le_of_ble_eq_true rfl) dX10_layPlainTiers_11 ⟨Nat.le_of_ble_eq_true rfl, Nat.le_of_ble_eq_true rfl⟩) hS (fun S2 H locs hf hR hS => ?_)
  refine lv_iconst (v := 0) B.1.1 B.1.2.1 dX10_layPlainTiers_14 (by decide) ?_
  refine y_istore_n B hl hf dX10_layPlainTiers_15 rfl (by decide) rfl (fun v3 ls hf hl => ?_)
  have hl : xL ls 2 [_, _] := hl
  exact w_X10_layPlainTiers_16 B xfu _ _ _ _ _ _ k_p0 hf hR hS hl
abbrev xr_X10_deed : Room := { frames := 2, cells := 0, slots := 0, locals := 35 }
def f_X10_deed_45 (T : xT) (S : xS) (p0 : Nat) : Option (xS) := xcv (f_X10_copyRow T S p0 ((0 : Int32)) (((3 : Int32) + (S.1 p0 2)))) (fun S1 => xpi S1 p0 2 (((S1.1 p0 2) + (1 : Int32))) (fun S2 => some S2))
set_option maxRecDepth 100000 in
set_option maxHeartbeats 4000000 in
theorem w_X10_deed_45 {p : Program} {l : Launch} {e : Env} {s : State} {m : MethodId} {args : Array Value} {below : List Frame} {meth : Method} {c : Code} {z : Nat} {D : va_G} {dA : Nat → ClassId} {T : xT} (B : xB p s m args meth c cX10_deed RX10 2 none D dA) {q : xS} : ∀ (S : xS) (H : Heap) (locs : List Loc) (ls : Array Slot) (p0 : Nat), xlk T p0 10 = true → f_X10_deed_45 T S p0 = some q → xRel z D dA T S H → va_S (xA z) s.heap H locs → xL ls 2 [some (.ref (z + p0)), none] → xGv p l e xr_X10_deed s m args below meth c z D dA T q H locs 45 ls [] := by
  intro S H locs ls p0 k_p0 hf hR hS hl
  unfold f_X10_deed_45 at hf
  refine lv_aload_n B.1.1 B.1.2.1 dX10_deed_45 rfl (hl.at 0 rfl) ?_
  refine lv_iconst (v := 0) B.1.1 B.1.2.1 dX10_deed_46 (by decide) ?_
  refine lv_iconst (v := 3) B.1.1 B.1.2.1 dX10_deed_47 (by decide) ?_
  refine lv_aload_n B.1.1 B.1.2.1 dX10_deed_48 rfl (hl.at 0 rfl) ?_
  refine y_getI B hR k_p0 fl_X10_75 dX10_deed_49 ?_
  refine lv_iadd B.1.1 B.1.2.1 dX10_deed_52 ?_
  refine y_cv hf (fun q hq => x_runV (ci := 10) (C := RX10) B.1 B.2.2.2 hl hR hS cm_X10_78 ⟨rfl, rfl, Nat.le_of_ble_eq_true rfl, Nat.le_of_ble_eq_true rfl⟩ (by decide) rfl k_p0 (c_X10_copyRow k_p0 hq) rfl rfl (Nat.le_of_ble_eq_true rfl) dX10_deed_53 ⟨Nat.le_of_ble_eq_true rfl, Nat.le_of_ble_eq_true rfl⟩) hS (fun S1 H locs hf hR hS => ?_)
  refine lv_aload_n B.1.1 B.1.2.1 dX10_deed_56 rfl (hl.at 0 rfl) ?_
  refine lv_dup B.1.1 B.1.2.1 dX10_deed_57 rfl ?_
  refine y_getI B hR k_p0 fl_X10_75 dX10_deed_58 ?_
  refine lv_iconst (v := 1) B.1.1 B.1.2.1 dX10_deed_61 (by decide) ?_
  refine lv_iadd B.1.1 B.1.2.1 dX10_deed_62 ?_
  refine y_putI B hR hS hf k_p0 fp_X10_75 dX10_deed_63 (fun S2 H locs hf hR hS => ?_)
  exact y_vret B hR hS hf dX10_deed_66
def f_X10_deed_11 (T : xT) : Nat → xS → Nat → Int32 → Option (xS)
  | 0, _, _, _ => none
  | n + 1, S, p0, p1 => if (12 : Int32) ≤ p1 then xpi S p0 2 (((S.1 p0 2) - (1 : Int32))) (fun S1 => f_X10_deed_45 T S1 p0) else xcv (f_X10_copyRow T S p0 (((3 : Int32) + p1)) ((((3 : Int32) + p1) - (1 : Int32)))) (fun S2 => xl (p1 + (1 : Int32)) (fun v3 => f_X10_deed_11 T n S2 p0 v3))
set_option maxRecDepth 100000 in
set_option maxHeartbeats 4000000 in
theorem w_X10_deed_11 {p : Program} {l : Launch} {e : Env} {s : State} {m : MethodId} {args : Array Value} {below : List Frame} {meth : Method} {c : Code} {z : Nat} {D : va_G} {dA : Nat → ClassId} {T : xT} (B : xB p s m args meth c cX10_deed RX10 2 none D dA) {q : xS} : ∀ (n : Nat), ∀ (S : xS) (H : Heap) (locs : List Loc) (ls : Array Slot) (p0 : Nat) (p1 : Int32), xlk T p0 10 = true → f_X10_deed_11 T n S p0 p1 = some q → xRel z D dA T S H → va_S (xA z) s.heap H locs → xL ls 2 [some (.ref (z + p0)), some (.int p1)] → xGv p l e xr_X10_deed s m args below meth c z D dA T q H locs 11 ls [] := by
  intro n
  induction n with
  | zero =>
    intro S H locs ls p0 p1 k_p0 hf hR hS hl
    exact absurd hf (by simp [f_X10_deed_11])
  | succ n ih =>
    intro S H locs ls p0 p1 k_p0 hf hR hS hl
    unfold f_X10_deed_11 at hf
    refine lv_iload_n B.1.1 B.1.2.1 dX10_deed_11 rfl (hl.at 1 rfl) ?_
    refine lv_bipush (v := 12) B.1.1 B.1.2.1 dX10_deed_12 (by decide) ?_
    refine y_icmp_ge (tgt := 35) B hf dX10_deed_14 (by decide) (fun hf => ?_) (fun hf => ?_)
    · refine lv_aload_n B.1.1 B.1.2.1 dX10_deed_35 rfl (hl.at 0 rfl) ?_
      refine lv_dup B.1.1 B.1.2.1 dX10_deed_36 rfl ?_
      refine y_getI B hR k_p0 fl_X10_75 dX10_deed_37 ?_
      refine lv_iconst (v := 1) B.1.1 B.1.2.1 dX10_deed_40 (by decide) ?_
      refine lv_isub B.1.1 B.1.2.1 dX10_deed_41 ?_
      refine y_putI B hR hS hf k_p0 fp_X10_75 dX10_deed_42 (fun S1 H locs hf hR hS => ?_)
      exact w_X10_deed_45 B _ _ _ _ _ k_p0 hf hR hS (hl.drop [true, false] rfl)
    · refine lv_aload_n B.1.1 B.1.2.1 dX10_deed_17 rfl (hl.at 0 rfl) ?_
      refine lv_iconst (v := 3) B.1.1 B.1.2.1 dX10_deed_18 (by decide) ?_
      refine lv_iload_n B.1.1 B.1.2.1 dX10_deed_19 rfl (hl.at 1 rfl) ?_
      refine lv_iadd B.1.1 B.1.2.1 dX10_deed_20 ?_
      refine lv_iconst (v := 3) B.1.1 B.1.2.1 dX10_deed_21 (by decide) ?_
      refine lv_iload_n B.1.1 B.1.2.1 dX10_deed_22 rfl (hl.at 1 rfl) ?_
      refine lv_iadd B.1.1 B.1.2.1 dX10_deed_23 ?_
      refine lv_iconst (v := 1) B.1.1 B.1.2.1 dX10_deed_24 (by decide) ?_
      refine lv_isub B.1.1 B.1.2.1 dX10_deed_25 ?_
      refine y_cv hf (fun q hq => x_runV (ci := 10) (C := RX10) B.1 B.2.2.2 hl hR hS cm_X10_78 ⟨rfl, rfl, Nat.le_of_ble_eq_true rfl, Nat.le_of_ble_eq_true rfl⟩ (by decide) rfl k_p0 (c_X10_copyRow k_p0 hq) rfl rfl (Nat.le_of_ble_eq_true rfl) dX10_deed_26 ⟨Nat.le_of_ble_eq_true rfl, Nat.le_of_ble_eq_true rfl⟩) hS (fun S2 H locs hf hR hS => ?_)
      refine y_iinc (d := 1) B hl hf dX10_deed_29 rfl (by decide) (by decide) rfl (fun v3 ls hf hl => ?_)
      have hl : xL ls 2 [_, _] := hl
      refine lv_goto (tgt := 11) B.1.1 B.1.2.1 dX10_deed_32 (by decide) ?_
      exact ih _ _ _ _ _ _ k_p0 hf hR hS hl
def f_X10_deed (T : xT) (S : xS) (p0 : Nat) : Option (xS) := if (S.1 p0 2) = (12 : Int32) then xl ((1 : Int32)) (fun v1 => f_X10_deed_11 T xfu S p0 v1) else f_X10_deed_45 T S p0
set_option maxRecDepth 100000 in
set_option maxHeartbeats 4000000 in
theorem c_X10_deed {l : Launch} {z : Nat} {D : va_G} {dA : Nat → ClassId} {T : xT} {S : xS} {p0 : Nat} (k_p0 : xlk T p0 10 = true) {q : xS} (hf : f_X10_deed T S p0 = some q) : Met l yX10_deed (xws yX10_deed cX10_deed 2 none) xr_X10_deed (xPc z D dA T S [.ref (z + p0)]) (xQv z D dA T q) 0 0 (xA z) := by
  refine x_met RX10 (by decide) rfl (Nat.le_of_ble_eq_true rfl) ?_
  intro p e s m below meth c ls _ X hr hlk hml _ hR hS hl
  have B : xB p s m _ meth c cX10_deed RX10 2 none D dA := ⟨X, hr, hlk, hml⟩
  have hl : xL ls 2 [_, _] := hl
  unfold f_X10_deed at hf
  refine lv_aload_n B.1.1 B.1.2.1 dX10_deed_0 rfl (hl.at 0 rfl) ?_
  refine y_getI B hR k_p0 fl_X10_75 dX10_deed_1 ?_
  refine lv_bipush (v := 12) B.1.1 B.1.2.1 dX10_deed_4 (by decide) ?_
  refine y_icmp_ne (tgt := 45) B hf dX10_deed_6 (by decide) (fun hf => ?_) (fun hf => ?_)
  · exact w_X10_deed_45 B _ _ _ _ _ k_p0 hf hR hS hl
  · refine lv_iconst (v := 1) B.1.1 B.1.2.1 dX10_deed_9 (by decide) ?_
    refine y_istore_n B hl hf dX10_deed_10 rfl (by decide) rfl (fun v1 ls hf hl => ?_)
    have hl : xL ls 2 [_, _] := hl
    exact w_X10_deed_11 B xfu _ _ _ _ _ _ k_p0 hf hR hS hl
abbrev xr_X10_back : Room := { frames := 2, cells := 0, slots := 0, locals := 35 }
def f_X10_back (T : xT) (S : xS) (p0 : Nat) : Option (Int32 × xS) := if (S.1 p0 2) = (0 : Int32) then some ((-1 : Int32), S) else xpi S p0 2 (((S.1 p0 2) - (1 : Int32))) (fun S1 => xcv (f_X10_copyRow T S1 p0 (((3 : Int32) + (S1.1 p0 2))) ((0 : Int32))) (fun S2 => some ((S2.1 p0 2), S2)))
set_option maxRecDepth 100000 in
set_option maxHeartbeats 4000000 in
theorem c_X10_back {l : Launch} {z : Nat} {D : va_G} {dA : Nat → ClassId} {T : xT} {S : xS} {p0 : Nat} (k_p0 : xlk T p0 10 = true) {q : Int32 × xS} (hf : f_X10_back T S p0 = some q) : Met l yX10_back (xws yX10_back cX10_back 1 (some .int)) xr_X10_back (xPc z D dA T S [.ref (z + p0)]) (xQi z D dA T q) 0 0 (xA z) := by
  refine x_met RX10 (by decide) rfl (Nat.le_of_ble_eq_true rfl) ?_
  intro p e s m below meth c ls _ X hr hlk hml _ hR hS hl
  have B : xB p s m _ meth c cX10_back RX10 1 (some .int) D dA := ⟨X, hr, hlk, hml⟩
  have hl : xL ls 1 [_] := hl
  unfold f_X10_back at hf
  refine lv_aload_n B.1.1 B.1.2.1 dX10_back_0 rfl (hl.at 0 rfl) ?_
  refine y_getI B hR k_p0 fl_X10_75 dX10_back_1 ?_
  refine y_if_ne (tgt := 9) B hf dX10_back_4 (by decide) (fun hf => ?_) (fun hf => ?_)
  · refine lv_aload_n B.1.1 B.1.2.1 dX10_back_9 rfl (hl.at 0 rfl) ?_
    refine lv_dup B.1.1 B.1.2.1 dX10_back_10 rfl ?_
    refine y_getI B hR k_p0 fl_X10_75 dX10_back_11 ?_
    refine lv_iconst (v := 1) B.1.1 B.1.2.1 dX10_back_14 (by decide) ?_
    refine lv_isub B.1.1 B.1.2.1 dX10_back_15 ?_
    refine y_putI B hR hS hf k_p0 fp_X10_75 dX10_back_16 (fun S1 H locs hf hR hS => ?_)
    refine lv_aload_n B.1.1 B.1.2.1 dX10_back_19 rfl (hl.at 0 rfl) ?_
    refine lv_iconst (v := 3) B.1.1 B.1.2.1 dX10_back_20 (by decide) ?_
    refine lv_aload_n B.1.1 B.1.2.1 dX10_back_21 rfl (hl.at 0 rfl) ?_
    refine y_getI B hR k_p0 fl_X10_75 dX10_back_22 ?_
    refine lv_iadd B.1.1 B.1.2.1 dX10_back_25 ?_
    refine lv_iconst (v := 0) B.1.1 B.1.2.1 dX10_back_26 (by decide) ?_
    refine y_cv hf (fun q hq => x_runV (ci := 10) (C := RX10) B.1 B.2.2.2 hl hR hS cm_X10_78 ⟨rfl, rfl, Nat.le_of_ble_eq_true rfl, Nat.le_of_ble_eq_true rfl⟩ (by decide) rfl k_p0 (c_X10_copyRow k_p0 hq) rfl rfl (Nat.le_of_ble_eq_true rfl) dX10_back_27 ⟨Nat.le_of_ble_eq_true rfl, Nat.le_of_ble_eq_true rfl⟩) hS (fun S2 H locs hf hR hS => ?_)
    refine lv_aload_n B.1.1 B.1.2.1 dX10_back_30 rfl (hl.at 0 rfl) ?_
    refine y_getI B hR k_p0 fl_X10_75 dX10_back_31 ?_
    exact y_iret B hR hS hf dX10_back_34
  · refine lv_iconst (v := -1) B.1.1 B.1.2.1 dX10_back_7 (by decide) ?_
    exact y_iret B hR hS hf dX10_back_8
abbrev xr_X10_keep : Room := { frames := 2, cells := 0, slots := 0, locals := 35 }
def f_X10_keep (T : xT) (S : xS) (p0 : Nat) (p1 : Int32) : Option (Int32 × xS) := xc (f_X10_isIn T S p1 ((0 : Int32)) ((1 : Int32))) (fun r2 S1 => if r2 = (0 : Int32) then some ((0 : Int32), S1) else xcv (f_X10_copyRow T S1 p0 ((0 : Int32)) (((1 : Int32) + p1))) (fun S3 => xgr T S3 p0 3 23 (fun a4 => xst T S3 a4 p1 (vp_nar .boolean ((1 : Int32))) (fun S5 => some ((1 : Int32), S5)))))
set_option maxRecDepth 100000 in
set_option maxHeartbeats 4000000 in
theorem c_X10_keep {l : Launch} {z : Nat} {D : va_G} {dA : Nat → ClassId} {T : xT} {S : xS} {p0 : Nat} {p1 : Int32} (k_p0 : xlk T p0 10 = true) {q : Int32 × xS} (hf : f_X10_keep T S p0 p1 = some q) : Met l yX10_keep (xws yX10_keep cX10_keep 2 (some .boolean)) xr_X10_keep (xPc z D dA T S [.ref (z + p0), .int p1]) (xQi z D dA T q) 0 0 (xA z) := by
  refine x_met RX10 (by decide) rfl (Nat.le_of_ble_eq_true rfl) ?_
  intro p e s m below meth c ls _ X hr hlk hml _ hR hS hl
  have B : xB p s m _ meth c cX10_keep RX10 2 (some .boolean) D dA := ⟨X, hr, hlk, hml⟩
  have hl : xL ls 2 [_, _] := hl
  unfold f_X10_keep at hf
  refine lv_iload_n B.1.1 B.1.2.1 dX10_keep_0 rfl (hl.at 1 rfl) ?_
  refine lv_iconst (v := 0) B.1.1 B.1.2.1 dX10_keep_1 (by decide) ?_
  refine lv_iconst (v := 1) B.1.1 B.1.2.1 dX10_keep_2 (by decide) ?_
  refine y_ci hf (fun q hq => y_runS B.1 B.2.2.2 hl hR hS cm_X10_81 ⟨rfl, rfl, Nat.le_of_ble_eq_true rfl, Nat.le_of_ble_eq_true rfl⟩ (c_X10_isIn hq) rfl rfl (Nat.le_of_ble_eq_true rfl) dX10_keep_3 ⟨Nat.le_of_ble_eq_true rfl, Nat.le_of_ble_eq_true rfl⟩) hS (fun r2 S1 H locs hf hR hS => ?_)
  refine y_if_ne (tgt := 11) B hf dX10_keep_6 (by decide) (fun hf => ?_) (fun hf => ?_)
  · refine lv_aload_n B.1.1 B.1.2.1 dX10_keep_11 rfl (hl.at 0 rfl) ?_
    refine lv_iconst (v := 0) B.1.1 B.1.2.1 dX10_keep_12 (by decide) ?_
    refine lv_iconst (v := 1) B.1.1 B.1.2.1 dX10_keep_13 (by decide) ?_
    refine lv_iload_n B.1.1 B.1.2.1 dX10_keep_14 rfl (hl.at 1 rfl) ?_
    refine lv_iadd B.1.1 B.1.2.1 dX10_keep_15 ?_
    refine y_cv hf (fun q hq => x_runV (ci := 10) (C := RX10) B.1 B.2.2.2 hl hR hS cm_X10_78 ⟨rfl, rfl, Nat.le_of_ble_eq_true rfl, Nat.le_of_ble_eq_true rfl⟩ (by decide) rfl k_p0 (c_X10_copyRow k_p0 hq) rfl rfl (Nat.le_of_ble_eq_true rfl) dX10_keep_16 ⟨Nat.le_of_ble_eq_true rfl, Nat.le_of_ble_eq_true rfl⟩) hS (fun S3 H locs hf hR hS => ?_)
    refine lv_aload_n B.1.1 B.1.2.1 dX10_keep_19 rfl (hl.at 0 rfl) ?_
    refine y_getR B hR hf k_p0 fl_X10_17 dX10_keep_20 (fun a4 k_a4 hf => ?_)
    refine lv_iload_n B.1.1 B.1.2.1 dX10_keep_23 rfl (hl.at 1 rfl) ?_
    refine lv_iconst (v := 1) B.1.1 B.1.2.1 dX10_keep_24 (by decide) ?_
    refine y_zast B hR hS hf k_a4 dX10_keep_25 (fun S5 H locs hf hR hS => ?_)
    refine lv_iconst (v := 1) B.1.1 B.1.2.1 dX10_keep_26 (by decide) ?_
    exact y_zretK B hR hS hf rfl dX10_keep_27
  · refine lv_iconst (v := 0) B.1.1 B.1.2.1 dX10_keep_9 (by decide) ?_
    exact y_zretK B hR hS hf rfl dX10_keep_10
abbrev xr_X10_restore : Room := { frames := 3, cells := 0, slots := 0, locals := 56 }
def f_X10_restore (T : xT) (S : xS) (p0 : Nat) (p1 : Int32) : Option (Int32 × xS) := xc (f_X10_isIn T S p1 ((0 : Int32)) ((1 : Int32))) (fun r2 S1 => if r2 = (0 : Int32) then some ((0 : Int32), S1) else xgr T S1 p0 3 23 (fun a3 => xai T S1 a3 p1 (fun v4 => if v4 = (0 : Int32) then some ((0 : Int32), S1) else xcv (f_X10_deed T S1 p0) (fun S5 => xcv (f_X10_copyRow T S5 p0 (((1 : Int32) + p1)) ((0 : Int32))) (fun S6 => some ((1 : Int32), S6))))))
set_option maxRecDepth 100000 in
set_option maxHeartbeats 4000000 in
theorem c_X10_restore {l : Launch} {z : Nat} {D : va_G} {dA : Nat → ClassId} {T : xT} {S : xS} {p0 : Nat} {p1 : Int32} (k_p0 : xlk T p0 10 = true) {q : Int32 × xS} (hf : f_X10_restore T S p0 p1 = some q) : Met l yX10_restore (xws yX10_restore cX10_restore 2 (some .boolean)) xr_X10_restore (xPc z D dA T S [.ref (z + p0), .int p1]) (xQi z D dA T q) 0 0 (xA z) := by
  refine x_met RX10 (by decide) rfl (Nat.le_of_ble_eq_true rfl) ?_
  intro p e s m below meth c ls _ X hr hlk hml _ hR hS hl
  have B : xB p s m _ meth c cX10_restore RX10 2 (some .boolean) D dA := ⟨X, hr, hlk, hml⟩
  have hl : xL ls 2 [_, _] := hl
  unfold f_X10_restore at hf
  refine lv_iload_n B.1.1 B.1.2.1 dX10_restore_0 rfl (hl.at 1 rfl) ?_
  refine lv_iconst (v := 0) B.1.1 B.1.2.1 dX10_restore_1 (by decide) ?_
  refine lv_iconst (v := 1) B.1.1 B.1.2.1 dX10_restore_2 (by decide) ?_
  refine y_ci hf (fun q hq => y_runS B.1 B.2.2.2 hl hR hS cm_X10_81 ⟨rfl, rfl, Nat.le_of_ble_eq_true rfl, Nat.le_of_ble_eq_true rfl⟩ (c_X10_isIn hq) rfl rfl (Nat.le_of_ble_eq_true rfl) dX10_restore_3 ⟨Nat.le_of_ble_eq_true rfl, Nat.le_of_ble_eq_true rfl⟩) hS (fun r2 S1 H locs hf hR hS => ?_)
  refine y_if_eq (tgt := 18) B hf dX10_restore_6 (by decide) (fun hf => ?_) (fun hf => ?_)
  · refine lv_iconst (v := 0) B.1.1 B.1.2.1 dX10_restore_18 (by decide) ?_
    exact y_zretK B hR hS hf rfl dX10_restore_19
  · refine lv_aload_n B.1.1 B.1.2.1 dX10_restore_9 rfl (hl.at 0 rfl) ?_
    refine y_getR B hR hf k_p0 fl_X10_17 dX10_restore_10 (fun a3 k_a3 hf => ?_)
    refine lv_iload_n B.1.1 B.1.2.1 dX10_restore_13 rfl (hl.at 1 rfl) ?_
    refine y_zald B hR hf k_a3 dX10_restore_14 (fun v4 hf => ?_)
    refine y_if_ne (tgt := 20) B hf dX10_restore_15 (by decide) (fun hf => ?_) (fun hf => ?_)
    · refine lv_aload_n B.1.1 B.1.2.1 dX10_restore_20 rfl (hl.at 0 rfl) ?_
      refine y_cv hf (fun q hq => x_runV (ci := 10) (C := RX10) B.1 B.2.2.2 hl hR hS cm_X10_85 ⟨rfl, rfl, Nat.le_of_ble_eq_true rfl, Nat.le_of_ble_eq_true rfl⟩ (by decide) rfl k_p0 (c_X10_deed k_p0 hq) rfl rfl (Nat.le_of_ble_eq_true rfl) dX10_restore_21 ⟨Nat.le_of_ble_eq_true rfl, Nat.le_of_ble_eq_true rfl⟩) hS (fun S5 H locs hf hR hS => ?_)
      refine lv_aload_n B.1.1 B.1.2.1 dX10_restore_24 rfl (hl.at 0 rfl) ?_
      refine lv_iconst (v := 1) B.1.1 B.1.2.1 dX10_restore_25 (by decide) ?_
      refine lv_iload_n B.1.1 B.1.2.1 dX10_restore_26 rfl (hl.at 1 rfl) ?_
      refine lv_iadd B.1.1 B.1.2.1 dX10_restore_27 ?_
      refine lv_iconst (v := 0) B.1.1 B.1.2.1 dX10_restore_28 (by decide) ?_
      refine y_cv hf (fun q hq => x_runV (ci := 10) (C := RX10) B.1 B.2.2.2 hl hR hS cm_X10_78 ⟨rfl, rfl, Nat.le_of_ble_eq_true rfl, Nat.le_of_ble_eq_true rfl⟩ (by decide) rfl k_p0 (c_X10_copyRow k_p0 hq) rfl rfl (Nat.le_of_ble_eq_true rfl) dX10_restore_29 ⟨Nat.le_of_ble_eq_true rfl, Nat.le_of_ble_eq_true rfl⟩) hS (fun S6 H locs hf hR hS => ?_)
      refine lv_iconst (v := 1) B.1.1 B.1.2.1 dX10_restore_32 (by decide) ?_
      exact y_zretK B hR hS hf rfl dX10_restore_33
    · refine lv_iconst (v := 0) B.1.1 B.1.2.1 dX10_restore_18 (by decide) ?_
      exact y_zretK B hR hS hf rfl dX10_restore_19
abbrev xr_X10_four : Room := { frames := 1, cells := 0, slots := 0, locals := 12 }
def f_X10_four_3 (T : xT) : Nat → xS → Nat → Int32 → Int32 → Option (xS)
  | 0, _, _, _, _ => none
  | n + 1, S, p0, p1, p2 => if p2 < (0 : Int32) then some S else xgr T S p0 4 22 (fun a1 => xst T S a1 ((S.1 p0 5)) (vp_nar .byte (((p1 >>> (p2 &&& 31))).toInt8.toInt32)) (fun S2 => xpi S2 p0 5 (((S2.1 p0 5) + (1 : Int32))) (fun S3 => xl (p2 + (-8 : Int32)) (fun v4 => f_X10_four_3 T n S3 p0 p1 v4))))
set_option maxRecDepth 100000 in
set_option maxHeartbeats 4000000 in
theorem w_X10_four_3 {p : Program} {l : Launch} {e : Env} {s : State} {m : MethodId} {args : Array Value} {below : List Frame} {meth : Method} {c : Code} {z : Nat} {D : va_G} {dA : Nat → ClassId} {T : xT} (B : xB p s m args meth c cX10_four RX10 3 none D dA) {q : xS} : ∀ (n : Nat), ∀ (S : xS) (H : Heap) (locs : List Loc) (ls : Array Slot) (p0 : Nat) (p1 : Int32) (p2 : Int32), xlk T p0 10 = true → f_X10_four_3 T n S p0 p1 p2 = some q → xRel z D dA T S H → va_S (xA z) s.heap H locs → xL ls 3 [some (.ref (z + p0)), some (.int p1), some (.int p2)] → xGv p l e xr_X10_four s m args below meth c z D dA T q H locs 3 ls [] := by
  intro n
  induction n with
  | zero =>
    intro S H locs ls p0 p1 p2 k_p0 hf hR hS hl
    exact absurd hf (by simp [f_X10_four_3])
  | succ n ih =>
    intro S H locs ls p0 p1 p2 k_p0 hf hR hS hl
    unfold f_X10_four_3 at hf
    refine lv_iload_n B.1.1 B.1.2.1 dX10_four_3 rfl (hl.at 2 rfl) ?_
    refine y_if_lt (tgt := 36) B hf dX10_four_4 (by decide) (fun hf => ?_) (fun hf => ?_)
    · exact y_vret B hR hS hf dX10_four_36
    · refine lv_aload_n B.1.1 B.1.2.1 dX10_four_7 rfl (hl.at 0 rfl) ?_
      refine y_getR B hR hf k_p0 fl_X10_21 dX10_four_8 (fun a1 k_a1 hf => ?_)
      refine lv_aload_n B.1.1 B.1.2.1 dX10_four_11 rfl (hl.at 0 rfl) ?_
      refine y_getI B hR k_p0 fl_X10_88 dX10_four_12 ?_
      refine lv_iload_n B.1.1 B.1.2.1 dX10_four_15 rfl (hl.at 1 rfl) ?_
      refine lv_iload_n B.1.1 B.1.2.1 dX10_four_16 rfl (hl.at 2 rfl) ?_
      refine lv_ishr B.1.1 B.1.2.1 dX10_four_17 ?_
      refine lv_i2b B.1.1 B.1.2.1 dX10_four_18 rfl ?_
      refine y_bast B hR hS hf k_a1 dX10_four_19 (fun S2 H locs hf hR hS => ?_)
      refine lv_aload_n B.1.1 B.1.2.1 dX10_four_20 rfl (hl.at 0 rfl) ?_
      refine lv_dup B.1.1 B.1.2.1 dX10_four_21 rfl ?_
      refine y_getI B hR k_p0 fl_X10_88 dX10_four_22 ?_
      refine lv_iconst (v := 1) B.1.1 B.1.2.1 dX10_four_25 (by decide) ?_
      refine lv_iadd B.1.1 B.1.2.1 dX10_four_26 ?_
      refine y_putI B hR hS hf k_p0 fp_X10_88 dX10_four_27 (fun S3 H locs hf hR hS => ?_)
      refine y_iinc (d := -8) B hl hf dX10_four_30 rfl (by decide) (by decide) rfl (fun v4 ls hf hl => ?_)
      have hl : xL ls 3 [_, _, _] := hl
      refine lv_goto (tgt := 3) B.1.1 B.1.2.1 dX10_four_33 (by decide) ?_
      exact ih _ _ _ _ _ _ _ k_p0 hf hR hS hl
def f_X10_four (T : xT) (S : xS) (p0 : Nat) (p1 : Int32) : Option (xS) := xl ((24 : Int32)) (fun v1 => f_X10_four_3 T xfu S p0 p1 v1)
set_option maxRecDepth 100000 in
set_option maxHeartbeats 4000000 in
theorem c_X10_four {l : Launch} {z : Nat} {D : va_G} {dA : Nat → ClassId} {T : xT} {S : xS} {p0 : Nat} {p1 : Int32} (k_p0 : xlk T p0 10 = true) {q : xS} (hf : f_X10_four T S p0 p1 = some q) : Met l yX10_four (xws yX10_four cX10_four 3 none) xr_X10_four (xPc z D dA T S [.ref (z + p0), .int p1]) (xQv z D dA T q) 0 0 (xA z) := by
  refine x_met RX10 (by decide) rfl (Nat.le_of_ble_eq_true rfl) ?_
  intro p e s m below meth c ls _ X hr hlk hml _ hR hS hl
  have B : xB p s m _ meth c cX10_four RX10 3 none D dA := ⟨X, hr, hlk, hml⟩
  have hl : xL ls 3 [_, _, _] := hl
  unfold f_X10_four at hf
  refine lv_bipush (v := 24) B.1.1 B.1.2.1 dX10_four_0 (by decide) ?_
  refine y_istore_n B hl hf dX10_four_2 rfl (by decide) rfl (fun v1 ls hf hl => ?_)
  have hl : xL ls 3 [_, _, _] := hl
  exact w_X10_four_3 B xfu _ _ _ _ _ _ _ k_p0 hf hR hS hl
abbrev xr_X10_feed : Room := { frames := 2, cells := 0, slots := 0, locals := 34 }
def f_X10_feed (T : xT) (S : xS) (p0 : Nat) (p1 : Int32) (p2 : Int32) (p3 : Int32) (p4 : Int32) (p5 : Int32) : Option (Int32 × xS) := if ((S.1 p0 5) + (20 : Int32)) ≤ (400 : Int32) then xcv (f_X10_four T S p0 p1) (fun S1 => xcv (f_X10_four T S1 p0 p2) (fun S2 => xcv (f_X10_four T S2 p0 p3) (fun S3 => xcv (f_X10_four T S3 p0 p4) (fun S4 => xcv (f_X10_four T S4 p0 p5) (fun S5 => some ((S5.1 p0 5), S5)))))) else some ((-1 : Int32), S)
set_option maxRecDepth 100000 in
set_option maxHeartbeats 4000000 in
theorem c_X10_feed {l : Launch} {z : Nat} {D : va_G} {dA : Nat → ClassId} {T : xT} {S : xS} {p0 : Nat} {p1 : Int32} {p2 : Int32} {p3 : Int32} {p4 : Int32} {p5 : Int32} (k_p0 : xlk T p0 10 = true) {q : Int32 × xS} (hf : f_X10_feed T S p0 p1 p2 p3 p4 p5 = some q) : Met l yX10_feed (xws yX10_feed cX10_feed 6 (some .int)) xr_X10_feed (xPc z D dA T S [.ref (z + p0), .int p1, .int p2, .int p3, .int p4, .int p5]) (xQi z D dA T q) 0 0 (xA z) := by
  refine x_met RX10 (by decide) rfl (Nat.le_of_ble_eq_true rfl) ?_
  intro p e s m below meth c ls _ X hr hlk hml _ hR hS hl
  have B : xB p s m _ meth c cX10_feed RX10 6 (some .int) D dA := ⟨X, hr, hlk, hml⟩
  have hl : xL ls 6 [_, _, _, _, _, _] := hl
  unfold f_X10_feed at hf
  refine lv_aload_n B.1.1 B.1.2.1 dX10_feed_0 rfl (hl.at 0 rfl) ?_
  refine y_getI B hR k_p0 fl_X10_88 dX10_feed_1 ?_
  refine lv_bipush (v := 20) B.1.1 B.1.2.1 dX10_feed_4 (by decide) ?_
  refine lv_iadd B.1.1 B.1.2.1 dX10_feed_6 ?_
  refine lv_sipush (v := 400) B.1.1 B.1.2.1 dX10_feed_7 (by decide) ?_
  refine y_icmp_le (tgt := 15) B hf dX10_feed_10 (by decide) (fun hf => ?_) (fun hf => ?_)
  · refine lv_aload_n B.1.1 B.1.2.1 dX10_feed_15 rfl (hl.at 0 rfl) ?_
    refine lv_iload_n B.1.1 B.1.2.1 dX10_feed_16 rfl (hl.at 1 rfl) ?_
    refine y_cv hf (fun q hq => x_runV (ci := 10) (C := RX10) B.1 B.2.2.2 hl hR hS cm_X10_91 ⟨rfl, rfl, Nat.le_of_ble_eq_true rfl, Nat.le_of_ble_eq_true rfl⟩ (by decide) rfl k_p0 (c_X10_four k_p0 hq) rfl rfl (Nat.le_of_ble_eq_true rfl) dX10_feed_17 ⟨Nat.le_of_ble_eq_true rfl, Nat.le_of_ble_eq_true rfl⟩) hS (fun S1 H locs hf hR hS => ?_)
    refine lv_aload_n B.1.1 B.1.2.1 dX10_feed_20 rfl (hl.at 0 rfl) ?_
    refine lv_iload_n B.1.1 B.1.2.1 dX10_feed_21 rfl (hl.at 2 rfl) ?_
    refine y_cv hf (fun q hq => x_runV (ci := 10) (C := RX10) B.1 B.2.2.2 hl hR hS cm_X10_91 ⟨rfl, rfl, Nat.le_of_ble_eq_true rfl, Nat.le_of_ble_eq_true rfl⟩ (by decide) rfl k_p0 (c_X10_four k_p0 hq) rfl rfl (Nat.le_of_ble_eq_true rfl) dX10_feed_22 ⟨Nat.le_of_ble_eq_true rfl, Nat.le_of_ble_eq_true rfl⟩) hS (fun S2 H locs hf hR hS => ?_)
    refine lv_aload_n B.1.1 B.1.2.1 dX10_feed_25 rfl (hl.at 0 rfl) ?_
    refine lv_iload_n B.1.1 B.1.2.1 dX10_feed_26 rfl (hl.at 3 rfl) ?_
    refine y_cv hf (fun q hq => x_runV (ci := 10) (C := RX10) B.1 B.2.2.2 hl hR hS cm_X10_91 ⟨rfl, rfl, Nat.le_of_ble_eq_true rfl, Nat.le_of_ble_eq_true rfl⟩ (by decide) rfl k_p0 (c_X10_four k_p0 hq) rfl rfl (Nat.le_of_ble_eq_true rfl) dX10_feed_27 ⟨Nat.le_of_ble_eq_true rfl, Nat.le_of_ble_eq_true rfl⟩) hS (fun S3 H locs hf hR hS => ?_)
    refine lv_aload_n B.1.1 B.1.2.1 dX10_feed_30 rfl (hl.at 0 rfl) ?_
    refine lv_iload B.1.1 B.1.2.1 dX10_feed_31 (hl.at 4 rfl) ?_
    refine y_cv hf (fun q hq => x_runV (ci := 10) (C := RX10) B.1 B.2.2.2 hl hR hS cm_X10_91 ⟨rfl, rfl, Nat.le_of_ble_eq_true rfl, Nat.le_of_ble_eq_true rfl⟩ (by decide) rfl k_p0 (c_X10_four k_p0 hq) rfl rfl (Nat.le_of_ble_eq_true rfl) dX10_feed_33 ⟨Nat.le_of_ble_eq_true rfl, Nat.le_of_ble_eq_true rfl⟩) hS (fun S4 H locs hf hR hS => ?_)
    refine lv_aload_n B.1.1 B.1.2.1 dX10_feed_36 rfl (hl.at 0 rfl) ?_
    refine lv_iload B.1.1 B.1.2.1 dX10_feed_37 (hl.at 5 rfl) ?_
    refine y_cv hf (fun q hq => x_runV (ci := 10) (C := RX10) B.1 B.2.2.2 hl hR hS cm_X10_91 ⟨rfl, rfl, Nat.le_of_ble_eq_true rfl, Nat.le_of_ble_eq_true rfl⟩ (by decide) rfl k_p0 (c_X10_four k_p0 hq) rfl rfl (Nat.le_of_ble_eq_true rfl) dX10_feed_39 ⟨Nat.le_of_ble_eq_true rfl, Nat.le_of_ble_eq_true rfl⟩) hS (fun S5 H locs hf hR hS => ?_)
    refine lv_aload_n B.1.1 B.1.2.1 dX10_feed_42 rfl (hl.at 0 rfl) ?_
    refine y_getI B hR k_p0 fl_X10_88 dX10_feed_43 ?_
    exact y_iret B hR hS hf dX10_feed_46
  · refine lv_iconst (v := -1) B.1.1 B.1.2.1 dX10_feed_13 (by decide) ?_
    exact y_iret B hR hS hf dX10_feed_14
abbrev xr_X10_end : Room := { frames := 2, cells := 0, slots := 0, locals := 34 }
def f_X10_end (T : xT) (S : xS) (p0 : Nat) (p1 : Int32) : Option (Int32 × xS) := xc (f_X10_isIn T S p1 ((0 : Int32)) ((S.1 p0 5))) (fun r2 S1 => if r2 = (0 : Int32) then some ((-1 : Int32), S1) else xpi S1 p0 5 p1 (fun S3 => some (p1, S3)))
set_option maxRecDepth 100000 in
set_option maxHeartbeats 4000000 in
theorem c_X10_end {l : Launch} {z : Nat} {D : va_G} {dA : Nat → ClassId} {T : xT} {S : xS} {p0 : Nat} {p1 : Int32} (k_p0 : xlk T p0 10 = true) {q : Int32 × xS} (hf : f_X10_end T S p0 p1 = some q) : Met l yX10_end (xws yX10_end cX10_end 2 (some .int)) xr_X10_end (xPc z D dA T S [.ref (z + p0), .int p1]) (xQi z D dA T q) 0 0 (xA z) := by
  refine x_met RX10 (by decide) rfl (Nat.le_of_ble_eq_true rfl) ?_
  intro p e s m below meth c ls _ X hr hlk hml _ hR hS hl
  have B : xB p s m _ meth c cX10_end RX10 2 (some .int) D dA := ⟨X, hr, hlk, hml⟩
  have hl : xL ls 2 [_, _] := hl
  unfold f_X10_end at hf
  refine lv_iload_n B.1.1 B.1.2.1 dX10_end_0 rfl (hl.at 1 rfl) ?_
  refine lv_iconst (v := 0) B.1.1 B.1.2.1 dX10_end_1 (by decide) ?_
  refine lv_aload_n B.1.1 B.1.2.1 dX10_end_2 rfl (hl.at 0 rfl) ?_
  refine y_getI B hR k_p0 fl_X10_88 dX10_end_3 ?_
  refine y_ci hf (fun q hq => y_runS B.1 B.2.2.2 hl hR hS cm_X10_81 ⟨rfl, rfl, Nat.le_of_ble_eq_true rfl, Nat.le_of_ble_eq_true rfl⟩ (c_X10_isIn hq) rfl rfl (Nat.le_of_ble_eq_true rfl) dX10_end_6 ⟨Nat.le_of_ble_eq_true rfl, Nat.le_of_ble_eq_true rfl⟩) hS (fun r2 S1 H locs hf hR hS => ?_)
  refine y_if_ne (tgt := 14) B hf dX10_end_9 (by decide) (fun hf => ?_) (fun hf => ?_)
  · refine lv_aload_n B.1.1 B.1.2.1 dX10_end_14 rfl (hl.at 0 rfl) ?_
    refine lv_iload_n B.1.1 B.1.2.1 dX10_end_15 rfl (hl.at 1 rfl) ?_
    refine y_putI B hR hS hf k_p0 fp_X10_88 dX10_end_16 (fun S3 H locs hf hR hS => ?_)
    refine lv_iload_n B.1.1 B.1.2.1 dX10_end_19 rfl (hl.at 1 rfl) ?_
    exact y_iret B hR hS hf dX10_end_20
  · refine lv_iconst (v := -1) B.1.1 B.1.2.1 dX10_end_12 (by decide) ?_
    exact y_iret B hR hS hf dX10_end_13
abbrev xr_X10_fault : Room := { frames := 1, cells := 0, slots := 0, locals := 12 }
def f_X10_fault (T : xT) (S : xS) (p0 : Nat) : Option (Int32 × xS) := some ((S.1 p0 9), S)
set_option maxRecDepth 100000 in
set_option maxHeartbeats 4000000 in
theorem c_X10_fault {l : Launch} {z : Nat} {D : va_G} {dA : Nat → ClassId} {T : xT} {S : xS} {p0 : Nat} (k_p0 : xlk T p0 10 = true) {q : Int32 × xS} (hf : f_X10_fault T S p0 = some q) : Met l yX10_fault (xws yX10_fault cX10_fault 1 (some .int)) xr_X10_fault (xPc z D dA T S [.ref (z + p0)]) (xQi z D dA T q) 0 0 (xA z) := by
  refine x_met RX10 (by decide) rfl (Nat.le_of_ble_eq_true rfl) ?_
  intro p e s m below meth c ls _ X hr hlk hml _ hR hS hl
  have B : xB p s m _ meth c cX10_fault RX10 1 (some .int) D dA := ⟨X, hr, hlk, hml⟩
  have hl : xL ls 1 [_] := hl
  unfold f_X10_fault at hf
  refine lv_aload_n B.1.1 B.1.2.1 dX10_fault_0 rfl (hl.at 0 rfl) ?_
  refine y_getI B hR k_p0 fl_X10_25 dX10_fault_1 ?_
  exact y_iret B hR hS hf dX10_fault_4
abbrev xr_X10_here : Room := { frames := 1, cells := 0, slots := 0, locals := 12 }
def f_X10_here (T : xT) (S : xS) (p0 : Nat) : Option (Int32 × xS) := if (S.1 p0 5) ≤ (S.1 p0 6) then some ((-1 : Int32), S) else xgr T S p0 4 22 (fun a1 => xai T S a1 ((S.1 p0 6)) (fun v2 => some ((v2 &&& (255 : Int32)), S)))
set_option maxRecDepth 100000 in
set_option maxHeartbeats 4000000 in
theorem c_X10_here {l : Launch} {z : Nat} {D : va_G} {dA : Nat → ClassId} {T : xT} {S : xS} {p0 : Nat} (k_p0 : xlk T p0 10 = true) {q : Int32 × xS} (hf : f_X10_here T S p0 = some q) : Met l yX10_here (xws yX10_here cX10_here 1 (some .int)) xr_X10_here (xPc z D dA T S [.ref (z + p0)]) (xQi z D dA T q) 0 0 (xA z) := by
  refine x_met RX10 (by decide) rfl (Nat.le_of_ble_eq_true rfl) ?_
  intro p e s m below meth c ls _ X hr hlk hml _ hR hS hl
  have B : xB p s m _ meth c cX10_here RX10 1 (some .int) D dA := ⟨X, hr, hlk, hml⟩
  have hl : xL ls 1 [_] := hl
  unfold f_X10_here at hf
  refine lv_aload_n B.1.1 B.1.2.1 dX10_here_0 rfl (hl.at 0 rfl) ?_
  refine y_getI B hR k_p0 fl_X10_95 dX10_here_1 ?_
  refine lv_aload_n B.1.1 B.1.2.1 dX10_here_4 rfl (hl.at 0 rfl) ?_
  refine y_getI B hR k_p0 fl_X10_88 dX10_here_5 ?_
  refine y_icmp_ge (tgt := 27) B hf dX10_here_8 (by decide) (fun hf => ?_) (fun hf => ?_)
  · refine lv_iconst (v := -1) B.1.1 B.1.2.1 dX10_here_27 (by decide) ?_
    exact y_iret B hR hS hf dX10_here_28
  · refine lv_aload_n B.1.1 B.1.2.1 dX10_here_11 rfl (hl.at 0 rfl) ?_
    refine y_getR B hR hf k_p0 fl_X10_21 dX10_here_12 (fun a1 k_a1 hf => ?_)
    refine lv_aload_n B.1.1 B.1.2.1 dX10_here_15 rfl (hl.at 0 rfl) ?_
    refine y_getI B hR k_p0 fl_X10_95 dX10_here_16 ?_
    refine y_bald B hR hf k_a1 dX10_here_19 (fun v2 hf => ?_)
    refine lv_sipush (v := 255) B.1.1 B.1.2.1 dX10_here_20 (by decide) ?_
    refine lv_iand B.1.1 B.1.2.1 dX10_here_23 ?_
    refine lv_goto (tgt := 28) B.1.1 B.1.2.1 dX10_here_24 (by decide) ?_
    exact y_iret B hR hS hf dX10_here_28
abbrev xr_X10_isFigure : Room := { frames := 1, cells := 0, slots := 0, locals := 12 }
def f_X10_isFigure (T : xT) (S : xS) (p0 : Int32) : Option (Int32 × xS) := if p0 < (48 : Int32) then some ((0 : Int32), S) else if (57 : Int32) < p0 then some ((0 : Int32), S) else some ((1 : Int32), S)
set_option maxRecDepth 100000 in
set_option maxHeartbeats 4000000 in
theorem c_X10_isFigure {l : Launch} {z : Nat} {D : va_G} {dA : Nat → ClassId} {T : xT} {S : xS} {p0 : Int32} {q : Int32 × xS} (hf : f_X10_isFigure T S p0 = some q) : Met l yX10_isFigure (xws yX10_isFigure cX10_isFigure 1 (some .boolean)) xr_X10_isFigure (xPc z D dA T S [.int p0]) (xQi z D dA T q) 0 0 (xA z) := by
  refine x_met RX10 (by decide) rfl (Nat.le_of_ble_eq_true rfl) ?_
  intro p e s m below meth c ls _ X hr hlk hml _ hR hS hl
  have B : xB p s m _ meth c cX10_isFigure RX10 1 (some .boolean) D dA := ⟨X, hr, hlk, hml⟩
  have hl : xL ls 1 [_] := hl
  unfold f_X10_isFigure at hf
  refine lv_iload_n B.1.1 B.1.2.1 dX10_isFigure_0 rfl (hl.at 0 rfl) ?_
  refine lv_bipush (v := 48) B.1.1 B.1.2.1 dX10_isFigure_1 (by decide) ?_
  refine y_icmp_lt (tgt := 16) B hf dX10_isFigure_3 (by decide) (fun hf => ?_) (fun hf => ?_)
  · refine lv_iconst (v := 0) B.1.1 B.1.2.1 dX10_isFigure_16 (by decide) ?_
    exact y_zretK B hR hS hf rfl dX10_isFigure_17
  · refine lv_iload_n B.1.1 B.1.2.1 dX10_isFigure_6 rfl (hl.at 0 rfl) ?_
    refine lv_bipush (v := 57) B.1.1 B.1.2.1 dX10_isFigure_7 (by decide) ?_
    refine y_icmp_gt (tgt := 16) B hf dX10_isFigure_9 (by decide) (fun hf => ?_) (fun hf => ?_)
    · refine lv_iconst (v := 0) B.1.1 B.1.2.1 dX10_isFigure_16 (by decide) ?_
      exact y_zretK B hR hS hf rfl dX10_isFigure_17
    · refine lv_iconst (v := 1) B.1.1 B.1.2.1 dX10_isFigure_12 (by decide) ?_
      refine lv_goto (tgt := 17) B.1.1 B.1.2.1 dX10_isFigure_13 (by decide) ?_
      exact y_zretK B hR hS hf rfl dX10_isFigure_17
abbrev xr_X10_isLetter : Room := { frames := 1, cells := 0, slots := 0, locals := 12 }
def f_X10_isLetter (T : xT) (S : xS) (p0 : Int32) : Option (Int32 × xS) := if p0 < (97 : Int32) then some ((0 : Int32), S) else if (122 : Int32) < p0 then some ((0 : Int32), S) else some ((1 : Int32), S)
set_option maxRecDepth 100000 in
set_option maxHeartbeats 4000000 in
theorem c_X10_isLetter {l : Launch} {z : Nat} {D : va_G} {dA : Nat → ClassId} {T : xT} {S : xS} {p0 : Int32} {q : Int32 × xS} (hf : f_X10_isLetter T S p0 = some q) : Met l yX10_isLetter (xws yX10_isLetter cX10_isLetter 1 (some .boolean)) xr_X10_isLetter (xPc z D dA T S [.int p0]) (xQi z D dA T q) 0 0 (xA z) := by
  refine x_met RX10 (by decide) rfl (Nat.le_of_ble_eq_true rfl) ?_
  intro p e s m below meth c ls _ X hr hlk hml _ hR hS hl
  have B : xB p s m _ meth c cX10_isLetter RX10 1 (some .boolean) D dA := ⟨X, hr, hlk, hml⟩
  have hl : xL ls 1 [_] := hl
  unfold f_X10_isLetter at hf
  refine lv_iload_n B.1.1 B.1.2.1 dX10_isLetter_0 rfl (hl.at 0 rfl) ?_
  refine lv_bipush (v := 97) B.1.1 B.1.2.1 dX10_isLetter_1 (by decide) ?_
  refine y_icmp_lt (tgt := 16) B hf dX10_isLetter_3 (by decide) (fun hf => ?_) (fun hf => ?_)
  · refine lv_iconst (v := 0) B.1.1 B.1.2.1 dX10_isLetter_16 (by decide) ?_
    exact y_zretK B hR hS hf rfl dX10_isLetter_17
  · refine lv_iload_n B.1.1 B.1.2.1 dX10_isLetter_6 rfl (hl.at 0 rfl) ?_
    refine lv_bipush (v := 122) B.1.1 B.1.2.1 dX10_isLetter_7 (by decide) ?_
    refine y_icmp_gt (tgt := 16) B hf dX10_isLetter_9 (by decide) (fun hf => ?_) (fun hf => ?_)
    · refine lv_iconst (v := 0) B.1.1 B.1.2.1 dX10_isLetter_16 (by decide) ?_
      exact y_zretK B hR hS hf rfl dX10_isLetter_17
    · refine lv_iconst (v := 1) B.1.1 B.1.2.1 dX10_isLetter_12 (by decide) ?_
      refine lv_goto (tgt := 17) B.1.1 B.1.2.1 dX10_isLetter_13 (by decide) ?_
      exact y_zretK B hR hS hf rfl dX10_isLetter_17
abbrev xr_X10_letter : Room := { frames := 1, cells := 0, slots := 0, locals := 12 }
def f_X10_letter (T : xT) (S : xS) (p0 : Int64) (p2 : Int32) : Option (Int64 × xS) := if (lg_cmp p0 ((0 : Int64))) < (0 : Int32) then some ((-1 : Int64), S) else if (lg_cmp p0 ((1125899906842624 : Int64))) < (0 : Int32) then some ((((p0 * (32 : Int64)) + (p2).toInt64) - (96 : Int64)), S) else some ((-1 : Int64), S)
set_option maxRecDepth 100000 in
set_option maxHeartbeats 4000000 in
theorem c_X10_letter {l : Launch} {z : Nat} {D : va_G} {dA : Nat → ClassId} {T : xT} {S : xS} {p0 : Int64} {p2 : Int32} {q : Int64 × xS} (hf : f_X10_letter T S p0 p2 = some q) : Met l yX10_letter (xws yX10_letter cX10_letter 3 (some .long)) xr_X10_letter (xPc z D dA T S [.long p0, .int p2]) (xQl z D dA T q) 0 0 (xA z) := by
  refine x_met RX10 (by decide) rfl (Nat.le_of_ble_eq_true rfl) ?_
  intro p e s m below meth c ls _ X hr hlk hml _ hR hS hl
  have B : xB p s m _ meth c cX10_letter RX10 3 (some .long) D dA := ⟨X, hr, hlk, hml⟩
  have hl : xL ls 3 [_, _, _] := hl
  unfold f_X10_letter at hf
  refine lv_lload_n B.1.1 B.1.2.1 dX10_letter_0 rfl (hl.at 0 rfl) ?_
  refine lv_lconst (v := 0) B.1.1 B.1.2.1 dX10_letter_1 (by decide) ?_
  refine W.lcmp B.1.1 B.1.2.1 dX10_letter_2 ?_
  refine y_if_lt (tgt := 14) B hf dX10_letter_3 (by decide) (fun hf => ?_) (fun hf => ?_)
  · refine lv_ldc2 (v := -1) B.1.1 B.1.2.1 B.1.2.2.1 (B.1.2.2.2.1 _ tw_1234) dX10_letter_14 ?_
    refine lv_goto (tgt := 32) B.1.1 B.1.2.1 dX10_letter_17 (by decide) ?_
    exact y_lret B hR hS hf dX10_letter_32
  · refine lv_lload_n B.1.1 B.1.2.1 dX10_letter_6 rfl (hl.at 0 rfl) ?_
    refine lv_ldc2 (v := 1125899906842624) B.1.1 B.1.2.1 B.1.2.2.1 (B.1.2.2.2.1 _ tw_1233) dX10_letter_7 ?_
    refine W.lcmp B.1.1 B.1.2.1 dX10_letter_10 ?_
    refine y_if_lt (tgt := 20) B hf dX10_letter_11 (by decide) (fun hf => ?_) (fun hf => ?_)
    · refine lv_lload_n B.1.1 B.1.2.1 dX10_letter_20 rfl (hl.at 0 rfl) ?_
      refine lv_ldc2 (v := 32) B.1.1 B.1.2.1 B.1.2.2.1 (B.1.2.2.2.1 _ tw_1235) dX10_letter_21 ?_
      refine lv_lmul B.1.1 B.1.2.1 dX10_letter_24 ?_
      refine lv_iload_n B.1.1 B.1.2.1 dX10_letter_25 rfl (hl.at 2 rfl) ?_
      refine lv_i2l B.1.1 B.1.2.1 dX10_letter_26 rfl ?_
      refine lv_ladd B.1.1 B.1.2.1 dX10_letter_27 ?_
      refine lv_ldc2 (v := 96) B.1.1 B.1.2.1 B.1.2.2.1 (B.1.2.2.2.1 _ tw_1236) dX10_letter_28 ?_
      refine lv_lsub B.1.1 B.1.2.1 dX10_letter_31 ?_
      exact y_lret B hR hS hf dX10_letter_32
    · refine lv_ldc2 (v := -1) B.1.1 B.1.2.1 B.1.2.2.1 (B.1.2.2.2.1 _ tw_1234) dX10_letter_14 ?_
      refine lv_goto (tgt := 32) B.1.1 B.1.2.1 dX10_letter_17 (by decide) ?_
      exact y_lret B hR hS hf dX10_letter_32
abbrev xr_X10_w3 : Room := { frames := 2, cells := 0, slots := 0, locals := 34 }
def f_X10_w3 (T : xT) (S : xS) (p0 : Int32) (p1 : Int32) (p2 : Int32) : Option (Int64 × xS) := xc (f_X10_letter T S ((0 : Int64)) p0) (fun r2 S1 => xc (f_X10_letter T S1 r2 p1) (fun r4 S3 => xc (f_X10_letter T S3 r4 p2) (fun r6 S5 => some (r6, S5))))
set_option maxRecDepth 100000 in
set_option maxHeartbeats 4000000 in
theorem c_X10_w3 {l : Launch} {z : Nat} {D : va_G} {dA : Nat → ClassId} {T : xT} {S : xS} {p0 : Int32} {p1 : Int32} {p2 : Int32} {q : Int64 × xS} (hf : f_X10_w3 T S p0 p1 p2 = some q) : Met l yX10_w3 (xws yX10_w3 cX10_w3 3 (some .long)) xr_X10_w3 (xPc z D dA T S [.int p0, .int p1, .int p2]) (xQl z D dA T q) 0 0 (xA z) := by
  refine x_met RX10 (by decide) rfl (Nat.le_of_ble_eq_true rfl) ?_
  intro p e s m below meth c ls _ X hr hlk hml _ hR hS hl
  have B : xB p s m _ meth c cX10_w3 RX10 3 (some .long) D dA := ⟨X, hr, hlk, hml⟩
  have hl : xL ls 3 [_, _, _] := hl
  unfold f_X10_w3 at hf
  refine lv_lconst (v := 0) B.1.1 B.1.2.1 dX10_w3_0 (by decide) ?_
  refine lv_iload_n B.1.1 B.1.2.1 dX10_w3_1 rfl (hl.at 0 rfl) ?_
  refine y_cl hf (fun q hq => y_runS B.1 B.2.2.2 hl hR hS cm_X10_106 ⟨rfl, rfl, Nat.le_of_ble_eq_true rfl, Nat.le_of_ble_eq_true rfl⟩ (c_X10_letter hq) rfl rfl (Nat.le_of_ble_eq_true rfl) dX10_w3_2 ⟨Nat.le_of_ble_eq_true rfl, Nat.le_of_ble_eq_true rfl⟩) hS (fun r2 S1 H locs hf hR hS => ?_)
  refine lv_iload_n B.1.1 B.1.2.1 dX10_w3_5 rfl (hl.at 1 rfl) ?_
  refine y_cl hf (fun q hq => y_runS B.1 B.2.2.2 hl hR hS cm_X10_106 ⟨rfl, rfl, Nat.le_of_ble_eq_true rfl, Nat.le_of_ble_eq_true rfl⟩ (c_X10_letter hq) rfl rfl (Nat.le_of_ble_eq_true rfl) dX10_w3_6 ⟨Nat.le_of_ble_eq_true rfl, Nat.le_of_ble_eq_true rfl⟩) hS (fun r4 S3 H locs hf hR hS => ?_)
  refine lv_iload_n B.1.1 B.1.2.1 dX10_w3_9 rfl (hl.at 2 rfl) ?_
  refine y_cl hf (fun q hq => y_runS B.1 B.2.2.2 hl hR hS cm_X10_106 ⟨rfl, rfl, Nat.le_of_ble_eq_true rfl, Nat.le_of_ble_eq_true rfl⟩ (c_X10_letter hq) rfl rfl (Nat.le_of_ble_eq_true rfl) dX10_w3_10 ⟨Nat.le_of_ble_eq_true rfl, Nat.le_of_ble_eq_true rfl⟩) hS (fun r6 S5 H locs hf hR hS => ?_)
  exact y_lret B hR hS hf dX10_w3_13
abbrev xr_X10_w4 : Room := { frames := 3, cells := 0, slots := 0, locals := 56 }
def f_X10_w4 (T : xT) (S : xS) (p0 : Int32) (p1 : Int32) (p2 : Int32) (p3 : Int32) : Option (Int64 × xS) := xc (f_X10_w3 T S p0 p1 p2) (fun r2 S1 => xc (f_X10_letter T S1 r2 p3) (fun r4 S3 => some (r4, S3)))
set_option maxRecDepth 100000 in
set_option maxHeartbeats 4000000 in
theorem c_X10_w4 {l : Launch} {z : Nat} {D : va_G} {dA : Nat → ClassId} {T : xT} {S : xS} {p0 : Int32} {p1 : Int32} {p2 : Int32} {p3 : Int32} {q : Int64 × xS} (hf : f_X10_w4 T S p0 p1 p2 p3 = some q) : Met l yX10_w4 (xws yX10_w4 cX10_w4 4 (some .long)) xr_X10_w4 (xPc z D dA T S [.int p0, .int p1, .int p2, .int p3]) (xQl z D dA T q) 0 0 (xA z) := by
  refine x_met RX10 (by decide) rfl (Nat.le_of_ble_eq_true rfl) ?_
  intro p e s m below meth c ls _ X hr hlk hml _ hR hS hl
  have B : xB p s m _ meth c cX10_w4 RX10 4 (some .long) D dA := ⟨X, hr, hlk, hml⟩
  have hl : xL ls 4 [_, _, _, _] := hl
  unfold f_X10_w4 at hf
  refine lv_iload_n B.1.1 B.1.2.1 dX10_w4_0 rfl (hl.at 0 rfl) ?_
  refine lv_iload_n B.1.1 B.1.2.1 dX10_w4_1 rfl (hl.at 1 rfl) ?_
  refine lv_iload_n B.1.1 B.1.2.1 dX10_w4_2 rfl (hl.at 2 rfl) ?_
  refine y_cl hf (fun q hq => y_runS B.1 B.2.2.2 hl hR hS cm_X10_110 ⟨rfl, rfl, Nat.le_of_ble_eq_true rfl, Nat.le_of_ble_eq_true rfl⟩ (c_X10_w3 hq) rfl rfl (Nat.le_of_ble_eq_true rfl) dX10_w4_3 ⟨Nat.le_of_ble_eq_true rfl, Nat.le_of_ble_eq_true rfl⟩) hS (fun r2 S1 H locs hf hR hS => ?_)
  refine lv_iload_n B.1.1 B.1.2.1 dX10_w4_6 rfl (hl.at 3 rfl) ?_
  refine y_cl hf (fun q hq => y_runS B.1 B.2.2.2 hl hR hS cm_X10_106 ⟨rfl, rfl, Nat.le_of_ble_eq_true rfl, Nat.le_of_ble_eq_true rfl⟩ (c_X10_letter hq) rfl rfl (Nat.le_of_ble_eq_true rfl) dX10_w4_7 ⟨Nat.le_of_ble_eq_true rfl, Nat.le_of_ble_eq_true rfl⟩) hS (fun r4 S3 H locs hf hR hS => ?_)
  exact y_lret B hR hS hf dX10_w4_10
abbrev xr_X10_w5 : Room := { frames := 4, cells := 0, slots := 0, locals := 79 }
def f_X10_w5 (T : xT) (S : xS) (p0 : Int32) (p1 : Int32) (p2 : Int32) (p3 : Int32) (p4 : Int32) : Option (Int64 × xS) := xc (f_X10_w4 T S p0 p1 p2 p3) (fun r2 S1 => xc (f_X10_letter T S1 r2 p4) (fun r4 S3 => some (r4, S3)))
set_option maxRecDepth 100000 in
set_option maxHeartbeats 4000000 in
theorem c_X10_w5 {l : Launch} {z : Nat} {D : va_G} {dA : Nat → ClassId} {T : xT} {S : xS} {p0 : Int32} {p1 : Int32} {p2 : Int32} {p3 : Int32} {p4 : Int32} {q : Int64 × xS} (hf : f_X10_w5 T S p0 p1 p2 p3 p4 = some q) : Met l yX10_w5 (xws yX10_w5 cX10_w5 5 (some .long)) xr_X10_w5 (xPc z D dA T S [.int p0, .int p1, .int p2, .int p3, .int p4]) (xQl z D dA T q) 0 0 (xA z) := by
  refine x_met RX10 (by decide) rfl (Nat.le_of_ble_eq_true rfl) ?_
  intro p e s m below meth c ls _ X hr hlk hml _ hR hS hl
  have B : xB p s m _ meth c cX10_w5 RX10 5 (some .long) D dA := ⟨X, hr, hlk, hml⟩
  have hl : xL ls 5 [_, _, _, _, _] := hl
  unfold f_X10_w5 at hf
  refine lv_iload_n B.1.1 B.1.2.1 dX10_w5_0 rfl (hl.at 0 rfl) ?_
  refine lv_iload_n B.1.1 B.1.2.1 dX10_w5_1 rfl (hl.at 1 rfl) ?_
  refine lv_iload_n B.1.1 B.1.2.1 dX10_w5_2 rfl (hl.at 2 rfl) ?_
  refine lv_iload_n B.1.1 B.1.2.1 dX10_w5_3 rfl (hl.at 3 rfl) ?_
  refine y_cl hf (fun q hq => y_runS B.1 B.2.2.2 hl hR hS cm_X10_114 ⟨rfl, rfl, Nat.le_of_ble_eq_true rfl, Nat.le_of_ble_eq_true rfl⟩ (c_X10_w4 hq) rfl rfl (Nat.le_of_ble_eq_true rfl) dX10_w5_4 ⟨Nat.le_of_ble_eq_true rfl, Nat.le_of_ble_eq_true rfl⟩) hS (fun r2 S1 H locs hf hR hS => ?_)
  refine lv_iload B.1.1 B.1.2.1 dX10_w5_7 (hl.at 4 rfl) ?_
  refine y_cl hf (fun q hq => y_runS B.1 B.2.2.2 hl hR hS cm_X10_106 ⟨rfl, rfl, Nat.le_of_ble_eq_true rfl, Nat.le_of_ble_eq_true rfl⟩ (c_X10_letter hq) rfl rfl (Nat.le_of_ble_eq_true rfl) dX10_w5_9 ⟨Nat.le_of_ble_eq_true rfl, Nat.le_of_ble_eq_true rfl⟩) hS (fun r4 S3 H locs hf hR hS => ?_)
  exact y_lret B hR hS hf dX10_w5_12
abbrev xr_X10_w6 : Room := { frames := 5, cells := 0, slots := 0, locals := 103 }
def f_X10_w6 (T : xT) (S : xS) (p0 : Int32) (p1 : Int32) (p2 : Int32) (p3 : Int32) (p4 : Int32) (p5 : Int32) : Option (Int64 × xS) := xc (f_X10_w5 T S p0 p1 p2 p3 p4) (fun r2 S1 => xc (f_X10_letter T S1 r2 p5) (fun r4 S3 => some (r4, S3)))
set_option maxRecDepth 100000 in
set_option maxHeartbeats 4000000 in
theorem c_X10_w6 {l : Launch} {z : Nat} {D : va_G} {dA : Nat → ClassId} {T : xT} {S : xS} {p0 : Int32} {p1 : Int32} {p2 : Int32} {p3 : Int32} {p4 : Int32} {p5 : Int32} {q : Int64 × xS} (hf : f_X10_w6 T S p0 p1 p2 p3 p4 p5 = some q) : Met l yX10_w6 (xws yX10_w6 cX10_w6 6 (some .long)) xr_X10_w6 (xPc z D dA T S [.int p0, .int p1, .int p2, .int p3, .int p4, .int p5]) (xQl z D dA T q) 0 0 (xA z) := by
  refine x_met RX10 (by decide) rfl (Nat.le_of_ble_eq_true rfl) ?_
  intro p e s m below meth c ls _ X hr hlk hml _ hR hS hl
  have B : xB p s m _ meth c cX10_w6 RX10 6 (some .long) D dA := ⟨X, hr, hlk, hml⟩
  have hl : xL ls 6 [_, _, _, _, _, _] := hl
  unfold f_X10_w6 at hf
  refine lv_iload_n B.1.1 B.1.2.1 dX10_w6_0 rfl (hl.at 0 rfl) ?_
  refine lv_iload_n B.1.1 B.1.2.1 dX10_w6_1 rfl (hl.at 1 rfl) ?_
  refine lv_iload_n B.1.1 B.1.2.1 dX10_w6_2 rfl (hl.at 2 rfl) ?_
  refine lv_iload_n B.1.1 B.1.2.1 dX10_w6_3 rfl (hl.at 3 rfl) ?_
  refine lv_iload B.1.1 B.1.2.1 dX10_w6_4 (hl.at 4 rfl) ?_
  refine y_cl hf (fun q hq => y_runS B.1 B.2.2.2 hl hR hS cm_X10_118 ⟨rfl, rfl, Nat.le_of_ble_eq_true rfl, Nat.le_of_ble_eq_true rfl⟩ (c_X10_w5 hq) rfl rfl (Nat.le_of_ble_eq_true rfl) dX10_w6_6 ⟨Nat.le_of_ble_eq_true rfl, Nat.le_of_ble_eq_true rfl⟩) hS (fun r2 S1 H locs hf hR hS => ?_)
  refine lv_iload B.1.1 B.1.2.1 dX10_w6_9 (hl.at 5 rfl) ?_
  refine y_cl hf (fun q hq => y_runS B.1 B.2.2.2 hl hR hS cm_X10_106 ⟨rfl, rfl, Nat.le_of_ble_eq_true rfl, Nat.le_of_ble_eq_true rfl⟩ (c_X10_letter hq) rfl rfl (Nat.le_of_ble_eq_true rfl) dX10_w6_11 ⟨Nat.le_of_ble_eq_true rfl, Nat.le_of_ble_eq_true rfl⟩) hS (fun r4 S3 H locs hf hR hS => ?_)
  exact y_lret B hR hS hf dX10_w6_14
