abbrev xr_X10_isIn : Room := { frames := 1, cells := 0, slots := 0, locals := 12 }
def f_X10_isIn (T : xT) (S : xS) (p0 : Int32) (p1 : Int32) (p2 : Int32) : Option (Int32 × xS) := if p0 < p1 then some ((0 : Int32), S) else if p2 < p0 then some ((0 : Int32), S) else some ((1 : Int32), S)
set_option maxRecDepth 100000 in
set_option maxHeartbeats 4000000 in
theorem c_X10_isIn {l : Launch} {z : Nat} {D : va_G} {dA : Nat → ClassId} {T : xT} {S : xS} {p0 : Int32} {p1 : Int32} {p2 : Int32} {q : Int32 × xS} (hf : f_X10_isIn T S p0 p1 p2 = some q) : Met l yX10_isIn (xws yX10_isIn cX10_isIn 3 (some .boolean)) xr_X10_isIn (xPc z D dA T S [.int p0, .int p1, .int p2]) (xQi z D dA T q) 0 0 (xA z) := by
  refine x_met RX10 (by decide) rfl (Nat.le_of_ble_eq_true rfl) ?_
  intro p e s m below meth c ls _ X hr hlk hml _ hR hS hl
  have B : xB p s m _ meth c cX10_isIn RX10 3 (some .boolean) D dA := ⟨X, hr, hlk, hml⟩
  have hl : xL ls 3 [_, _, _] := hl
  unfold f_X10_isIn at hf
  refine lv_iload_n B.1.1 B.1.2.1 dX10_isIn_0 rfl (hl.at 0 rfl) ?_
  refine lv_iload_n B.1.1 B.1.2.1 dX10_isIn_1 rfl (hl.at 1 rfl) ?_
  refine y_icmp_lt (tgt := 14) B hf dX10_isIn_2 (by decide) (fun hf => ?_) (fun hf => ?_)
  · refine lv_iconst (v := 0) B.1.1 B.1.2.1 dX10_isIn_14 (by decide) ?_
    exact y_zretK B hR hS hf rfl dX10_isIn_15
  · refine lv_iload_n B.1.1 B.1.2.1 dX10_isIn_5 rfl (hl.at 0 rfl) ?_
    refine lv_iload_n B.1.1 B.1.2.1 dX10_isIn_6 rfl (hl.at 2 rfl) ?_
    refine y_icmp_gt (tgt := 14) B hf dX10_isIn_7 (by decide) (fun hf => ?_) (fun hf => ?_)
    · refine lv_iconst (v := 0) B.1.1 B.1.2.1 dX10_isIn_14 (by decide) ?_
      exact y_zretK B hR hS hf rfl dX10_isIn_15
    · refine lv_iconst (v := 1) B.1.1 B.1.2.1 dX10_isIn_10 (by decide) ?_
      refine lv_goto (tgt := 15) B.1.1 B.1.2.1 dX10_isIn_11 (by decide) ?_
      exact y_zretK B hR hS hf rfl dX10_isIn_15
abbrev xr_X10_get : Room := { frames := 1, cells := 0, slots := 0, locals := 12 }
def f_X10_get (T : xT) (S : xS) (p0 : Nat) (p1 : Int32) : Option (Int32 × xS) := xgr T S p0 0 20 (fun a1 => xai T S a1 (((S.1 p0 1) + p1)) (fun v2 => some (v2, S)))
set_option maxRecDepth 100000 in
set_option maxHeartbeats 4000000 in
theorem c_X10_get {l : Launch} {z : Nat} {D : va_G} {dA : Nat → ClassId} {T : xT} {S : xS} {p0 : Nat} {p1 : Int32} (k_p0 : xlk T p0 10 = true) {q : Int32 × xS} (hf : f_X10_get T S p0 p1 = some q) : Met l yX10_get (xws yX10_get cX10_get 2 (some .int)) xr_X10_get (xPc z D dA T S [.ref (z + p0), .int p1]) (xQi z D dA T q) 0 0 (xA z) := by
  refine x_met RX10 (by decide) rfl (Nat.le_of_ble_eq_true rfl) ?_
  intro p e s m below meth c ls _ X hr hlk hml _ hR hS hl
  have B : xB p s m _ meth c cX10_get RX10 2 (some .int) D dA := ⟨X, hr, hlk, hml⟩
  have hl : xL ls 2 [_, _] := hl
  unfold f_X10_get at hf
  refine lv_aload_n B.1.1 B.1.2.1 dX10_get_0 rfl (hl.at 0 rfl) ?_
  refine y_getR B hR hf k_p0 fl_X10_1 dX10_get_1 (fun a1 k_a1 hf => ?_)
  refine lv_aload_n B.1.1 B.1.2.1 dX10_get_4 rfl (hl.at 0 rfl) ?_
  refine y_getI B hR k_p0 fl_X10_7 dX10_get_5 ?_
  refine lv_iload_n B.1.1 B.1.2.1 dX10_get_8 rfl (hl.at 1 rfl) ?_
  refine lv_iadd B.1.1 B.1.2.1 dX10_get_9 ?_
  refine y_iald B hR hf k_a1 dX10_get_10 (fun v2 hf => ?_)
  exact y_iret B hR hS hf dX10_get_11
abbrev xr_X10_put : Room := { frames := 1, cells := 0, slots := 0, locals := 12 }
def f_X10_put (T : xT) (S : xS) (p0 : Nat) (p1 : Int32) (p2 : Int32) : Option (xS) := xgr T S p0 0 20 (fun a1 => xst T S a1 (((S.1 p0 1) + p1)) p2 (fun S2 => some S2))
set_option maxRecDepth 100000 in
set_option maxHeartbeats 4000000 in
theorem c_X10_put {l : Launch} {z : Nat} {D : va_G} {dA : Nat → ClassId} {T : xT} {S : xS} {p0 : Nat} {p1 : Int32} {p2 : Int32} (k_p0 : xlk T p0 10 = true) {q : xS} (hf : f_X10_put T S p0 p1 p2 = some q) : Met l yX10_put (xws yX10_put cX10_put 3 none) xr_X10_put (xPc z D dA T S [.ref (z + p0), .int p1, .int p2]) (xQv z D dA T q) 0 0 (xA z) := by
  refine x_met RX10 (by decide) rfl (Nat.le_of_ble_eq_true rfl) ?_
  intro p e s m below meth c ls _ X hr hlk hml _ hR hS hl
  have B : xB p s m _ meth c cX10_put RX10 3 none D dA := ⟨X, hr, hlk, hml⟩
  have hl : xL ls 3 [_, _, _] := hl
  unfold f_X10_put at hf
  refine lv_aload_n B.1.1 B.1.2.1 dX10_put_0 rfl (hl.at 0 rfl) ?_
  refine y_getR B hR hf k_p0 fl_X10_1 dX10_put_1 (fun a1 k_a1 hf => ?_)
  refine lv_aload_n B.1.1 B.1.2.1 dX10_put_4 rfl (hl.at 0 rfl) ?_
  refine y_getI B hR k_p0 fl_X10_7 dX10_put_5 ?_
  refine lv_iload_n B.1.1 B.1.2.1 dX10_put_8 rfl (hl.at 1 rfl) ?_
  refine lv_iadd B.1.1 B.1.2.1 dX10_put_9 ?_
  refine lv_iload_n B.1.1 B.1.2.1 dX10_put_10 rfl (hl.at 2 rfl) ?_
  refine y_iast B hR hS hf k_a1 dX10_put_11 (fun S2 H locs hf hR hS => ?_)
  exact y_vret B hR hS hf dX10_put_12
abbrev xr_X10_more : Room := { frames := 1, cells := 0, slots := 0, locals := 12 }
def f_X10_more (T : xT) (S : xS) (p0 : Nat) (p1 : Int32) (p2 : Int32) : Option (xS) := xgr T S p0 0 20 (fun a1 => xai T S a1 (((S.1 p0 1) + p1)) (fun v2 => xst T S a1 (((S.1 p0 1) + p1)) ((v2 + p2)) (fun S3 => some S3)))
set_option maxRecDepth 100000 in
set_option maxHeartbeats 4000000 in
theorem c_X10_more {l : Launch} {z : Nat} {D : va_G} {dA : Nat → ClassId} {T : xT} {S : xS} {p0 : Nat} {p1 : Int32} {p2 : Int32} (k_p0 : xlk T p0 10 = true) {q : xS} (hf : f_X10_more T S p0 p1 p2 = some q) : Met l yX10_more (xws yX10_more cX10_more 3 none) xr_X10_more (xPc z D dA T S [.ref (z + p0), .int p1, .int p2]) (xQv z D dA T q) 0 0 (xA z) := by
  refine x_met RX10 (by decide) rfl (Nat.le_of_ble_eq_true rfl) ?_
  intro p e s m below meth c ls _ X hr hlk hml _ hR hS hl
  have B : xB p s m _ meth c cX10_more RX10 3 none D dA := ⟨X, hr, hlk, hml⟩
  have hl : xL ls 3 [_, _, _] := hl
  unfold f_X10_more at hf
  refine lv_aload_n B.1.1 B.1.2.1 dX10_more_0 rfl (hl.at 0 rfl) ?_
  refine y_getR B hR hf k_p0 fl_X10_1 dX10_more_1 (fun a1 k_a1 hf => ?_)
  refine lv_aload_n B.1.1 B.1.2.1 dX10_more_4 rfl (hl.at 0 rfl) ?_
  refine y_getI B hR k_p0 fl_X10_7 dX10_more_5 ?_
  refine lv_iload_n B.1.1 B.1.2.1 dX10_more_8 rfl (hl.at 1 rfl) ?_
  refine lv_iadd B.1.1 B.1.2.1 dX10_more_9 ?_
  refine lv_dup2_11 B.1.1 B.1.2.1 dX10_more_10 rfl rfl ?_
  refine y_iald B hR hf k_a1 dX10_more_11 (fun v2 hf => ?_)
  refine lv_iload_n B.1.1 B.1.2.1 dX10_more_12 rfl (hl.at 2 rfl) ?_
  refine lv_iadd B.1.1 B.1.2.1 dX10_more_13 ?_
  refine y_iast B hR hS hf k_a1 dX10_more_14 (fun S3 H locs hf hR hS => ?_)
  exact y_vret B hR hS hf dX10_more_15
abbrev xr_X10_copyRow : Room := { frames := 1, cells := 0, slots := 0, locals := 12 }
def f_X10_copyRow_2 (T : xT) : Nat → xS → Nat → Int32 → Int32 → Int32 → Option (xS)
  | 0, _, _, _, _, _ => none
  | n + 1, S, p0, p1, p2, p3 => if (366 : Int32) ≤ p3 then some S else xgr T S p0 0 20 (fun a1 => xgr T S p0 0 20 (fun a2 => xai T S a2 ((((366 : Int32) * p1) + p3)) (fun v3 => xst T S a1 ((((366 : Int32) * p2) + p3)) v3 (fun S4 => xl (p3 + (1 : Int32)) (fun v5 => f_X10_copyRow_2 T n S4 p0 p1 p2 v5)))))
set_option maxRecDepth 100000 in
set_option maxHeartbeats 4000000 in
theorem w_X10_copyRow_2 {p : Program} {l : Launch} {e : Env} {s : State} {m : MethodId} {args : Array Value} {below : List Frame} {meth : Method} {c : Code} {z : Nat} {D : va_G} {dA : Nat → ClassId} {T : xT} (B : xB p s m args meth c cX10_copyRow RX10 4 none D dA) {q : xS} : ∀ (n : Nat), ∀ (S : xS) (H : Heap) (locs : List Loc) (ls : Array Slot) (p0 : Nat) (p1 : Int32) (p2 : Int32) (p3 : Int32), xlk T p0 10 = true → f_X10_copyRow_2 T n S p0 p1 p2 p3 = some q → xRel z D dA T S H → va_S (xA z) s.heap H locs → xL ls 4 [some (.ref (z + p0)), some (.int p1), some (.int p2), some (.int p3)] → xGv p l e xr_X10_copyRow s m args below meth c z D dA T q H locs 2 ls [] := by
  intro n
  induction n with
  | zero =>
    intro S H locs ls p0 p1 p2 p3 k_p0 hf hR hS hl
    exact absurd hf (by simp [f_X10_copyRow_2])
  | succ n ih =>
    intro S H locs ls p0 p1 p2 p3 k_p0 hf hR hS hl
    unfold f_X10_copyRow_2 at hf
    refine lv_iload_n B.1.1 B.1.2.1 dX10_copyRow_2 rfl (hl.at 3 rfl) ?_
    refine lv_sipush (v := 366) B.1.1 B.1.2.1 dX10_copyRow_3 (by decide) ?_
    refine y_icmp_ge (tgt := 39) B hf dX10_copyRow_6 (by decide) (fun hf => ?_) (fun hf => ?_)
    · exact y_vret B hR hS hf dX10_copyRow_39
    · refine lv_aload_n B.1.1 B.1.2.1 dX10_copyRow_9 rfl (hl.at 0 rfl) ?_
      refine y_getR B hR hf k_p0 fl_X10_1 dX10_copyRow_10 (fun a1 k_a1 hf => ?_)
      refine lv_sipush (v := 366) B.1.1 B.1.2.1 dX10_copyRow_13 (by decide) ?_
      refine lv_iload_n B.1.1 B.1.2.1 dX10_copyRow_16 rfl (hl.at 2 rfl) ?_
      refine lv_imul B.1.1 B.1.2.1 dX10_copyRow_17 ?_
      refine lv_iload_n B.1.1 B.1.2.1 dX10_copyRow_18 rfl (hl.at 3 rfl) ?_
      refine lv_iadd B.1.1 B.1.2.1 dX10_copyRow_19 ?_
      refine lv_aload_n B.1.1 B.1.2.1 dX10_copyRow_20 rfl (hl.at 0 rfl) ?_
      refine y_getR B hR hf k_p0 fl_X10_1 dX10_copyRow_21 (fun a2 k_a2 hf => ?_)
      refine lv_sipush (v := 366) B.1.1 B.1.2.1 dX10_copyRow_24 (by decide) ?_
      refine lv_iload_n B.1.1 B.1.2.1 dX10_copyRow_27 rfl (hl.at 1 rfl) ?_
      refine lv_imul B.1.1 B.1.2.1 dX10_copyRow_28 ?_
      refine lv_iload_n B.1.1 B.1.2.1 dX10_copyRow_29 rfl (hl.at 3 rfl) ?_
      refine lv_iadd B.1.1 B.1.2.1 dX10_copyRow_30 ?_
      refine y_iald B hR hf k_a2 dX10_copyRow_31 (fun v3 hf => ?_)
      refine y_iast B hR hS hf k_a1 dX10_copyRow_32 (fun S4 H locs hf hR hS => ?_)
      refine y_iinc (d := 1) B hl hf dX10_copyRow_33 rfl (by decide) (by decide) rfl (fun v5 ls hf hl => ?_)
      have hl : xL ls 4 [_, _, _, _] := hl
      refine lv_goto (tgt := 2) B.1.1 B.1.2.1 dX10_copyRow_36 (by decide) ?_
      exact ih _ _ _ _ _ _ _ _ k_p0 hf hR hS hl
def f_X10_copyRow (T : xT) (S : xS) (p0 : Nat) (p1 : Int32) (p2 : Int32) : Option (xS) := xl ((0 : Int32)) (fun v1 => f_X10_copyRow_2 T xfu S p0 p1 p2 v1)
set_option maxRecDepth 100000 in
set_option maxHeartbeats 4000000 in
theorem c_X10_copyRow {l : Launch} {z : Nat} {D : va_G} {dA : Nat → ClassId} {T : xT} {S : xS} {p0 : Nat} {p1 : Int32} {p2 : Int32} (k_p0 : xlk T p0 10 = true) {q : xS} (hf : f_X10_copyRow T S p0 p1 p2 = some q) : Met l yX10_copyRow (xws yX10_copyRow cX10_copyRow 4 none) xr_X10_copyRow (xPc z D dA T S [.ref (z + p0), .int p1, .int p2]) (xQv z D dA T q) 0 0 (xA z) := by
  refine x_met RX10 (by decide) rfl (Nat.le_of_ble_eq_true rfl) ?_
  intro p e s m below meth c ls _ X hr hlk hml _ hR hS hl
  have B : xB p s m _ meth c cX10_copyRow RX10 4 none D dA := ⟨X, hr, hlk, hml⟩
  have hl : xL ls 4 [_, _, _, _] := hl
  unfold f_X10_copyRow at hf
  refine lv_iconst (v := 0) B.1.1 B.1.2.1 dX10_copyRow_0 (by decide) ?_
  refine y_istore_n B hl hf dX10_copyRow_1 rfl (by decide) rfl (fun v1 ls hf hl => ?_)
  have hl : xL ls 4 [_, _, _, _] := hl
  exact w_X10_copyRow_2 B xfu _ _ _ _ _ _ _ _ k_p0 hf hR hS hl
