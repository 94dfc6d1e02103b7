abbrev xr_J7_rangeCheck_23922 : Room := { frames := 3, cells := 0, slots := 0, locals := 85 }
def f_J7_rangeCheck_23922 (T : xT) (S : xS) (p0 : Int32) (p1 : Int32) (p2 : Int32) : Option (xS) := if p1 ≤ p2 then if (0 : Int32) ≤ p1 then if p2 ≤ p0 then some S else none else none else none
set_option maxRecDepth 100000 in
set_option maxHeartbeats 4000000 in
theorem c_J7_rangeCheck_23922 {l : Launch} {z : Nat} {D : va_G} {dA : Nat → ClassId} {T : xT} {S : xS} {p0 : Int32} {p1 : Int32} {p2 : Int32} {q : xS} (hf : f_J7_rangeCheck_23922 T S p0 p1 p2 = some q) : Met l yJ7_rangeCheck_23922 (xws yJ7_rangeCheck_23922 cJ7_rangeCheck_23922 3 none) xr_J7_rangeCheck_23922 (xPc z D dA T S [.int p0, .int p1, .int p2]) (xQv z D dA T q) 0 0 (xA z) := by
  refine x_met RJ7 (by decide) rfl (Nat.le_of_ble_eq_true rfl) ?_
  intro p e s m below meth c ls _ X hr hlk hml _ hR hS hl
  have B : xB p s m _ meth c cJ7_rangeCheck_23922 RJ7 3 none D dA := ⟨X, hr, hlk, hml⟩
  have hl : xL ls 3 [_, _, _] := hl
  unfold f_J7_rangeCheck_23922 at hf
  refine lv_iload_n B.1.1 B.1.2.1 dJ7_rangeCheck_23922_0 rfl (hl.at 1 rfl) ?_
  refine lv_iload_n B.1.1 B.1.2.1 dJ7_rangeCheck_23922_1 rfl (hl.at 2 rfl) ?_
  refine y_icmp_le (tgt := 46) B hf dJ7_rangeCheck_23922_2 (by decide) (fun hf => ?_) (fun hf => ?_)
  · refine lv_iload_n B.1.1 B.1.2.1 dJ7_rangeCheck_23922_46 rfl (hl.at 1 rfl) ?_
    refine y_if_ge (tgt := 59) B hf dJ7_rangeCheck_23922_47 (by decide) (fun hf => ?_) (fun hf => ?_)
    · refine lv_iload_n B.1.1 B.1.2.1 dJ7_rangeCheck_23922_59 rfl (hl.at 2 rfl) ?_
      refine lv_iload_n B.1.1 B.1.2.1 dJ7_rangeCheck_23922_60 rfl (hl.at 0 rfl) ?_
      refine y_icmp_le (tgt := 73) B hf dJ7_rangeCheck_23922_61 (by decide) (fun hf => ?_) (fun hf => ?_)
      · exact y_vret B hR hS hf dJ7_rangeCheck_23922_73
      · exact absurd hf (by simp)
    · exact absurd hf (by simp)
  · exact absurd hf (by simp)
abbrev xr_J7_fill_53178 : Room := { frames := 1, cells := 0, slots := 0, locals := 12 }
def f_J7_fill_53178_5 (T : xT) : Nat → xS → Nat → Int32 → Int32 → Int32 → Option (xS)
  | 0, _, _, _, _, _ => none
  | n + 1, S, p0, p1, p2, p3 => if p3 ≤ p2 then some S else xst T S p0 p2 p1 (fun S1 => xl (p2 + (1 : Int32)) (fun v2 => f_J7_fill_53178_5 T n S1 p0 p1 v2 p3))
set_option maxRecDepth 100000 in
set_option maxHeartbeats 4000000 in
theorem w_J7_fill_53178_5 {p : Program} {l : Launch} {e : Env} {s : State} {m : MethodId} {args : Array Value} {below : List Frame} {meth : Method} {c : Code} {z : Nat} {D : va_G} {dA : Nat → ClassId} {T : xT} (B : xB p s m args meth c cJ7_fill_53178 RJ7 4 none D dA) {q : xS} : ∀ (n : Nat), ∀ (S : xS) (H : Heap) (locs : List Loc) (ls : Array Slot) (p0 : Nat) (p1 : Int32) (p2 : Int32) (p3 : Int32), xlk T p0 20 = true → f_J7_fill_53178_5 T n S p0 p1 p2 p3 = some q → xRel z D dA T S H → va_S (xA z) s.heap H locs → xL ls 4 [some (.ref (z + p0)), some (.int p1), some (.int p2), some (.int p3)] → xGv p l e xr_J7_fill_53178 s m args below meth c z D dA T q H locs 5 ls [] := by
  intro n
  induction n with
  | zero =>
    intro S H locs ls p0 p1 p2 p3 k_p0 hf hR hS hl
    exact absurd hf (by simp [f_J7_fill_53178_5])
  | succ n ih =>
    intro S H locs ls p0 p1 p2 p3 k_p0 hf hR hS hl
    unfold f_J7_fill_53178_5 at hf
    refine lv_iload_n B.1.1 B.1.2.1 dJ7_fill_53178_5 rfl (hl.at 2 rfl) ?_
    refine lv_iload_n B.1.1 B.1.2.1 dJ7_fill_53178_6 rfl (hl.at 3 rfl) ?_
    refine y_icmp_ge (tgt := 20) B hf dJ7_fill_53178_7 (by decide) (fun hf => ?_) (fun hf => ?_)
    · exact y_vret B hR hS hf dJ7_fill_53178_20
    · refine lv_aload_n B.1.1 B.1.2.1 dJ7_fill_53178_10 rfl (hl.at 0 rfl) ?_
      refine lv_iload_n B.1.1 B.1.2.1 dJ7_fill_53178_11 rfl (hl.at 2 rfl) ?_
      refine lv_iload_n B.1.1 B.1.2.1 dJ7_fill_53178_12 rfl (hl.at 1 rfl) ?_
      refine y_iast B hR hS hf k_p0 dJ7_fill_53178_13 (fun S1 H locs hf hR hS => ?_)
      refine y_iinc (d := 1) B hl hf dJ7_fill_53178_14 rfl (by decide) (by decide) rfl (fun v2 ls hf hl => ?_)
      have hl : xL ls 4 [_, _, _, _] := hl
      refine lv_goto (tgt := 5) B.1.1 B.1.2.1 dJ7_fill_53178_17 (by decide) ?_
      exact ih _ _ _ _ _ _ _ _ k_p0 hf hR hS hl
def f_J7_fill_53178 (T : xT) (S : xS) (p0 : Nat) (p1 : Int32) : Option (xS) := xl ((0 : Int32)) (fun v1 => xl ((Int32.ofNat (T.2.1 p0))) (fun v2 => f_J7_fill_53178_5 T xfu S p0 p1 v1 v2))
set_option maxRecDepth 100000 in
set_option maxHeartbeats 4000000 in
theorem c_J7_fill_53178 {l : Launch} {z : Nat} {D : va_G} {dA : Nat → ClassId} {T : xT} {S : xS} {p0 : Nat} {p1 : Int32} (k_p0 : xlk T p0 20 = true) {q : xS} (hf : f_J7_fill_53178 T S p0 p1 = some q) : Met l yJ7_fill_53178 (xws yJ7_fill_53178 cJ7_fill_53178 4 none) xr_J7_fill_53178 (xPc z D dA T S [.ref (z + p0), .int p1]) (xQv z D dA T q) 0 0 (xA z) := by
  refine x_met RJ7 (by decide) rfl (Nat.le_of_ble_eq_true rfl) ?_
  intro p e s m below meth c ls _ X hr hlk hml _ hR hS hl
  have B : xB p s m _ meth c cJ7_fill_53178 RJ7 4 none D dA := ⟨X, hr, hlk, hml⟩
  have hl : xL ls 4 [_, _, _, _] := hl
  unfold f_J7_fill_53178 at hf
  refine lv_iconst (v := 0) B.1.1 B.1.2.1 dJ7_fill_53178_0 (by decide) ?_
  refine y_istore_n B hl hf dJ7_fill_53178_1 rfl (by decide) rfl (fun v1 ls hf hl => ?_)
  have hl : xL ls 4 [_, _, _, _] := hl
  refine lv_aload_n B.1.1 B.1.2.1 dJ7_fill_53178_2 rfl (hl.at 0 rfl) ?_
  refine y_alen B hR k_p0 dJ7_fill_53178_3 ?_
  refine y_istore_n B hl hf dJ7_fill_53178_4 rfl (by decide) rfl (fun v2 ls hf hl => ?_)
  have hl : xL ls 4 [_, _, _, _] := hl
  exact w_J7_fill_53178_5 B xfu _ _ _ _ _ _ _ _ k_p0 hf hR hS hl
abbrev xr_J7_fill_fda19 : Room := { frames := 4, cells := 0, slots := 0, locals := 107 }
def f_J7_fill_fda19_10 (T : xT) : Nat → xS → Nat → Int32 → Int32 → Int32 → Option (xS)
  | 0, _, _, _, _, _ => none
  | n + 1, S, p0, p2, p3, p4 => if p2 ≤ p4 then some S else xst T S p0 p4 p3 (fun S1 => xl (p4 + (1 : Int32)) (fun v2 => f_J7_fill_fda19_10 T n S1 p0 p2 p3 v2))
set_option maxRecDepth 100000 in
set_option maxHeartbeats 4000000 in
theorem w_J7_fill_fda19_10 {p : Program} {l : Launch} {e : Env} {s : State} {m : MethodId} {args : Array Value} {below : List Frame} {meth : Method} {c : Code} {z : Nat} {D : va_G} {dA : Nat → ClassId} {T : xT} (B : xB p s m args meth c cJ7_fill_fda19 RJ7 5 none D dA) {q : xS} : ∀ (n : Nat), ∀ (S : xS) (H : Heap) (locs : List Loc) (ls : Array Slot) (p0 : Nat) (p2 : Int32) (p3 : Int32) (p4 : Int32), xlk T p0 20 = true → f_J7_fill_fda19_10 T n S p0 p2 p3 p4 = some q → xRel z D dA T S H → va_S (xA z) s.heap H locs → xL ls 5 [some (.ref (z + p0)), none, some (.int p2), some (.int p3), some (.int p4)] → xGv p l e xr_J7_fill_fda19 s m args below meth c z D dA T q H locs 10 ls [] := by
  intro n
  induction n with
  | zero =>
    intro S H locs ls p0 p2 p3 p4 k_p0 hf hR hS hl
    exact absurd hf (by simp [f_J7_fill_fda19_10])
  | succ n ih =>
    intro S H locs ls p0 p2 p3 p4 k_p0 hf hR hS hl
    unfold f_J7_fill_fda19_10 at hf
    refine lv_iload B.1.1 B.1.2.1 dJ7_fill_fda19_10 (hl.at 4 rfl) ?_
    refine lv_iload_n B.1.1 B.1.2.1 dJ7_fill_fda19_12 rfl (hl.at 2 rfl) ?_
    refine y_icmp_ge (tgt := 27) B hf dJ7_fill_fda19_13 (by decide) (fun hf => ?_) (fun hf => ?_)
    · exact y_vret B hR hS hf dJ7_fill_fda19_27
    · refine lv_aload_n B.1.1 B.1.2.1 dJ7_fill_fda19_16 rfl (hl.at 0 rfl) ?_
      refine lv_iload B.1.1 B.1.2.1 dJ7_fill_fda19_17 (hl.at 4 rfl) ?_
      refine lv_iload_n B.1.1 B.1.2.1 dJ7_fill_fda19_19 rfl (hl.at 3 rfl) ?_
      refine y_iast B hR hS hf k_p0 dJ7_fill_fda19_20 (fun S1 H locs hf hR hS => ?_)
      refine y_iinc (d := 1) B hl hf dJ7_fill_fda19_21 rfl (by decide) (by decide) rfl (fun v2 ls hf hl => ?_)
      have hl : xL ls 5 [_, _, _, _, _] := hl
      refine lv_goto (tgt := 10) B.1.1 B.1.2.1 dJ7_fill_fda19_24 (by decide) ?_
      exact ih _ _ _ _ _ _ _ _ k_p0 hf hR hS hl
def f_J7_fill_fda19 (T : xT) (S : xS) (p0 : Nat) (p1 : Int32) (p2 : Int32) (p3 : Int32) : Option (xS) := xcv (f_J7_rangeCheck_23922 T S ((Int32.ofNat (T.2.1 p0))) p1 p2) (fun S1 => xl p1 (fun v2 => f_J7_fill_fda19_10 T xfu S1 p0 p2 p3 v2))
set_option maxRecDepth 100000 in
set_option maxHeartbeats 4000000 in
theorem c_J7_fill_fda19 {l : Launch} {z : Nat} {D : va_G} {dA : Nat → ClassId} {T : xT} {S : xS} {p0 : Nat} {p1 : Int32} {p2 : Int32} {p3 : Int32} (k_p0 : xlk T p0 20 = true) {q : xS} (hf : f_J7_fill_fda19 T S p0 p1 p2 p3 = some q) : Met l yJ7_fill_fda19 (xws yJ7_fill_fda19 cJ7_fill_fda19 5 none) xr_J7_fill_fda19 (xPc z D dA T S [.ref (z + p0), .int p1, .int p2, .int p3]) (xQv z D dA T q) 0 0 (xA z) := by
  refine x_met RJ7 (by decide) rfl (Nat.le_of_ble_eq_true rfl) ?_
  intro p e s m below meth c ls _ X hr hlk hml _ hR hS hl
  have B : xB p s m _ meth c cJ7_fill_fda19 RJ7 5 none D dA := ⟨X, hr, hlk, hml⟩
  have hl : xL ls 5 [_, _, _, _, _] := hl
  unfold f_J7_fill_fda19 at hf
  refine lv_aload_n B.1.1 B.1.2.1 dJ7_fill_fda19_0 rfl (hl.at 0 rfl) ?_
  refine y_alen B hR k_p0 dJ7_fill_fda19_1 ?_
  refine lv_iload_n B.1.1 B.1.2.1 dJ7_fill_fda19_2 rfl (hl.at 1 rfl) ?_
  refine lv_iload_n B.1.1 B.1.2.1 dJ7_fill_fda19_3 rfl (hl.at 2 rfl) ?_
  refine y_cv hf (fun q hq => y_runS B.1 B.2.2.2 hl hR hS cm_J7_13 ⟨rfl, rfl, Nat.le_of_ble_eq_true rfl, Nat.le_of_ble_eq_true rfl⟩ (c_J7_rangeCheck_23922 hq) rfl rfl (Nat.le_of_ble_eq_true rfl) dJ7_fill_fda19_4 ⟨Nat.le_of_ble_eq_true rfl, Nat.le_of_ble_eq_true rfl⟩) hS (fun S1 H locs hf hR hS => ?_)
  refine lv_iload_n B.1.1 B.1.2.1 dJ7_fill_fda19_7 rfl (hl.at 1 rfl) ?_
  refine y_istore B hl hf dJ7_fill_fda19_8 (by decide) rfl (fun v2 ls hf hl => ?_)
  have hl : xL ls 5 [_, _, _, _, _] := hl
  exact w_J7_fill_fda19_10 B xfu _ _ _ _ _ _ _ _ k_p0 hf hR hS (hl.drop [true, false, true, true, true] rfl)
abbrev xr_X0_startRows : Room := { frames := 1, cells := 0, slots := 0, locals := 12 }
def f_X0_startRows (T : xT) (S : xS) (p0 : Nat) : Option (xS) := xpi S p0 0 ((0 : Int32)) (fun S1 => xpi S1 p0 1 ((-1 : Int32)) (fun S2 => some S2))
set_option maxRecDepth 100000 in
set_option maxHeartbeats 4000000 in
theorem c_X0_startRows {l : Launch} {z : Nat} {D : va_G} {dA : Nat → ClassId} {T : xT} {S : xS} {p0 : Nat} (k_p0 : xlk T p0 0 = true) {q : xS} (hf : f_X0_startRows T S p0 = some q) : Met l yX0_startRows (xws yX0_startRows cX0_startRows 1 none) xr_X0_startRows (xPc z D dA T S [.ref (z + p0)]) (xQv z D dA T q) 0 0 (xA z) := by
  refine x_met RX0 (by decide) rfl (Nat.le_of_ble_eq_true rfl) ?_
  intro p e s m below meth c ls _ X hr hlk hml _ hR hS hl
  have B : xB p s m _ meth c cX0_startRows RX0 1 none D dA := ⟨X, hr, hlk, hml⟩
  have hl : xL ls 1 [_] := hl
  unfold f_X0_startRows at hf
  refine lv_aload_n B.1.1 B.1.2.1 dX0_startRows_0 rfl (hl.at 0 rfl) ?_
  refine lv_iconst (v := 0) B.1.1 B.1.2.1 dX0_startRows_1 (by decide) ?_
  refine y_putI B hR hS hf k_p0 fp_X0_28 dX0_startRows_2 (fun S1 H locs hf hR hS => ?_)
  refine lv_aload_n B.1.1 B.1.2.1 dX0_startRows_5 rfl (hl.at 0 rfl) ?_
  refine lv_iconst (v := -1) B.1.1 B.1.2.1 dX0_startRows_6 (by decide) ?_
  refine y_putI B hR hS hf k_p0 fp_X0_9 dX0_startRows_7 (fun S2 H locs hf hR hS => ?_)
  exact y_vret B hR hS hf dX0_startRows_10
abbrev xr_X0_addRow : Room := { frames := 1, cells := 0, slots := 0, locals := 12 }
def f_X0_addRow (T : xT) (S : xS) (p0 : Nat) (p1 : Int32) : Option (xS) := if (30 : Int32) ≤ (S.1 p0 0) then some S else xgr T S p0 2 20 (fun a1 => xst T S a1 ((S.1 p0 0)) p1 (fun S2 => xpi S2 p0 0 (((S2.1 p0 0) + (1 : Int32))) (fun S3 => some S3)))
set_option maxRecDepth 100000 in
set_option maxHeartbeats 4000000 in
theorem c_X0_addRow {l : Launch} {z : Nat} {D : va_G} {dA : Nat → ClassId} {T : xT} {S : xS} {p0 : Nat} {p1 : Int32} (k_p0 : xlk T p0 0 = true) {q : xS} (hf : f_X0_addRow T S p0 p1 = some q) : Met l yX0_addRow (xws yX0_addRow cX0_addRow 2 none) xr_X0_addRow (xPc z D dA T S [.ref (z + p0), .int p1]) (xQv z D dA T q) 0 0 (xA z) := by
  refine x_met RX0 (by decide) rfl (Nat.le_of_ble_eq_true rfl) ?_
  intro p e s m below meth c ls _ X hr hlk hml _ hR hS hl
  have B : xB p s m _ meth c cX0_addRow RX0 2 none D dA := ⟨X, hr, hlk, hml⟩
  have hl : xL ls 2 [_, _] := hl
  unfold f_X0_addRow at hf
  refine lv_aload_n B.1.1 B.1.2.1 dX0_addRow_0 rfl (hl.at 0 rfl) ?_
  refine y_getI B hR k_p0 fl_X0_28 dX0_addRow_1 ?_
  refine lv_bipush (v := 30) B.1.1 B.1.2.1 dX0_addRow_4 (by decide) ?_
  refine y_icmp_ge (tgt := 29) B hf dX0_addRow_6 (by decide) (fun hf => ?_) (fun hf => ?_)
  · exact y_vret B hR hS hf dX0_addRow_29
  · refine lv_aload_n B.1.1 B.1.2.1 dX0_addRow_9 rfl (hl.at 0 rfl) ?_
    refine y_getR B hR hf k_p0 fl_X0_15 dX0_addRow_10 (fun a1 k_a1 hf => ?_)
    refine lv_aload_n B.1.1 B.1.2.1 dX0_addRow_13 rfl (hl.at 0 rfl) ?_
    refine y_getI B hR k_p0 fl_X0_28 dX0_addRow_14 ?_
    refine lv_iload_n B.1.1 B.1.2.1 dX0_addRow_17 rfl (hl.at 1 rfl) ?_
    refine y_iast B hR hS hf k_a1 dX0_addRow_18 (fun S2 H locs hf hR hS => ?_)
    refine lv_aload_n B.1.1 B.1.2.1 dX0_addRow_19 rfl (hl.at 0 rfl) ?_
    refine lv_dup B.1.1 B.1.2.1 dX0_addRow_20 rfl ?_
    refine y_getI B hR k_p0 fl_X0_28 dX0_addRow_21 ?_
    refine lv_iconst (v := 1) B.1.1 B.1.2.1 dX0_addRow_24 (by decide) ?_
    refine lv_iadd B.1.1 B.1.2.1 dX0_addRow_25 ?_
    refine y_putI B hR hS hf k_p0 fp_X0_28 dX0_addRow_26 (fun S3 H locs hf hR hS => ?_)
    exact y_vret B hR hS hf dX0_addRow_29
abbrev xr_X3_advance : Room := { frames := 1, cells := 0, slots := 0, locals := 12 }
def f_X3_advance_98 (T : xT) : Nat → xS → Nat → Option (xS)
  | 0, _, _ => none
  | n + 1, S, p0 => if (S.1 p0 1) ≤ (S.1 p0 4) then some S else xgr T S p0 0 20 (fun a1 => xai T S a1 ((S.1 p0 4)) (fun v2 => if v2 < (97 : Int32) then some S else xgr T S p0 0 20 (fun a3 => xai T S a3 ((S.1 p0 4)) (fun v4 => if (122 : Int32) < v4 then some S else xpi S p0 4 (((S.1 p0 4) + (1 : Int32))) (fun S5 => f_X3_advance_98 T n S5 p0)))))
set_option maxRecDepth 100000 in
set_option maxHeartbeats 4000000 in
theorem w_X3_advance_98 {p : Program} {l : Launch} {e : Env} {s : State} {m : MethodId} {args : Array Value} {below : List Frame} {meth : Method} {c : Code} {z : Nat} {D : va_G} {dA : Nat → ClassId} {T : xT} (B : xB p s m args meth c cX3_advance RX3 1 none D dA) {q : xS} : ∀ (n : Nat), ∀ (S : xS) (H : Heap) (locs : List Loc) (ls : Array Slot) (p0 : Nat), xlk T p0 3 = true → f_X3_advance_98 T n S p0 = some q → xRel z D dA T S H → va_S (xA z) s.heap H locs → xL ls 1 [some (.ref (z + p0))] → xGv p l e xr_X3_advance s m args below meth c z D dA T q H locs 98 ls [] := by
  intro n
  induction n with
  | zero =>
    intro S H locs ls p0 k_p0 hf hR hS hl
    exact absurd hf (by simp [f_X3_advance_98])
  | succ n ih =>
    intro S H locs ls p0 k_p0 hf hR hS hl
    unfold f_X3_advance_98 at hf
    refine lv_aload_n B.1.1 B.1.2.1 dX3_advance_98 rfl (hl.at 0 rfl) ?_
    refine y_getI B hR k_p0 fl_X3_19 dX3_advance_99 ?_
    refine lv_aload_n B.1.1 B.1.2.1 dX3_advance_102 rfl (hl.at 0 rfl) ?_
    refine y_getI B hR k_p0 fl_X3_15 dX3_advance_103 ?_
    refine y_icmp_ge (tgt := 307) B hf dX3_advance_106 (by decide) (fun hf => ?_) (fun hf => ?_)
    · exact y_vret B hR hS hf dX3_advance_307
    · refine lv_aload_n B.1.1 B.1.2.1 dX3_advance_109 rfl (hl.at 0 rfl) ?_
      refine y_getR B hR hf k_p0 fl_X3_9 dX3_advance_110 (fun a1 k_a1 hf => ?_)
      refine lv_aload_n B.1.1 B.1.2.1 dX3_advance_113 rfl (hl.at 0 rfl) ?_
      refine y_getI B hR k_p0 fl_X3_19 dX3_advance_114 ?_
      refine y_iald B hR hf k_a1 dX3_advance_117 (fun v2 hf => ?_)
      refine lv_bipush (v := 97) B.1.1 B.1.2.1 dX3_advance_118 (by decide) ?_
      refine y_icmp_lt (tgt := 307) B hf dX3_advance_120 (by decide) (fun hf => ?_) (fun hf => ?_)
      · exact y_vret B hR hS hf dX3_advance_307
      · refine lv_aload_n B.1.1 B.1.2.1 dX3_advance_123 rfl (hl.at 0 rfl) ?_
        refine y_getR B hR hf k_p0 fl_X3_9 dX3_advance_124 (fun a3 k_a3 hf => ?_)
        refine lv_aload_n B.1.1 B.1.2.1 dX3_advance_127 rfl (hl.at 0 rfl) ?_
        refine y_getI B hR k_p0 fl_X3_19 dX3_advance_128 ?_
        refine y_iald B hR hf k_a3 dX3_advance_131 (fun v4 hf => ?_)
        refine lv_bipush (v := 122) B.1.1 B.1.2.1 dX3_advance_132 (by decide) ?_
        refine y_icmp_gt (tgt := 307) B hf dX3_advance_134 (by decide) (fun hf => ?_) (fun hf => ?_)
        · exact y_vret B hR hS hf dX3_advance_307
        · refine lv_aload_n B.1.1 B.1.2.1 dX3_advance_137 rfl (hl.at 0 rfl) ?_
          refine lv_dup B.1.1 B.1.2.1 dX3_advance_138 rfl ?_
          refine y_getI B hR k_p0 fl_X3_19 dX3_advance_139 ?_
          refine lv_iconst (v := 1) B.1.1 B.1.2.1 dX3_advance_142 (by decide) ?_
          refine lv_iadd B.1.1 B.1.2.1 dX3_advance_143 ?_
          refine y_putI B hR hS hf k_p0 fp_X3_19 dX3_advance_144 (fun S5 H locs hf hR hS => ?_)
          refine lv_goto (tgt := 98) B.1.1 B.1.2.1 dX3_advance_147 (by decide) ?_
          exact ih _ _ _ _ _ k_p0 hf hR hS hl
def f_X3_advance_188 (T : xT) : Nat → xS → Nat → Option (xS)
  | 0, _, _ => none
  | n + 1, S, p0 => if (S.1 p0 1) ≤ (S.1 p0 4) then some S else xgr T S p0 0 20 (fun a1 => xai T S a1 ((S.1 p0 4)) (fun v2 => if v2 < (48 : Int32) then some S else xgr T S p0 0 20 (fun a3 => xai T S a3 ((S.1 p0 4)) (fun v4 => if (57 : Int32) < v4 then some S else if (100000000 : Int32) ≤ (S.1 p0 7) then xpi S p0 7 ((100000000 : Int32)) (fun S5 => xpi S5 p0 4 (((S5.1 p0 4) + (1 : Int32))) (fun S6 => f_X3_advance_188 T n S6 p0)) else xgr T S p0 0 20 (fun a7 => xai T S a7 ((S.1 p0 4)) (fun v8 => xpi S p0 7 (((((S.1 p0 7) * (10 : Int32)) + v8) - (48 : Int32))) (fun S9 => xpi S9 p0 4 (((S9.1 p0 4) + (1 : Int32))) (fun S10 => f_X3_advance_188 T n S10 p0))))))))
set_option maxRecDepth 100000 in
set_option maxHeartbeats 4000000 in
theorem w_X3_advance_188 {p : Program} {l : Launch} {e : Env} {s : State} {m : MethodId} {args : Array Value} {below : List Frame} {meth : Method} {c : Code} {z : Nat} {D : va_G} {dA : Nat → ClassId} {T : xT} (B : xB p s m args meth c cX3_advance RX3 1 none D dA) {q : xS} : ∀ (n : Nat), ∀ (S : xS) (H : Heap) (locs : List Loc) (ls : Array Slot) (p0 : Nat), xlk T p0 3 = true → f_X3_advance_188 T n S p0 = some q → xRel z D dA T S H → va_S (xA z) s.heap H locs → xL ls 1 [some (.ref (z + p0))] → xGv p l e xr_X3_advance s m args below meth c z D dA T q H locs 188 ls [] := by
  intro n
  induction n with
  | zero =>
    intro S H locs ls p0 k_p0 hf hR hS hl
    exact absurd hf (by simp [f_X3_advance_188])
  | succ n ih =>
    intro S H locs ls p0 k_p0 hf hR hS hl
    unfold f_X3_advance_188 at hf
    refine lv_aload_n B.1.1 B.1.2.1 dX3_advance_188 rfl (hl.at 0 rfl) ?_
    refine y_getI B hR k_p0 fl_X3_19 dX3_advance_189 ?_
    refine lv_aload_n B.1.1 B.1.2.1 dX3_advance_192 rfl (hl.at 0 rfl) ?_
    refine y_getI B hR k_p0 fl_X3_15 dX3_advance_193 ?_
    refine y_icmp_ge (tgt := 307) B hf dX3_advance_196 (by decide) (fun hf => ?_) (fun hf => ?_)
    · exact y_vret B hR hS hf dX3_advance_307
    · refine lv_aload_n B.1.1 B.1.2.1 dX3_advance_199 rfl (hl.at 0 rfl) ?_
      refine y_getR B hR hf k_p0 fl_X3_9 dX3_advance_200 (fun a1 k_a1 hf => ?_)
      refine lv_aload_n B.1.1 B.1.2.1 dX3_advance_203 rfl (hl.at 0 rfl) ?_
      refine y_getI B hR k_p0 fl_X3_19 dX3_advance_204 ?_
      refine y_iald B hR hf k_a1 dX3_advance_207 (fun v2 hf => ?_)
      refine lv_bipush (v := 48) B.1.1 B.1.2.1 dX3_advance_208 (by decide) ?_
      refine y_icmp_lt (tgt := 307) B hf dX3_advance_210 (by decide) (fun hf => ?_) (fun hf => ?_)
      · exact y_vret B hR hS hf dX3_advance_307
      · refine lv_aload_n B.1.1 B.1.2.1 dX3_advance_213 rfl (hl.at 0 rfl) ?_
        refine y_getR B hR hf k_p0 fl_X3_9 dX3_advance_214 (fun a3 k_a3 hf => ?_)
        refine lv_aload_n B.1.1 B.1.2.1 dX3_advance_217 rfl (hl.at 0 rfl) ?_
        refine y_getI B hR k_p0 fl_X3_19 dX3_advance_218 ?_
        refine y_iald B hR hf k_a3 dX3_advance_221 (fun v4 hf => ?_)
        refine lv_bipush (v := 57) B.1.1 B.1.2.1 dX3_advance_222 (by decide) ?_
        refine y_icmp_gt (tgt := 307) B hf dX3_advance_224 (by decide) (fun hf => ?_) (fun hf => ?_)
        · exact y_vret B hR hS hf dX3_advance_307
        · refine lv_aload_n B.1.1 B.1.2.1 dX3_advance_227 rfl (hl.at 0 rfl) ?_
          refine lv_aload_n B.1.1 B.1.2.1 dX3_advance_228 rfl (hl.at 0 rfl) ?_
          refine y_getI B hR k_p0 fl_X3_34 dX3_advance_229 ?_
          refine lv_ldc (v := 100000000) B.1.1 B.1.2.1 B.1.2.2.1 (B.1.2.2.2.1 _ tw_409) dX3_advance_232 ?_
          refine y_icmp_ge (tgt := 260) B hf dX3_advance_234 (by decide) (fun hf => ?_) (fun hf => ?_)
          · refine lv_ldc (v := 100000000) B.1.1 B.1.2.1 B.1.2.2.1 (B.1.2.2.2.1 _ tw_409) dX3_advance_260 ?_
            refine y_putI B hR hS hf k_p0 fp_X3_34 dX3_advance_262 (fun S5 H locs hf hR hS => ?_)
            refine lv_aload_n B.1.1 B.1.2.1 dX3_advance_265 rfl (hl.at 0 rfl) ?_
            refine lv_dup B.1.1 B.1.2.1 dX3_advance_266 rfl ?_
            refine y_getI B hR k_p0 fl_X3_19 dX3_advance_267 ?_
            refine lv_iconst (v := 1) B.1.1 B.1.2.1 dX3_advance_270 (by decide) ?_
            refine lv_iadd B.1.1 B.1.2.1 dX3_advance_271 ?_
            refine y_putI B hR hS hf k_p0 fp_X3_19 dX3_advance_272 (fun S6 H locs hf hR hS => ?_)
            refine lv_goto (tgt := 188) B.1.1 B.1.2.1 dX3_advance_275 (by decide) ?_
            exact ih _ _ _ _ _ k_p0 hf hR hS hl
          · refine lv_aload_n B.1.1 B.1.2.1 dX3_advance_237 rfl (hl.at 0 rfl) ?_
            refine y_getI B hR k_p0 fl_X3_34 dX3_advance_238 ?_
            refine lv_bipush (v := 10) B.1.1 B.1.2.1 dX3_advance_241 (by decide) ?_
            refine lv_imul B.1.1 B.1.2.1 dX3_advance_243 ?_
            refine lv_aload_n B.1.1 B.1.2.1 dX3_advance_244 rfl (hl.at 0 rfl) ?_
            refine y_getR B hR hf k_p0 fl_X3_9 dX3_advance_245 (fun a7 k_a7 hf => ?_)
            refine lv_aload_n B.1.1 B.1.2.1 dX3_advance_248 rfl (hl.at 0 rfl) ?_
            refine y_getI B hR k_p0 fl_X3_19 dX3_advance_249 ?_
            refine y_iald B hR hf k_a7 dX3_advance_252 (fun v8 hf => ?_)
            refine lv_iadd B.1.1 B.1.2.1 dX3_advance_253 ?_
            refine lv_bipush (v := 48) B.1.1 B.1.2.1 dX3_advance_254 (by decide) ?_
            refine lv_isub B.1.1 B.1.2.1 dX3_advance_256 ?_
            refine lv_goto (tgt := 262) B.1.1 B.1.2.1 dX3_advance_257 (by decide) ?_
            refine y_putI B hR hS hf k_p0 fp_X3_34 dX3_advance_262 (fun S9 H locs hf hR hS => ?_)
            refine lv_aload_n B.1.1 B.1.2.1 dX3_advance_265 rfl (hl.at 0 rfl) ?_
            refine lv_dup B.1.1 B.1.2.1 dX3_advance_266 rfl ?_
            refine y_getI B hR k_p0 fl_X3_19 dX3_advance_267 ?_
            refine lv_iconst (v := 1) B.1.1 B.1.2.1 dX3_advance_270 (by decide) ?_
            refine lv_iadd B.1.1 B.1.2.1 dX3_advance_271 ?_
            refine y_putI B hR hS hf k_p0 fp_X3_19 dX3_advance_272 (fun S10 H locs hf hR hS => ?_)
            refine lv_goto (tgt := 188) B.1.1 B.1.2.1 dX3_advance_275 (by decide) ?_
            exact ih _ _ _ _ _ k_p0 hf hR hS hl
def f_X3_advance_278 (T : xT) (S : xS) (p0 : Nat) : Option (xS) := xpi S p0 6 ((3 : Int32)) (fun S1 => xgr T S1 p0 0 20 (fun a2 => xai T S1 a2 ((S1.1 p0 4)) (fun v3 => xgd (xnc (((v3).toUInt32 % 65536).toInt32)) (xpi S1 p0 3 (((v3).toUInt32 % 65536).toInt32) (fun S4 => xpi S4 p0 4 (((S4.1 p0 4) + (1 : Int32))) (fun S5 => some S5))))))
set_option maxRecDepth 100000 in
set_option maxHeartbeats 4000000 in
theorem w_X3_advance_278 {p : Program} {l : Launch} {e : Env} {s : State} {m : MethodId} {args : Array Value} {below : List Frame} {meth : Method} {c : Code} {z : Nat} {D : va_G} {dA : Nat → ClassId} {T : xT} (B : xB p s m args meth c cX3_advance RX3 1 none D dA) {q : xS} : ∀ (S : xS) (H : Heap) (locs : List Loc) (ls : Array Slot) (p0 : Nat), xlk T p0 3 = true → f_X3_advance_278 T S p0 = some q → xRel z D dA T S H → va_S (xA z) s.heap H locs → xL ls 1 [some (.ref (z + p0))] → xGv p l e xr_X3_advance s m args below meth c z D dA T q H locs 278 ls [] := by
  intro S H locs ls p0 k_p0 hf hR hS hl
  unfold f_X3_advance_278 at hf
  refine lv_aload_n B.1.1 B.1.2.1 dX3_advance_278 rfl (hl.at 0 rfl) ?_
  refine lv_iconst (v := 3) B.1.1 B.1.2.1 dX3_advance_279 (by decide) ?_
  refine y_putI B hR hS hf k_p0 fp_X3_31 dX3_advance_280 (fun S1 H locs hf hR hS => ?_)
  refine lv_aload_n B.1.1 B.1.2.1 dX3_advance_283 rfl (hl.at 0 rfl) ?_
  refine lv_aload_n B.1.1 B.1.2.1 dX3_advance_284 rfl (hl.at 0 rfl) ?_
  refine y_getR B hR hf k_p0 fl_X3_9 dX3_advance_285 (fun a2 k_a2 hf => ?_)
  refine lv_aload_n B.1.1 B.1.2.1 dX3_advance_288 rfl (hl.at 0 rfl) ?_
  refine y_getI B hR k_p0 fl_X3_19 dX3_advance_289 ?_
  refine y_iald B hR hf k_a2 dX3_advance_292 (fun v3 hf => ?_)
  refine lv_i2c B.1.1 B.1.2.1 dX3_advance_293 rfl ?_
  refine y_putC B hR hS hf k_p0 fp_X3_38 dX3_advance_294 (fun S4 H locs hf hR hS => ?_)
  refine lv_aload_n B.1.1 B.1.2.1 dX3_advance_297 rfl (hl.at 0 rfl) ?_
  refine lv_dup B.1.1 B.1.2.1 dX3_advance_298 rfl ?_
  refine y_getI B hR k_p0 fl_X3_19 dX3_advance_299 ?_
  refine lv_iconst (v := 1) B.1.1 B.1.2.1 dX3_advance_302 (by decide) ?_
  refine lv_iadd B.1.1 B.1.2.1 dX3_advance_303 ?_
  refine y_putI B hR hS hf k_p0 fp_X3_19 dX3_advance_304 (fun S5 H locs hf hR hS => ?_)
  exact y_vret B hR hS hf dX3_advance_307
def f_X3_advance_150 (T : xT) (S : xS) (p0 : Nat) : Option (xS) := xgr T S p0 0 20 (fun a1 => xai T S a1 ((S.1 p0 4)) (fun v2 => if v2 < (48 : Int32) then f_X3_advance_278 T S p0 else xgr T S p0 0 20 (fun a3 => xai T S a3 ((S.1 p0 4)) (fun v4 => if (57 : Int32) < v4 then f_X3_advance_278 T S p0 else xpi S p0 6 ((2 : Int32)) (fun S5 => xpi S5 p0 7 ((0 : Int32)) (fun S6 => f_X3_advance_188 T xfu S6 p0))))))
set_option maxRecDepth 100000 in
set_option maxHeartbeats 4000000 in
theorem w_X3_advance_150 {p : Program} {l : Launch} {e : Env} {s : State} {m : MethodId} {args : Array Value} {below : List Frame} {meth : Method} {c : Code} {z : Nat} {D : va_G} {dA : Nat → ClassId} {T : xT} (B : xB p s m args meth c cX3_advance RX3 1 none D dA) {q : xS} : ∀ (S : xS) (H : Heap) (locs : List Loc) (ls : Array Slot) (p0 : Nat), xlk T p0 3 = true → f_X3_advance_150 T S p0 = some q → xRel z D dA T S H → va_S (xA z) s.heap H locs → xL ls 1 [some (.ref (z + p0))] → xGv p l e xr_X3_advance s m args below meth c z D dA T q H locs 150 ls [] := by
  intro S H locs ls p0 k_p0 hf hR hS hl
  unfold f_X3_advance_150 at hf
  refine lv_aload_n B.1.1 B.1.2.1 dX3_advance_150 rfl (hl.at 0 rfl) ?_
  refine y_getR B hR hf k_p0 fl_X3_9 dX3_advance_151 (fun a1 k_a1 hf => ?_)
  refine lv_aload_n B.1.1 B.1.2.1 dX3_advance_154 rfl (hl.at 0 rfl) ?_
  refine y_getI B hR k_p0 fl_X3_19 dX3_advance_155 ?_
  refine y_iald B hR hf k_a1 dX3_advance_158 (fun v2 hf => ?_)
  refine lv_bipush (v := 48) B.1.1 B.1.2.1 dX3_advance_159 (by decide) ?_
  refine y_icmp_lt (tgt := 278) B hf dX3_advance_161 (by decide) (fun hf => ?_) (fun hf => ?_)
  · exact w_X3_advance_278 B _ _ _ _ _ k_p0 hf hR hS hl
  · refine lv_aload_n B.1.1 B.1.2.1 dX3_advance_164 rfl (hl.at 0 rfl) ?_
    refine y_getR B hR hf k_p0 fl_X3_9 dX3_advance_165 (fun a3 k_a3 hf => ?_)
    refine lv_aload_n B.1.1 B.1.2.1 dX3_advance_168 rfl (hl.at 0 rfl) ?_
    refine y_getI B hR k_p0 fl_X3_19 dX3_advance_169 ?_
    refine y_iald B hR hf k_a3 dX3_advance_172 (fun v4 hf => ?_)
    refine lv_bipush (v := 57) B.1.1 B.1.2.1 dX3_advance_173 (by decide) ?_
    refine y_icmp_gt (tgt := 278) B hf dX3_advance_175 (by decide) (fun hf => ?_) (fun hf => ?_)
    · exact w_X3_advance_278 B _ _ _ _ _ k_p0 hf hR hS hl
    · refine lv_aload_n B.1.1 B.1.2.1 dX3_advance_178 rfl (hl.at 0 rfl) ?_
      refine lv_iconst (v := 2) B.1.1 B.1.2.1 dX3_advance_179 (by decide) ?_
      refine y_putI B hR hS hf k_p0 fp_X3_31 dX3_advance_180 (fun S5 H locs hf hR hS => ?_)
      refine lv_aload_n B.1.1 B.1.2.1 dX3_advance_183 rfl (hl.at 0 rfl) ?_
      refine lv_iconst (v := 0) B.1.1 B.1.2.1 dX3_advance_184 (by decide) ?_
      refine y_putI B hR hS hf k_p0 fp_X3_34 dX3_advance_185 (fun S6 H locs hf hR hS => ?_)
      exact w_X3_advance_188 B xfu _ _ _ _ _ k_p0 hf hR hS hl
def f_X3_advance_38 (T : xT) (S : xS) (p0 : Nat) : Option (xS) := xpi S p0 5 ((S.1 p0 4)) (fun S1 => if (S1.1 p0 4) < (S1.1 p0 1) then xgr T S1 p0 0 20 (fun a2 => xai T S1 a2 ((S1.1 p0 4)) (fun v3 => if v3 < (97 : Int32) then f_X3_advance_150 T S1 p0 else xgr T S1 p0 0 20 (fun a4 => xai T S1 a4 ((S1.1 p0 4)) (fun v5 => if (122 : Int32) < v5 then f_X3_advance_150 T S1 p0 else xpi S1 p0 6 ((1 : Int32)) (fun S6 => f_X3_advance_98 T xfu S6 p0))))) else xpi S1 p0 6 ((0 : Int32)) (fun S7 => some S7))
set_option maxRecDepth 100000 in
set_option maxHeartbeats 4000000 in
theorem w_X3_advance_38 {p : Program} {l : Launch} {e : Env} {s : State} {m : MethodId} {args : Array Value} {below : List Frame} {meth : Method} {c : Code} {z : Nat} {D : va_G} {dA : Nat → ClassId} {T : xT} (B : xB p s m args meth c cX3_advance RX3 1 none D dA) {q : xS} : ∀ (S : xS) (H : Heap) (locs : List Loc) (ls : Array Slot) (p0 : Nat), xlk T p0 3 = true → f_X3_advance_38 T S p0 = some q → xRel z D dA T S H → va_S (xA z) s.heap H locs → xL ls 1 [some (.ref (z + p0))] → xGv p l e xr_X3_advance s m args below meth c z D dA T q H locs 38 ls [] := by
  intro S H locs ls p0 k_p0 hf hR hS hl
  unfold f_X3_advance_38 at hf
  refine lv_aload_n B.1.1 B.1.2.1 dX3_advance_38 rfl (hl.at 0 rfl) ?_
  refine lv_aload_n B.1.1 B.1.2.1 dX3_advance_39 rfl (hl.at 0 rfl) ?_
  refine y_getI B hR k_p0 fl_X3_19 dX3_advance_40 ?_
  refine y_putI B hR hS hf k_p0 fp_X3_28 dX3_advance_43 (fun S1 H locs hf hR hS => ?_)
  refine lv_aload_n B.1.1 B.1.2.1 dX3_advance_46 rfl (hl.at 0 rfl) ?_
  refine y_getI B hR k_p0 fl_X3_19 dX3_advance_47 ?_
  refine lv_aload_n B.1.1 B.1.2.1 dX3_advance_50 rfl (hl.at 0 rfl) ?_
  refine y_getI B hR k_p0 fl_X3_15 dX3_advance_51 ?_
  refine y_icmp_lt (tgt := 65) B hf dX3_advance_54 (by decide) (fun hf => ?_) (fun hf => ?_)
  · refine lv_aload_n B.1.1 B.1.2.1 dX3_advance_65 rfl (hl.at 0 rfl) ?_
    refine y_getR B hR hf k_p0 fl_X3_9 dX3_advance_66 (fun a2 k_a2 hf => ?_)
    refine lv_aload_n B.1.1 B.1.2.1 dX3_advance_69 rfl (hl.at 0 rfl) ?_
    refine y_getI B hR k_p0 fl_X3_19 dX3_advance_70 ?_
    refine y_iald B hR hf k_a2 dX3_advance_73 (fun v3 hf => ?_)
    refine lv_bipush (v := 97) B.1.1 B.1.2.1 dX3_advance_74 (by decide) ?_
    refine y_icmp_lt (tgt := 150) B hf dX3_advance_76 (by decide) (fun hf => ?_) (fun hf => ?_)
    · exact w_X3_advance_150 B _ _ _ _ _ k_p0 hf hR hS hl
    · refine lv_aload_n B.1.1 B.1.2.1 dX3_advance_79 rfl (hl.at 0 rfl) ?_
      refine y_getR B hR hf k_p0 fl_X3_9 dX3_advance_80 (fun a4 k_a4 hf => ?_)
      refine lv_aload_n B.1.1 B.1.2.1 dX3_advance_83 rfl (hl.at 0 rfl) ?_
      refine y_getI B hR k_p0 fl_X3_19 dX3_advance_84 ?_
      refine y_iald B hR hf k_a4 dX3_advance_87 (fun v5 hf => ?_)
      refine lv_bipush (v := 122) B.1.1 B.1.2.1 dX3_advance_88 (by decide) ?_
      refine y_icmp_gt (tgt := 150) B hf dX3_advance_90 (by decide) (fun hf => ?_) (fun hf => ?_)
      · exact w_X3_advance_150 B _ _ _ _ _ k_p0 hf hR hS hl
      · refine lv_aload_n B.1.1 B.1.2.1 dX3_advance_93 rfl (hl.at 0 rfl) ?_
        refine lv_iconst (v := 1) B.1.1 B.1.2.1 dX3_advance_94 (by decide) ?_
        refine y_putI B hR hS hf k_p0 fp_X3_31 dX3_advance_95 (fun S6 H locs hf hR hS => ?_)
        exact w_X3_advance_98 B xfu _ _ _ _ _ k_p0 hf hR hS hl
  · refine lv_aload_n B.1.1 B.1.2.1 dX3_advance_57 rfl (hl.at 0 rfl) ?_
    refine lv_iconst (v := 0) B.1.1 B.1.2.1 dX3_advance_58 (by decide) ?_
    refine y_putI B hR hS hf k_p0 fp_X3_31 dX3_advance_59 (fun S7 H locs hf hR hS => ?_)
    refine lv_goto (tgt := 307) B.1.1 B.1.2.1 dX3_advance_62 (by decide) ?_
    exact y_vret B hR hS hf dX3_advance_307
def f_X3_advance_0 (T : xT) : Nat → xS → Nat → Option (xS)
  | 0, _, _ => none
  | n + 1, S, p0 => if (S.1 p0 1) ≤ (S.1 p0 4) then f_X3_advance_38 T S p0 else xgr T S p0 0 20 (fun a1 => xai T S a1 ((S.1 p0 4)) (fun v2 => if v2 = (32 : Int32) then xpi S p0 4 (((S.1 p0 4) + (1 : Int32))) (fun S3 => f_X3_advance_0 T n S3 p0) else f_X3_advance_38 T S p0))
set_option maxRecDepth 100000 in
set_option maxHeartbeats 4000000 in
theorem w_X3_advance_0 {p : Program} {l : Launch} {e : Env} {s : State} {m : MethodId} {args : Array Value} {below : List Frame} {meth : Method} {c : Code} {z : Nat} {D : va_G} {dA : Nat → ClassId} {T : xT} (B : xB p s m args meth c cX3_advance RX3 1 none D dA) {q : xS} : ∀ (n : Nat), ∀ (S : xS) (H : Heap) (locs : List Loc) (ls : Array Slot) (p0 : Nat), xlk T p0 3 = true → f_X3_advance_0 T n S p0 = some q → xRel z D dA T S H → va_S (xA z) s.heap H locs → xL ls 1 [some (.ref (z + p0))] → xGv p l e xr_X3_advance s m args below meth c z D dA T q H locs 0 ls [] := by
  intro n
  induction n with
  | zero =>
    intro S H locs ls p0 k_p0 hf hR hS hl
    exact absurd hf (by simp [f_X3_advance_0])
  | succ n ih =>
    intro S H locs ls p0 k_p0 hf hR hS hl
    unfold f_X3_advance_0 at hf
    refine lv_aload_n B.1.1 B.1.2.1 dX3_advance_0 rfl (hl.at 0 rfl) ?_
    refine y_getI B hR k_p0 fl_X3_19 dX3_advance_1 ?_
    refine lv_aload_n B.1.1 B.1.2.1 dX3_advance_4 rfl (hl.at 0 rfl) ?_
    refine y_getI B hR k_p0 fl_X3_15 dX3_advance_5 ?_
    refine y_icmp_ge (tgt := 38) B hf dX3_advance_8 (by decide) (fun hf => ?_) (fun hf => ?_)
    · exact w_X3_advance_38 B _ _ _ _ _ k_p0 hf hR hS hl
    · refine lv_aload_n B.1.1 B.1.2.1 dX3_advance_11 rfl (hl.at 0 rfl) ?_
      refine y_getR B hR hf k_p0 fl_X3_9 dX3_advance_12 (fun a1 k_a1 hf => ?_)
      refine lv_aload_n B.1.1 B.1.2.1 dX3_advance_15 rfl (hl.at 0 rfl) ?_
      refine y_getI B hR k_p0 fl_X3_19 dX3_advance_16 ?_
      refine y_iald B hR hf k_a1 dX3_advance_19 (fun v2 hf => ?_)
      refine lv_bipush (v := 32) B.1.1 B.1.2.1 dX3_advance_20 (by decide) ?_
      refine y_icmp_ne (tgt := 38) B hf dX3_advance_22 (by decide) (fun hf => ?_) (fun hf => ?_)
      · exact w_X3_advance_38 B _ _ _ _ _ k_p0 hf hR hS hl
      · refine lv_aload_n B.1.1 B.1.2.1 dX3_advance_25 rfl (hl.at 0 rfl) ?_
        refine lv_dup B.1.1 B.1.2.1 dX3_advance_26 rfl ?_
        refine y_getI B hR k_p0 fl_X3_19 dX3_advance_27 ?_
        refine lv_iconst (v := 1) B.1.1 B.1.2.1 dX3_advance_30 (by decide) ?_
        refine lv_iadd B.1.1 B.1.2.1 dX3_advance_31 ?_
        refine y_putI B hR hS hf k_p0 fp_X3_19 dX3_advance_32 (fun S3 H locs hf hR hS => ?_)
        refine lv_goto (tgt := 0) B.1.1 B.1.2.1 dX3_advance_35 (by decide) ?_
        exact ih _ _ _ _ _ k_p0 hf hR hS hl
def f_X3_advance (T : xT) (S : xS) (p0 : Nat) : Option (xS) := f_X3_advance_0 T xfu S p0
set_option maxRecDepth 100000 in
set_option maxHeartbeats 4000000 in
theorem c_X3_advance {l : Launch} {z : Nat} {D : va_G} {dA : Nat → ClassId} {T : xT} {S : xS} {p0 : Nat} (k_p0 : xlk T p0 3 = true) {q : xS} (hf : f_X3_advance T S p0 = some q) : Met l yX3_advance (xws yX3_advance cX3_advance 1 none) xr_X3_advance (xPc z D dA T S [.ref (z + p0)]) (xQv z D dA T q) 0 0 (xA z) := by
  refine x_met RX3 (by decide) rfl (Nat.le_of_ble_eq_true rfl) ?_
  intro p e s m below meth c ls _ X hr hlk hml _ hR hS hl
  have B : xB p s m _ meth c cX3_advance RX3 1 none D dA := ⟨X, hr, hlk, hml⟩
  have hl : xL ls 1 [_] := hl
  unfold f_X3_advance at hf
  exact w_X3_advance_0 B xfu _ _ _ _ _ k_p0 hf hR hS hl
abbrev xr_X3_start : Room := { frames := 2, cells := 0, slots := 0, locals := 32 }
def f_X3_start (T : xT) (S : xS) (p0 : Nat) : Option (xS) := xpi S p0 4 ((0 : Int32)) (fun S1 => xpi S1 p0 2 ((-1 : Int32)) (fun S2 => xcv (f_X3_advance T S2 p0) (fun S3 => some S3)))
set_option maxRecDepth 100000 in
set_option maxHeartbeats 4000000 in
theorem c_X3_start {l : Launch} {z : Nat} {D : va_G} {dA : Nat → ClassId} {T : xT} {S : xS} {p0 : Nat} (k_p0 : xlk T p0 3 = true) {q : xS} (hf : f_X3_start T S p0 = some q) : Met l yX3_start (xws yX3_start cX3_start 1 none) xr_X3_start (xPc z D dA T S [.ref (z + p0)]) (xQv z D dA T q) 0 0 (xA z) := by
  refine x_met RX3 (by decide) rfl (Nat.le_of_ble_eq_true rfl) ?_
  intro p e s m below meth c ls _ X hr hlk hml _ hR hS hl
  have B : xB p s m _ meth c cX3_start RX3 1 none D dA := ⟨X, hr, hlk, hml⟩
  have hl : xL ls 1 [_] := hl
  unfold f_X3_start at hf
  refine lv_aload_n B.1.1 B.1.2.1 dX3_start_0 rfl (hl.at 0 rfl) ?_
  refine lv_iconst (v := 0) B.1.1 B.1.2.1 dX3_start_1 (by decide) ?_
  refine y_putI B hR hS hf k_p0 fp_X3_19 dX3_start_2 (fun S1 H locs hf hR hS => ?_)
  refine lv_aload_n B.1.1 B.1.2.1 dX3_start_5 rfl (hl.at 0 rfl) ?_
  refine lv_iconst (v := -1) B.1.1 B.1.2.1 dX3_start_6 (by decide) ?_
  refine y_putI B hR hS hf k_p0 fp_X3_22 dX3_start_7 (fun S2 H locs hf hR hS => ?_)
  refine lv_aload_n B.1.1 B.1.2.1 dX3_start_10 rfl (hl.at 0 rfl) ?_
  refine y_cv hf (fun q hq => x_runV (ci := 3) (C := RX3) B.1 B.2.2.2 hl hR hS cm_X3_25 ⟨rfl, rfl, Nat.le_of_ble_eq_true rfl, Nat.le_of_ble_eq_true rfl⟩ (by decide) rfl k_p0 (c_X3_advance k_p0 hq) rfl rfl (Nat.le_of_ble_eq_true rfl) dX3_start_11 ⟨Nat.le_of_ble_eq_true rfl, Nat.le_of_ble_eq_true rfl⟩) hS (fun S3 H locs hf hR hS => ?_)
  exact y_vret B hR hS hf dX3_start_14
abbrev xr_X3_isAtEnd : Room := { frames := 1, cells := 0, slots := 0, locals := 12 }
def f_X3_isAtEnd (T : xT) (S : xS) (p0 : Nat) : Option (Int32 × xS) := if (S.1 p0 6) = (0 : Int32) then some ((1 : Int32), S) else some ((0 : Int32), S)
set_option maxRecDepth 100000 in
set_option maxHeartbeats 4000000 in
theorem c_X3_isAtEnd {l : Launch} {z : Nat} {D : va_G} {dA : Nat → ClassId} {T : xT} {S : xS} {p0 : Nat} (k_p0 : xlk T p0 3 = true) {q : Int32 × xS} (hf : f_X3_isAtEnd T S p0 = some q) : Met l yX3_isAtEnd (xws yX3_isAtEnd cX3_isAtEnd 1 (some .boolean)) xr_X3_isAtEnd (xPc z D dA T S [.ref (z + p0)]) (xQi z D dA T q) 0 0 (xA z) := by
  refine x_met RX3 (by decide) rfl (Nat.le_of_ble_eq_true rfl) ?_
  intro p e s m below meth c ls _ X hr hlk hml _ hR hS hl
  have B : xB p s m _ meth c cX3_isAtEnd RX3 1 (some .boolean) D dA := ⟨X, hr, hlk, hml⟩
  have hl : xL ls 1 [_] := hl
  unfold f_X3_isAtEnd at hf
  refine lv_aload_n B.1.1 B.1.2.1 dX3_isAtEnd_0 rfl (hl.at 0 rfl) ?_
  refine y_getI B hR k_p0 fl_X3_31 dX3_isAtEnd_1 ?_
  refine y_if_ne (tgt := 11) B hf dX3_isAtEnd_4 (by decide) (fun hf => ?_) (fun hf => ?_)
  · refine lv_iconst (v := 0) B.1.1 B.1.2.1 dX3_isAtEnd_11 (by decide) ?_
    exact y_zretK B hR hS hf rfl dX3_isAtEnd_12
  · refine lv_iconst (v := 1) B.1.1 B.1.2.1 dX3_isAtEnd_7 (by decide) ?_
    refine lv_goto (tgt := 12) B.1.1 B.1.2.1 dX3_isAtEnd_8 (by decide) ?_
    exact y_zretK B hR hS hf rfl dX3_isAtEnd_12
abbrev xr_X3_isWord : Room := { frames := 5, cells := 0, slots := 0, locals := 97 }
def f_X3_isWord_28 (T : xT) : Nat → xS → Nat → Nat → Int32 → Option (Int32 × xS)
  | 0, _, _, _, _ => none
  | n + 1, S, p0, p1, p2 => xc (f_J0_length_8abf5 T S p1) (fun r2 S1 => if r2 ≤ p2 then some ((1 : Int32), S1) else xgr T S1 p0 0 20 (fun a3 => xai T S1 a3 (((S1.1 p0 5) + p2)) (fun v4 => xc (f_J0_charAt_5068e T S1 p1 p2) (fun r6 S5 => if v4 = r6 then xl (p2 + (1 : Int32)) (fun v7 => f_X3_isWord_28 T n S5 p0 p1 v7) else some ((0 : Int32), S5)))))
set_option maxRecDepth 100000 in
set_option maxHeartbeats 4000000 in
theorem w_X3_isWord_28 {p : Program} {l : Launch} {e : Env} {s : State} {m : MethodId} {args : Array Value} {below : List Frame} {meth : Method} {c : Code} {z : Nat} {D : va_G} {dA : Nat → ClassId} {T : xT} (B : xB p s m args meth c cX3_isWord RX3 3 (some .boolean) D dA) {q : Int32 × xS} : ∀ (n : Nat), ∀ (S : xS) (H : Heap) (locs : List Loc) (ls : Array Slot) (p0 : Nat) (p1 : Nat) (p2 : Int32), xlk T p0 3 = true → p1 < 22 → f_X3_isWord_28 T n S p0 p1 p2 = some q → xRel z D dA T S H → va_S (xA z) s.heap H locs → xL ls 3 [some (.ref (z + p0)), some (.ref (dA (100 + p1))), some (.int p2)] → xGi p l e xr_X3_isWord s m args below meth c z D dA T q H locs 28 ls [] := by
  intro n
  induction n with
  | zero =>
    intro S H locs ls p0 p1 p2 k_p0 k_p1 hf hR hS hl
    exact absurd hf (by simp [f_X3_isWord_28])
  | succ n ih =>
    intro S H locs ls p0 p1 p2 k_p0 k_p1 hf hR hS hl
    unfold f_X3_isWord_28 at hf
    refine lv_iload_n B.1.1 B.1.2.1 dX3_isWord_28 rfl (hl.at 2 rfl) ?_
    refine lv_aload_n B.1.1 B.1.2.1 dX3_isWord_29 rfl (hl.at 1 rfl) ?_
    refine y_ci hf (fun q hq => x_runW (C := RJ0) B.1 B.2.2.2 hl hR hS cm_X3_42 ⟨rfl, rfl, Nat.le_of_ble_eq_true rfl, Nat.le_of_ble_eq_true rfl⟩ (x_rec30 B.1 hR hS k_p1) (c_J0_length_8abf5 k_p1 hq) rfl rfl (Nat.le_of_ble_eq_true rfl) dX3_isWord_30 ⟨Nat.le_of_ble_eq_true rfl, Nat.le_of_ble_eq_true rfl⟩) hS (fun r2 S1 H locs hf hR hS => ?_)
    refine y_icmp_ge (tgt := 63) B hf dX3_isWord_33 (by decide) (fun hf => ?_) (fun hf => ?_)
    · refine lv_iconst (v := 1) B.1.1 B.1.2.1 dX3_isWord_63 (by decide) ?_
      exact y_zretK B hR hS hf rfl dX3_isWord_64
    · refine lv_aload_n B.1.1 B.1.2.1 dX3_isWord_36 rfl (hl.at 0 rfl) ?_
      refine y_getR B hR hf k_p0 fl_X3_9 dX3_isWord_37 (fun a3 k_a3 hf => ?_)
      refine lv_aload_n B.1.1 B.1.2.1 dX3_isWord_40 rfl (hl.at 0 rfl) ?_
      refine y_getI B hR k_p0 fl_X3_28 dX3_isWord_41 ?_
      refine lv_iload_n B.1.1 B.1.2.1 dX3_isWord_44 rfl (hl.at 2 rfl) ?_
      refine lv_iadd B.1.1 B.1.2.1 dX3_isWord_45 ?_
      refine y_iald B hR hf k_a3 dX3_isWord_46 (fun v4 hf => ?_)
      refine lv_aload_n B.1.1 B.1.2.1 dX3_isWord_47 rfl (hl.at 1 rfl) ?_
      refine lv_iload_n B.1.1 B.1.2.1 dX3_isWord_48 rfl (hl.at 2 rfl) ?_
      refine y_ci hf (fun q hq => x_runW (C := RJ0) B.1 B.2.2.2 hl hR hS cm_X3_47 ⟨rfl, rfl, Nat.le_of_ble_eq_true rfl, Nat.le_of_ble_eq_true rfl⟩ (x_rec30 B.1 hR hS k_p1) (c_J0_charAt_5068e k_p1 hq) rfl rfl (Nat.le_of_ble_eq_true rfl) dX3_isWord_49 ⟨Nat.le_of_ble_eq_true rfl, Nat.le_of_ble_eq_true rfl⟩) hS (fun r6 S5 H locs hf hR hS => ?_)
      refine y_icmp_eq (tgt := 57) B hf dX3_isWord_52 (by decide) (fun hf => ?_) (fun hf => ?_)
      · refine y_iinc (d := 1) B hl hf dX3_isWord_57 rfl (by decide) (by decide) rfl (fun v7 ls hf hl => ?_)
        have hl : xL ls 3 [_, _, _] := hl
        refine lv_goto (tgt := 28) B.1.1 B.1.2.1 dX3_isWord_60 (by decide) ?_
        exact ih _ _ _ _ _ _ _ k_p0 k_p1 hf hR hS hl
      · refine lv_iconst (v := 0) B.1.1 B.1.2.1 dX3_isWord_55 (by decide) ?_
        exact y_zretK B hR hS hf rfl dX3_isWord_56
def f_X3_isWord (T : xT) (S : xS) (p0 : Nat) (p1 : Nat) : Option (Int32 × xS) := if (S.1 p0 6) = (1 : Int32) then xc (f_J0_length_8abf5 T S p1) (fun r2 S1 => if ((S.1 p0 4) - (S.1 p0 5)) = r2 then xl ((0 : Int32)) (fun v3 => f_X3_isWord_28 T xfu S1 p0 p1 v3) else some ((0 : Int32), S1)) else some ((0 : Int32), S)
set_option maxRecDepth 100000 in
set_option maxHeartbeats 4000000 in
theorem c_X3_isWord {l : Launch} {z : Nat} {D : va_G} {dA : Nat → ClassId} {T : xT} {S : xS} {p0 : Nat} {p1 : Nat} (k_p0 : xlk T p0 3 = true) (k_p1 : p1 < 22) {q : Int32 × xS} (hf : f_X3_isWord T S p0 p1 = some q) : Met l yX3_isWord (xws yX3_isWord cX3_isWord 3 (some .boolean)) xr_X3_isWord (xPc z D dA T S [.ref (z + p0), .ref (dA (100 + p1))]) (xQi z D dA T q) 0 0 (xA z) := by
  refine x_met RX3 (by decide) rfl (Nat.le_of_ble_eq_true rfl) ?_
  intro p e s m below meth c ls _ X hr hlk hml _ hR hS hl
  have B : xB p s m _ meth c cX3_isWord RX3 3 (some .boolean) D dA := ⟨X, hr, hlk, hml⟩
  have hl : xL ls 3 [_, _, _] := hl
  unfold f_X3_isWord at hf
  refine lv_aload_n B.1.1 B.1.2.1 dX3_isWord_0 rfl (hl.at 0 rfl) ?_
  refine y_getI B hR k_p0 fl_X3_31 dX3_isWord_1 ?_
  refine lv_iconst (v := 1) B.1.1 B.1.2.1 dX3_isWord_4 (by decide) ?_
  refine y_icmp_ne (tgt := 24) B hf dX3_isWord_5 (by decide) (fun hf => ?_) (fun hf => ?_)
  · refine lv_iconst (v := 0) B.1.1 B.1.2.1 dX3_isWord_24 (by decide) ?_
    exact y_zretK B hR hS hf rfl dX3_isWord_25
  · refine lv_aload_n B.1.1 B.1.2.1 dX3_isWord_8 rfl (hl.at 0 rfl) ?_
    refine y_getI B hR k_p0 fl_X3_19 dX3_isWord_9 ?_
    refine lv_aload_n B.1.1 B.1.2.1 dX3_isWord_12 rfl (hl.at 0 rfl) ?_
    refine y_getI B hR k_p0 fl_X3_28 dX3_isWord_13 ?_
    refine lv_isub B.1.1 B.1.2.1 dX3_isWord_16 ?_
    refine lv_aload_n B.1.1 B.1.2.1 dX3_isWord_17 rfl (hl.at 1 rfl) ?_
    refine y_ci hf (fun q hq => x_runW (C := RJ0) B.1 B.2.2.2 hl hR hS cm_X3_42 ⟨rfl, rfl, Nat.le_of_ble_eq_true rfl, Nat.le_of_ble_eq_true rfl⟩ (x_rec30 B.1 hR hS k_p1) (c_J0_length_8abf5 k_p1 hq) rfl rfl (Nat.le_of_ble_eq_true rfl) dX3_isWord_18 ⟨Nat.le_of_ble_eq_true rfl, Nat.le_of_ble_eq_true rfl⟩) hS (fun r2 S1 H locs hf hR hS => ?_)
    refine y_icmp_eq (tgt := 26) B hf dX3_isWord_21 (by decide) (fun hf => ?_) (fun hf => ?_)
    · refine lv_iconst (v := 0) B.1.1 B.1.2.1 dX3_isWord_26 (by decide) ?_
      refine y_istore_n B hl hf dX3_isWord_27 rfl (by decide) rfl (fun v3 ls hf hl => ?_)
      have hl : xL ls 3 [_, _, _] := hl
      exact w_X3_isWord_28 B xfu _ _ _ _ _ _ _ k_p0 k_p1 hf hR hS hl
    · refine lv_iconst (v := 0) B.1.1 B.1.2.1 dX3_isWord_24 (by decide) ?_
      exact y_zretK B hR hS hf rfl dX3_isWord_25
abbrev xr_X0_actHere : Room := { frames := 6, cells := 0, slots := 0, locals := 119 }
def f_X0_actHere (T : xT) (S : xS) (p0 : Nat) : Option (Int32 × xS) := xc (f_X3_isWord T S p0 12) (fun r2 S1 => if r2 = (0 : Int32) then xc (f_X3_isWord T S1 p0 13) (fun r4 S3 => if r4 = (0 : Int32) then xc (f_X3_isWord T S3 p0 14) (fun r6 S5 => if r6 = (0 : Int32) then xc (f_X3_isWord T S5 p0 15) (fun r8 S7 => if r8 = (0 : Int32) then xc (f_X3_isWord T S7 p0 16) (fun r10 S9 => if r10 = (0 : Int32) then xc (f_X3_isWord T S9 p0 17) (fun r12 S11 => if r12 = (0 : Int32) then xc (f_X3_isWord T S11 p0 18) (fun r14 S13 => if r14 = (0 : Int32) then xc (f_X3_isWord T S13 p0 19) (fun r16 S15 => if r16 = (0 : Int32) then xc (f_X3_isWord T S15 p0 20) (fun r18 S17 => if r18 = (0 : Int32) then xc (f_X3_isWord T S17 p0 21) (fun r20 S19 => if r20 = (0 : Int32) then some ((-1 : Int32), S19) else some ((9 : Int32), S19)) else some ((8 : Int32), S17)) else some ((7 : Int32), S15)) else some ((6 : Int32), S13)) else some ((5 : Int32), S11)) else some ((4 : Int32), S9)) else some ((3 : Int32), S7)) else some ((2 : Int32), S5)) else some ((1 : Int32), S3)) else some ((0 : Int32), S1))
set_option maxRecDepth 100000 in
set_option maxHeartbeats 4000000 in
theorem c_X0_actHere {l : Launch} {z : Nat} {D : va_G} {dA : Nat → ClassId} {T : xT} {S : xS} {p0 : Nat} (k_p0 : xlk T p0 3 = true) {q : Int32 × xS} (hf : f_X0_actHere T S p0 = some q) : Met l yX0_actHere (xws yX0_actHere cX0_actHere 1 (some .int)) xr_X0_actHere (xPc z D dA T S [.ref (z + p0)]) (xQi z D dA T q) 0 0 (xA z) := by
  refine x_met RX0 (by decide) rfl (Nat.le_of_ble_eq_true rfl) ?_
  intro p e s m below meth c ls _ X hr hlk hml _ hR hS hl
  have B : xB p s m _ meth c cX0_actHere RX0 1 (some .int) D dA := ⟨X, hr, hlk, hml⟩
  have hl : xL ls 1 [_] := hl
  unfold f_X0_actHere at hf
  refine lv_aload_n B.1.1 B.1.2.1 dX0_actHere_0 rfl (hl.at 0 rfl) ?_
  refine y_ldcS B sl_12 dX0_actHere_1 ?_
  refine y_ci hf (fun q hq => x_runV (ci := 3) (C := RX3) B.1 B.2.2.2 hl hR hS cm_X0_81 ⟨rfl, rfl, Nat.le_of_ble_eq_true rfl, Nat.le_of_ble_eq_true rfl⟩ (by decide) rfl k_p0 (c_X3_isWord k_p0 (by decide) hq) rfl rfl (Nat.le_of_ble_eq_true rfl) dX0_actHere_3 ⟨Nat.le_of_ble_eq_true rfl, Nat.le_of_ble_eq_true rfl⟩) hS (fun r2 S1 H locs hf hR hS => ?_)
  refine y_if_eq (tgt := 11) B hf dX0_actHere_6 (by decide) (fun hf => ?_) (fun hf => ?_)
  · refine lv_aload_n B.1.1 B.1.2.1 dX0_actHere_11 rfl (hl.at 0 rfl) ?_
    refine y_ldcS B sl_13 dX0_actHere_12 ?_
    refine y_ci hf (fun q hq => x_runV (ci := 3) (C := RX3) B.1 B.2.2.2 hl hR hS cm_X0_81 ⟨rfl, rfl, Nat.le_of_ble_eq_true rfl, Nat.le_of_ble_eq_true rfl⟩ (by decide) rfl k_p0 (c_X3_isWord k_p0 (by decide) hq) rfl rfl (Nat.le_of_ble_eq_true rfl) dX0_actHere_14 ⟨Nat.le_of_ble_eq_true rfl, Nat.le_of_ble_eq_true rfl⟩) hS (fun r4 S3 H locs hf hR hS => ?_)
    refine y_if_eq (tgt := 22) B hf dX0_actHere_17 (by decide) (fun hf => ?_) (fun hf => ?_)
    · refine lv_aload_n B.1.1 B.1.2.1 dX0_actHere_22 rfl (hl.at 0 rfl) ?_
      refine y_ldcS B sl_14 dX0_actHere_23 ?_
      refine y_ci hf (fun q hq => x_runV (ci := 3) (C := RX3) B.1 B.2.2.2 hl hR hS cm_X0_81 ⟨rfl, rfl, Nat.le_of_ble_eq_true rfl, Nat.le_of_ble_eq_true rfl⟩ (by decide) rfl k_p0 (c_X3_isWord k_p0 (by decide) hq) rfl rfl (Nat.le_of_ble_eq_true rfl) dX0_actHere_25 ⟨Nat.le_of_ble_eq_true rfl, Nat.le_of_ble_eq_true rfl⟩) hS (fun r6 S5 H locs hf hR hS => ?_)
      refine y_if_eq (tgt := 33) B hf dX0_actHere_28 (by decide) (fun hf => ?_) (fun hf => ?_)
      · refine lv_aload_n B.1.1 B.1.2.1 dX0_actHere_33 rfl (hl.at 0 rfl) ?_
        refine y_ldcS B sl_15 dX0_actHere_34 ?_
        refine y_ci hf (fun q hq => x_runV (ci := 3) (C := RX3) B.1 B.2.2.2 hl hR hS cm_X0_81 ⟨rfl, rfl, Nat.le_of_ble_eq_true rfl, Nat.le_of_ble_eq_true rfl⟩ (by decide) rfl k_p0 (c_X3_isWord k_p0 (by decide) hq) rfl rfl (Nat.le_of_ble_eq_true rfl) dX0_actHere_36 ⟨Nat.le_of_ble_eq_true rfl, Nat.le_of_ble_eq_true rfl⟩) hS (fun r8 S7 H locs hf hR hS => ?_)
        refine y_if_eq (tgt := 44) B hf dX0_actHere_39 (by decide) (fun hf => ?_) (fun hf => ?_)
        · refine lv_aload_n B.1.1 B.1.2.1 dX0_actHere_44 rfl (hl.at 0 rfl) ?_
          refine y_ldcS B sl_16 dX0_actHere_45 ?_
          refine y_ci hf (fun q hq => x_runV (ci := 3) (C := RX3) B.1 B.2.2.2 hl hR hS cm_X0_81 ⟨rfl, rfl, Nat.le_of_ble_eq_true rfl, Nat.le_of_ble_eq_true rfl⟩ (by decide) rfl k_p0 (c_X3_isWord k_p0 (by decide) hq) rfl rfl (Nat.le_of_ble_eq_true rfl) dX0_actHere_47 ⟨Nat.le_of_ble_eq_true rfl, Nat.le_of_ble_eq_true rfl⟩) hS (fun r10 S9 H locs hf hR hS => ?_)
          refine y_if_eq (tgt := 55) B hf dX0_actHere_50 (by decide) (fun hf => ?_) (fun hf => ?_)
          · refine lv_aload_n B.1.1 B.1.2.1 dX0_actHere_55 rfl (hl.at 0 rfl) ?_
            refine y_ldcS B sl_17 dX0_actHere_56 ?_
            refine y_ci hf (fun q hq => x_runV (ci := 3) (C := RX3) B.1 B.2.2.2 hl hR hS cm_X0_81 ⟨rfl, rfl, Nat.le_of_ble_eq_true rfl, Nat.le_of_ble_eq_true rfl⟩ (by decide) rfl k_p0 (c_X3_isWord k_p0 (by decide) hq) rfl rfl (Nat.le_of_ble_eq_true rfl) dX0_actHere_58 ⟨Nat.le_of_ble_eq_true rfl, Nat.le_of_ble_eq_true rfl⟩) hS (fun r12 S11 H locs hf hR hS => ?_)
            refine y_if_eq (tgt := 66) B hf dX0_actHere_61 (by decide) (fun hf => ?_) (fun hf => ?_)
            · refine lv_aload_n B.1.1 B.1.2.1 dX0_actHere_66 rfl (hl.at 0 rfl) ?_
              refine y_ldcS B sl_18 dX0_actHere_67 ?_
              refine y_ci hf (fun q hq => x_runV (ci := 3) (C := RX3) B.1 B.2.2.2 hl hR hS cm_X0_81 ⟨rfl, rfl, Nat.le_of_ble_eq_true rfl, Nat.le_of_ble_eq_true rfl⟩ (by decide) rfl k_p0 (c_X3_isWord k_p0 (by decide) hq) rfl rfl (Nat.le_of_ble_eq_true rfl) dX0_actHere_69 ⟨Nat.le_of_ble_eq_true rfl, Nat.le_of_ble_eq_true rfl⟩) hS (fun r14 S13 H locs hf hR hS => ?_)
              refine y_if_eq (tgt := 78) B hf dX0_actHere_72 (by decide) (fun hf => ?_) (fun hf => ?_)
              · refine lv_aload_n B.1.1 B.1.2.1 dX0_actHere_78 rfl (hl.at 0 rfl) ?_
                refine y_ldcS B sl_19 dX0_actHere_79 ?_
                refine y_ci hf (fun q hq => x_runV (ci := 3) (C := RX3) B.1 B.2.2.2 hl hR hS cm_X0_81 ⟨rfl, rfl, Nat.le_of_ble_eq_true rfl, Nat.le_of_ble_eq_true rfl⟩ (by decide) rfl k_p0 (c_X3_isWord k_p0 (by decide) hq) rfl rfl (Nat.le_of_ble_eq_true rfl) dX0_actHere_81 ⟨Nat.le_of_ble_eq_true rfl, Nat.le_of_ble_eq_true rfl⟩) hS (fun r16 S15 H locs hf hR hS => ?_)
                refine y_if_eq (tgt := 90) B hf dX0_actHere_84 (by decide) (fun hf => ?_) (fun hf => ?_)
                · refine lv_aload_n B.1.1 B.1.2.1 dX0_actHere_90 rfl (hl.at 0 rfl) ?_
                  refine y_ldcS B sl_20 dX0_actHere_91 ?_
                  refine y_ci hf (fun q hq => x_runV (ci := 3) (C := RX3) B.1 B.2.2.2 hl hR hS cm_X0_81 ⟨rfl, rfl, Nat.le_of_ble_eq_true rfl, Nat.le_of_ble_eq_true rfl⟩ (by decide) rfl k_p0 (c_X3_isWord k_p0 (by decide) hq) rfl rfl (Nat.le_of_ble_eq_true rfl) dX0_actHere_93 ⟨Nat.le_of_ble_eq_true rfl, Nat.le_of_ble_eq_true rfl⟩) hS (fun r18 S17 H locs hf hR hS => ?_)
                  refine y_if_eq (tgt := 102) B hf dX0_actHere_96 (by decide) (fun hf => ?_) (fun hf => ?_)
                  · refine lv_aload_n B.1.1 B.1.2.1 dX0_actHere_102 rfl (hl.at 0 rfl) ?_
                    refine y_ldcS B sl_21 dX0_actHere_103 ?_
                    refine y_ci hf (fun q hq => x_runV (ci := 3) (C := RX3) B.1 B.2.2.2 hl hR hS cm_X0_81 ⟨rfl, rfl, Nat.le_of_ble_eq_true rfl, Nat.le_of_ble_eq_true rfl⟩ (by decide) rfl k_p0 (c_X3_isWord k_p0 (by decide) hq) rfl rfl (Nat.le_of_ble_eq_true rfl) dX0_actHere_105 ⟨Nat.le_of_ble_eq_true rfl, Nat.le_of_ble_eq_true rfl⟩) hS (fun r20 S19 H locs hf hR hS => ?_)
                    refine y_if_eq (tgt := 116) B hf dX0_actHere_108 (by decide) (fun hf => ?_) (fun hf => ?_)
                    · refine lv_iconst (v := -1) B.1.1 B.1.2.1 dX0_actHere_116 (by decide) ?_
                      exact y_iret B hR hS hf dX0_actHere_117
                    · refine lv_bipush (v := 9) B.1.1 B.1.2.1 dX0_actHere_111 (by decide) ?_
                      refine lv_goto (tgt := 117) B.1.1 B.1.2.1 dX0_actHere_113 (by decide) ?_
                      exact y_iret B hR hS hf dX0_actHere_117
                  · refine lv_bipush (v := 8) B.1.1 B.1.2.1 dX0_actHere_99 (by decide) ?_
                    exact y_iret B hR hS hf dX0_actHere_101
                · refine lv_bipush (v := 7) B.1.1 B.1.2.1 dX0_actHere_87 (by decide) ?_
                  exact y_iret B hR hS hf dX0_actHere_89
              · refine lv_bipush (v := 6) B.1.1 B.1.2.1 dX0_actHere_75 (by decide) ?_
                exact y_iret B hR hS hf dX0_actHere_77
            · refine lv_iconst (v := 5) B.1.1 B.1.2.1 dX0_actHere_64 (by decide) ?_
              exact y_iret B hR hS hf dX0_actHere_65
          · refine lv_iconst (v := 4) B.1.1 B.1.2.1 dX0_actHere_53 (by decide) ?_
            exact y_iret B hR hS hf dX0_actHere_54
        · refine lv_iconst (v := 3) B.1.1 B.1.2.1 dX0_actHere_42 (by decide) ?_
          exact y_iret B hR hS hf dX0_actHere_43
      · refine lv_iconst (v := 2) B.1.1 B.1.2.1 dX0_actHere_31 (by decide) ?_
        exact y_iret B hR hS hf dX0_actHere_32
    · refine lv_iconst (v := 1) B.1.1 B.1.2.1 dX0_actHere_20 (by decide) ?_
      exact y_iret B hR hS hf dX0_actHere_21
  · refine lv_iconst (v := 0) B.1.1 B.1.2.1 dX0_actHere_9 (by decide) ?_
    exact y_iret B hR hS hf dX0_actHere_10
abbrev xr_X3_refuse : Room := { frames := 1, cells := 0, slots := 0, locals := 12 }
def f_X3_refuse (T : xT) (S : xS) (p0 : Nat) : Option (Int32 × xS) := xpi S p0 2 ((S.1 p0 5)) (fun S1 => some ((0 : Int32), S1))
set_option maxRecDepth 100000 in
set_option maxHeartbeats 4000000 in
theorem c_X3_refuse {l : Launch} {z : Nat} {D : va_G} {dA : Nat → ClassId} {T : xT} {S : xS} {p0 : Nat} (k_p0 : xlk T p0 3 = true) {q : Int32 × xS} (hf : f_X3_refuse T S p0 = some q) : Met l yX3_refuse (xws yX3_refuse cX3_refuse 1 (some .boolean)) xr_X3_refuse (xPc z D dA T S [.ref (z + p0)]) (xQi z D dA T q) 0 0 (xA z) := by
  refine x_met RX3 (by decide) rfl (Nat.le_of_ble_eq_true rfl) ?_
  intro p e s m below meth c ls _ X hr hlk hml _ hR hS hl
  have B : xB p s m _ meth c cX3_refuse RX3 1 (some .boolean) D dA := ⟨X, hr, hlk, hml⟩
  have hl : xL ls 1 [_] := hl
  unfold f_X3_refuse at hf
  refine lv_aload_n B.1.1 B.1.2.1 dX3_refuse_0 rfl (hl.at 0 rfl) ?_
  refine lv_aload_n B.1.1 B.1.2.1 dX3_refuse_1 rfl (hl.at 0 rfl) ?_
  refine y_getI B hR k_p0 fl_X3_28 dX3_refuse_2 ?_
  refine y_putI B hR hS hf k_p0 fp_X3_22 dX3_refuse_5 (fun S1 H locs hf hR hS => ?_)
  refine lv_iconst (v := 0) B.1.1 B.1.2.1 dX3_refuse_8 (by decide) ?_
  exact y_zretK B hR hS hf rfl dX3_refuse_9
