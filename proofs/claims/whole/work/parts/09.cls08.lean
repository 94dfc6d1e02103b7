abbrev xr_X6_addSign : Room := { frames := 1, cells := 0, slots := 0, locals := 12 }
def f_X6_addSign (T : xT) (S : xS) (p0 : Nat) (p1 : Int32) : Option (xS) := if (400 : Int32) ≤ (S.1 p0 0) then some S else xgr T S p0 1 20 (fun a1 => xst T S a1 ((S.1 p0 0)) p1 (fun S2 => xpi S2 p0 0 (((S2.1 p0 0) + (1 : Int32))) (fun S3 => some S3)))
set_option maxRecDepth 100000 in
set_option maxHeartbeats 4000000 in
theorem c_X6_addSign {l : Launch} {z : Nat} {D : va_G} {dA : Nat → ClassId} {T : xT} {S : xS} {p0 : Nat} {p1 : Int32} (k_p0 : xlk T p0 6 = true) {q : xS} (hf : f_X6_addSign T S p0 p1 = some q) : Met l yX6_addSign (xws yX6_addSign cX6_addSign 2 none) xr_X6_addSign (xPc z D dA T S [.ref (z + p0), .int p1]) (xQv z D dA T q) 0 0 (xA z) := by
  refine x_met RX6 (by decide) rfl (Nat.le_of_ble_eq_true rfl) ?_
  intro p e s m below meth c ls _ X hr hlk hml _ hR hS hl
  have B : xB p s m _ meth c cX6_addSign RX6 2 none D dA := ⟨X, hr, hlk, hml⟩
  have hl : xL ls 2 [_, _] := hl
  unfold f_X6_addSign at hf
  refine lv_aload_n B.1.1 B.1.2.1 dX6_addSign_0 rfl (hl.at 0 rfl) ?_
  refine y_getI B hR k_p0 fl_X6_13 dX6_addSign_1 ?_
  refine lv_sipush (v := 400) B.1.1 B.1.2.1 dX6_addSign_4 (by decide) ?_
  refine y_icmp_ge (tgt := 30) B hf dX6_addSign_7 (by decide) (fun hf => ?_) (fun hf => ?_)
  · exact y_vret B hR hS hf dX6_addSign_30
  · refine lv_aload_n B.1.1 B.1.2.1 dX6_addSign_10 rfl (hl.at 0 rfl) ?_
    refine y_getR B hR hf k_p0 fl_X6_9 dX6_addSign_11 (fun a1 k_a1 hf => ?_)
    refine lv_aload_n B.1.1 B.1.2.1 dX6_addSign_14 rfl (hl.at 0 rfl) ?_
    refine y_getI B hR k_p0 fl_X6_13 dX6_addSign_15 ?_
    refine lv_iload_n B.1.1 B.1.2.1 dX6_addSign_18 rfl (hl.at 1 rfl) ?_
    refine y_iast B hR hS hf k_a1 dX6_addSign_19 (fun S2 H locs hf hR hS => ?_)
    refine lv_aload_n B.1.1 B.1.2.1 dX6_addSign_20 rfl (hl.at 0 rfl) ?_
    refine lv_dup B.1.1 B.1.2.1 dX6_addSign_21 rfl ?_
    refine y_getI B hR k_p0 fl_X6_13 dX6_addSign_22 ?_
    refine lv_iconst (v := 1) B.1.1 B.1.2.1 dX6_addSign_25 (by decide) ?_
    refine lv_iadd B.1.1 B.1.2.1 dX6_addSign_26 ?_
    refine y_putI B hR hS hf k_p0 fp_X6_13 dX6_addSign_27 (fun S3 H locs hf hR hS => ?_)
    exact y_vret B hR hS hf dX6_addSign_30
abbrev xr_X6_addNumber : Room := { frames := 2, cells := 0, slots := 0, locals := 37 }
def f_X6_addNumber_57 (T : xT) : Nat → xS → Nat → Int64 → Int64 → Int32 → Option (xS)
  | 0, _, _, _, _, _ => none
  | n + 1, S, p0, p2, p4, p6 => if (10 : Int32) < p6 then some S else if (lg_cmp p4 ((0 : Int64))) ≤ (0 : Int32) then some S else xgd (xm0 p4) (xgd (xm0 (10 : Int64)) (xcv (f_X6_addSign T S p0 ((((((48 : Int64) + ((p2 / p4) - (p2 / p4) / (10 : Int64) * (10 : Int64)))).toInt32).toUInt32 % 65536).toInt32)) (fun S1 => xgd (xm0 (10 : Int64)) (xl ((p4 / (10 : Int64))) (fun v2 => xl (p6 + (1 : Int32)) (fun v3 => f_X6_addNumber_57 T n S1 p0 p2 v2 v3))))))
set_option maxRecDepth 100000 in
set_option maxHeartbeats 4000000 in
theorem w_X6_addNumber_57 {p : Program} {l : Launch} {e : Env} {s : State} {m : MethodId} {args : Array Value} {below : List Frame} {meth : Method} {c : Code} {z : Nat} {D : va_G} {dA : Nat → ClassId} {T : xT} (B : xB p s m args meth c cX6_addNumber RX6 7 none D dA) {q : xS} : ∀ (n : Nat), ∀ (S : xS) (H : Heap) (locs : List Loc) (ls : Array Slot) (p0 : Nat) (p2 : Int64) (p4 : Int64) (p6 : Int32), xlk T p0 6 = true → f_X6_addNumber_57 T n S p0 p2 p4 p6 = some q → xRel z D dA T S H → va_S (xA z) s.heap H locs → xL ls 7 [some (.ref (z + p0)), none, some (.long p2), none, some (.long p4), none, some (.int p6)] → xGv p l e xr_X6_addNumber s m args below meth c z D dA T q H locs 57 ls [] := by
  intro n
  induction n with
  | zero =>
    intro S H locs ls p0 p2 p4 p6 k_p0 hf hR hS hl
    exact absurd hf (by simp [f_X6_addNumber_57])
  | succ n ih =>
    intro S H locs ls p0 p2 p4 p6 k_p0 hf hR hS hl
    unfold f_X6_addNumber_57 at hf
    refine lv_iload B.1.1 B.1.2.1 dX6_addNumber_57 (hl.at 6 rfl) ?_
    refine lv_bipush (v := 10) B.1.1 B.1.2.1 dX6_addNumber_59 (by decide) ?_
    refine y_icmp_gt (tgt := 103) B hf dX6_addNumber_61 (by decide) (fun hf => ?_) (fun hf => ?_)
    · exact y_vret B hR hS hf dX6_addNumber_103
    · refine lv_lload B.1.1 B.1.2.1 dX6_addNumber_64 (hl.at 4 rfl) ?_
      refine lv_lconst (v := 0) B.1.1 B.1.2.1 dX6_addNumber_66 (by decide) ?_
      refine W.lcmp B.1.1 B.1.2.1 dX6_addNumber_67 ?_
      refine y_if_le (tgt := 103) B hf dX6_addNumber_68 (by decide) (fun hf => ?_) (fun hf => ?_)
      · exact y_vret B hR hS hf dX6_addNumber_103
      · refine lv_aload_n B.1.1 B.1.2.1 dX6_addNumber_71 rfl (hl.at 0 rfl) ?_
        refine lv_ldc2 (v := 48) B.1.1 B.1.2.1 B.1.2.2.1 (B.1.2.2.2.1 _ tw_1044) dX6_addNumber_72 ?_
        refine lv_lload_n B.1.1 B.1.2.1 dX6_addNumber_75 rfl (hl.at 2 rfl) ?_
        refine lv_lload B.1.1 B.1.2.1 dX6_addNumber_76 (hl.at 4 rfl) ?_
        refine y_ldiv B hf dX6_addNumber_78 (fun hf => ?_)
        refine lv_ldc2 (v := 10) B.1.1 B.1.2.1 B.1.2.2.1 (B.1.2.2.2.1 _ tw_1043) dX6_addNumber_79 ?_
        refine y_lrem B hf dX6_addNumber_82 (fun hf => ?_)
        refine lv_ladd B.1.1 B.1.2.1 dX6_addNumber_83 ?_
        refine lv_l2i B.1.1 B.1.2.1 dX6_addNumber_84 rfl ?_
        refine lv_i2c B.1.1 B.1.2.1 dX6_addNumber_85 rfl ?_
        refine y_cv hf (fun q hq => x_runV (ci := 6) (C := RX6) B.1 B.2.2.2 hl hR hS cm_X6_23 ⟨rfl, rfl, Nat.le_of_ble_eq_true rfl, Nat.le_of_ble_eq_true rfl⟩ (by decide) rfl k_p0 (c_X6_addSign k_p0 hq) rfl rfl (Nat.le_of_ble_eq_true rfl) dX6_addNumber_86 ⟨Nat.le_of_ble_eq_true rfl, Nat.le_of_ble_eq_true rfl⟩) hS (fun S1 H locs hf hR hS => ?_)
        refine lv_lload B.1.1 B.1.2.1 dX6_addNumber_89 (hl.at 4 rfl) ?_
        refine lv_ldc2 (v := 10) B.1.1 B.1.2.1 B.1.2.2.1 (B.1.2.2.2.1 _ tw_1043) dX6_addNumber_91 ?_
        refine y_ldiv B hf dX6_addNumber_94 (fun hf => ?_)
        refine y_lstore B hl hf dX6_addNumber_95 (by decide) rfl (fun v2 ls hf hl => ?_)
        have hl : xL ls 7 [_, _, _, _, _, _, _] := hl
        refine y_iinc (d := 1) B hl hf dX6_addNumber_97 rfl (by decide) (by decide) rfl (fun v3 ls hf hl => ?_)
        have hl : xL ls 7 [_, _, _, _, _, _, _] := hl
        refine lv_goto (tgt := 57) B.1.1 B.1.2.1 dX6_addNumber_100 (by decide) ?_
        exact ih _ _ _ _ _ _ _ _ k_p0 hf hR hS hl
def f_X6_addNumber_22 (T : xT) : Nat → xS → Nat → Int64 → Int64 → Int32 → Option (xS)
  | 0, _, _, _, _, _ => none
  | n + 1, S, p0, p2, p4, p6 => if (10 : Int32) ≤ p6 then xl ((0 : Int32)) (fun v1 => f_X6_addNumber_57 T xfu S p0 p2 p4 v1) else if (0 : Int32) < (lg_cmp ((p4 * (10 : Int64))) p2) then xl ((0 : Int32)) (fun v2 => f_X6_addNumber_57 T xfu S p0 p2 p4 v2) else xl ((p4 * (10 : Int64))) (fun v3 => xl (p6 + (1 : Int32)) (fun v4 => f_X6_addNumber_22 T n S p0 p2 v3 v4))
set_option maxRecDepth 100000 in
set_option maxHeartbeats 4000000 in
theorem w_X6_addNumber_22 {p : Program} {l : Launch} {e : Env} {s : State} {m : MethodId} {args : Array Value} {below : List Frame} {meth : Method} {c : Code} {z : Nat} {D : va_G} {dA : Nat → ClassId} {T : xT} (B : xB p s m args meth c cX6_addNumber RX6 7 none D dA) {q : xS} : ∀ (n : Nat), ∀ (S : xS) (H : Heap) (locs : List Loc) (ls : Array Slot) (p0 : Nat) (p2 : Int64) (p4 : Int64) (p6 : Int32), xlk T p0 6 = true → f_X6_addNumber_22 T n S p0 p2 p4 p6 = some q → xRel z D dA T S H → va_S (xA z) s.heap H locs → xL ls 7 [some (.ref (z + p0)), none, some (.long p2), none, some (.long p4), none, some (.int p6)] → xGv p l e xr_X6_addNumber s m args below meth c z D dA T q H locs 22 ls [] := by
  intro n
  induction n with
  | zero =>
    intro S H locs ls p0 p2 p4 p6 k_p0 hf hR hS hl
    exact absurd hf (by simp [f_X6_addNumber_22])
  | succ n ih =>
    intro S H locs ls p0 p2 p4 p6 k_p0 hf hR hS hl
    unfold f_X6_addNumber_22 at hf
    refine lv_iload B.1.1 B.1.2.1 dX6_addNumber_22 (hl.at 6 rfl) ?_
    refine lv_bipush (v := 10) B.1.1 B.1.2.1 dX6_addNumber_24 (by decide) ?_
    refine y_icmp_ge (tgt := 54) B hf dX6_addNumber_26 (by decide) (fun hf => ?_) (fun hf => ?_)
    · refine lv_iconst (v := 0) B.1.1 B.1.2.1 dX6_addNumber_54 (by decide) ?_
      refine y_istore B hl hf dX6_addNumber_55 (by decide) rfl (fun v1 ls hf hl => ?_)
      have hl : xL ls 7 [_, _, _, _, _, _, _] := hl
      exact w_X6_addNumber_57 B xfu _ _ _ _ _ _ _ _ k_p0 hf hR hS hl
    · refine lv_lload B.1.1 B.1.2.1 dX6_addNumber_29 (hl.at 4 rfl) ?_
      refine lv_ldc2 (v := 10) B.1.1 B.1.2.1 B.1.2.2.1 (B.1.2.2.2.1 _ tw_1043) dX6_addNumber_31 ?_
      refine lv_lmul B.1.1 B.1.2.1 dX6_addNumber_34 ?_
      refine lv_lload_n B.1.1 B.1.2.1 dX6_addNumber_35 rfl (hl.at 2 rfl) ?_
      refine W.lcmp B.1.1 B.1.2.1 dX6_addNumber_36 ?_
      refine y_if_gt (tgt := 54) B hf dX6_addNumber_37 (by decide) (fun hf => ?_) (fun hf => ?_)
      · refine lv_iconst (v := 0) B.1.1 B.1.2.1 dX6_addNumber_54 (by decide) ?_
        refine y_istore B hl hf dX6_addNumber_55 (by decide) rfl (fun v2 ls hf hl => ?_)
        have hl : xL ls 7 [_, _, _, _, _, _, _] := hl
        exact w_X6_addNumber_57 B xfu _ _ _ _ _ _ _ _ k_p0 hf hR hS hl
      · refine lv_lload B.1.1 B.1.2.1 dX6_addNumber_40 (hl.at 4 rfl) ?_
        refine lv_ldc2 (v := 10) B.1.1 B.1.2.1 B.1.2.2.1 (B.1.2.2.2.1 _ tw_1043) dX6_addNumber_42 ?_
        refine lv_lmul B.1.1 B.1.2.1 dX6_addNumber_45 ?_
        refine y_lstore B hl hf dX6_addNumber_46 (by decide) rfl (fun v3 ls hf hl => ?_)
        have hl : xL ls 7 [_, _, _, _, _, _, _] := hl
        refine y_iinc (d := 1) B hl hf dX6_addNumber_48 rfl (by decide) (by decide) rfl (fun v4 ls hf hl => ?_)
        have hl : xL ls 7 [_, _, _, _, _, _, _] := hl
        refine lv_goto (tgt := 22) B.1.1 B.1.2.1 dX6_addNumber_51 (by decide) ?_
        exact ih _ _ _ _ _ _ _ _ k_p0 hf hR hS hl
def f_X6_addNumber (T : xT) (S : xS) (p0 : Nat) (p1 : Int32) : Option (xS) := xl ((xabsl ((p1).toInt64))) (fun v1 => if (0 : Int32) ≤ p1 then xl ((1 : Int64)) (fun v2 => xl ((0 : Int32)) (fun v3 => f_X6_addNumber_22 T xfu S p0 v1 v2 v3)) else xcv (f_X6_addSign T S p0 ((45 : Int32))) (fun S4 => xl ((1 : Int64)) (fun v5 => xl ((0 : Int32)) (fun v6 => f_X6_addNumber_22 T xfu S4 p0 v1 v5 v6))))
set_option maxRecDepth 100000 in
set_option maxHeartbeats 4000000 in
theorem c_X6_addNumber {l : Launch} {z : Nat} {D : va_G} {dA : Nat → ClassId} {T : xT} {S : xS} {p0 : Nat} {p1 : Int32} (k_p0 : xlk T p0 6 = true) {q : xS} (hf : f_X6_addNumber T S p0 p1 = some q) : Met l yX6_addNumber (xws yX6_addNumber cX6_addNumber 7 none) xr_X6_addNumber (xPc z D dA T S [.ref (z + p0), .int p1]) (xQv z D dA T q) 0 0 (xA z) := by
  refine x_met RX6 (by decide) rfl (Nat.le_of_ble_eq_true rfl) ?_
  intro p e s m below meth c ls _ X hr hlk hml _ hR hS hl
  have B : xB p s m _ meth c cX6_addNumber RX6 7 none D dA := ⟨X, hr, hlk, hml⟩
  have hl : xL ls 7 [_, _, _, _, _, _, _] := hl
  unfold f_X6_addNumber at hf
  refine lv_iload_n B.1.1 B.1.2.1 dX6_addNumber_0 rfl (hl.at 1 rfl) ?_
  refine lv_i2l B.1.1 B.1.2.1 dX6_addNumber_1 rfl ?_
  refine y_mabsL B hl ma_X6_17 ⟨Nat.le_of_ble_eq_true rfl, Nat.le_of_ble_eq_true rfl⟩ ⟨Nat.le_of_ble_eq_true rfl, Nat.le_of_ble_eq_true rfl⟩ dX6_addNumber_2 ?_
  refine y_lstore_n B hl hf dX6_addNumber_5 rfl (by decide) rfl (fun v1 ls hf hl => ?_)
  have hl : xL ls 7 [_, _, _, _, _, _, _] := hl
  refine lv_iload_n B.1.1 B.1.2.1 dX6_addNumber_6 rfl (hl.at 1 rfl) ?_
  refine y_if_ge (tgt := 16) B hf dX6_addNumber_7 (by decide) (fun hf => ?_) (fun hf => ?_)
  · refine lv_lconst (v := 1) B.1.1 B.1.2.1 dX6_addNumber_16 (by decide) ?_
    refine y_lstore B hl hf dX6_addNumber_17 (by decide) rfl (fun v2 ls hf hl => ?_)
    have hl : xL ls 7 [_, _, _, _, _, _, _] := hl
    refine lv_iconst (v := 0) B.1.1 B.1.2.1 dX6_addNumber_19 (by decide) ?_
    refine y_istore B hl hf dX6_addNumber_20 (by decide) rfl (fun v3 ls hf hl => ?_)
    have hl : xL ls 7 [_, _, _, _, _, _, _] := hl
    exact w_X6_addNumber_22 B xfu _ _ _ _ _ _ _ _ k_p0 hf hR hS (hl.drop [true, false, true, false, true, false, true] rfl)
  · refine lv_aload_n B.1.1 B.1.2.1 dX6_addNumber_10 rfl (hl.at 0 rfl) ?_
    refine lv_bipush (v := 45) B.1.1 B.1.2.1 dX6_addNumber_11 (by decide) ?_
    refine y_cv hf (fun q hq => x_runV (ci := 6) (C := RX6) B.1 B.2.2.2 hl hR hS cm_X6_23 ⟨rfl, rfl, Nat.le_of_ble_eq_true rfl, Nat.le_of_ble_eq_true rfl⟩ (by decide) rfl k_p0 (c_X6_addSign k_p0 hq) rfl rfl (Nat.le_of_ble_eq_true rfl) dX6_addNumber_13 ⟨Nat.le_of_ble_eq_true rfl, Nat.le_of_ble_eq_true rfl⟩) hS (fun S4 H locs hf hR hS => ?_)
    refine lv_lconst (v := 1) B.1.1 B.1.2.1 dX6_addNumber_16 (by decide) ?_
    refine y_lstore B hl hf dX6_addNumber_17 (by decide) rfl (fun v5 ls hf hl => ?_)
    have hl : xL ls 7 [_, _, _, _, _, _, _] := hl
    refine lv_iconst (v := 0) B.1.1 B.1.2.1 dX6_addNumber_19 (by decide) ?_
    refine y_istore B hl hf dX6_addNumber_20 (by decide) rfl (fun v6 ls hf hl => ?_)
    have hl : xL ls 7 [_, _, _, _, _, _, _] := hl
    exact w_X6_addNumber_22 B xfu _ _ _ _ _ _ _ _ k_p0 hf hR hS (hl.drop [true, false, true, false, true, false, true] rfl)
abbrev xr_X7_totalOf : Room := { frames := 1, cells := 0, slots := 0, locals := 12 }
def f_X7_totalOf_4 (T : xT) : Nat → xS → Nat → Int32 → Int32 → Int32 → Option (Int32 × xS)
  | 0, _, _, _, _, _ => none
  | n + 1, S, p0, p1, p2, p3 => if (8 : Int32) ≤ p3 then some (p2, S) else xgr T S p0 2 20 (fun a1 => xai T S a1 (((p1 * (8 : Int32)) + p3)) (fun v2 => xl ((p2 + v2)) (fun v3 => xl (p3 + (1 : Int32)) (fun v4 => f_X7_totalOf_4 T n S p0 p1 v3 v4))))
set_option maxRecDepth 100000 in
set_option maxHeartbeats 4000000 in
theorem w_X7_totalOf_4 {p : Program} {l : Launch} {e : Env} {s : State} {m : MethodId} {args : Array Value} {below : List Frame} {meth : Method} {c : Code} {z : Nat} {D : va_G} {dA : Nat → ClassId} {T : xT} (B : xB p s m args meth c cX7_totalOf RX7 4 (some .int) D dA) {q : Int32 × xS} : ∀ (n : Nat), ∀ (S : xS) (H : Heap) (locs : List Loc) (ls : Array Slot) (p0 : Nat) (p1 : Int32) (p2 : Int32) (p3 : Int32), xlk T p0 7 = true → f_X7_totalOf_4 T n S p0 p1 p2 p3 = some q → xRel z D dA T S H → va_S (xA z) s.heap H locs → xL ls 4 [some (.ref (z + p0)), some (.int p1), some (.int p2), some (.int p3)] → xGi p l e xr_X7_totalOf s m args below meth c z D dA T q H locs 4 ls [] := by
  intro n
  induction n with
  | zero =>
    intro S H locs ls p0 p1 p2 p3 k_p0 hf hR hS hl
    exact absurd hf (by simp [f_X7_totalOf_4])
  | succ n ih =>
    intro S H locs ls p0 p1 p2 p3 k_p0 hf hR hS hl
    unfold f_X7_totalOf_4 at hf
    refine lv_iload_n B.1.1 B.1.2.1 dX7_totalOf_4 rfl (hl.at 3 rfl) ?_
    refine lv_bipush (v := 8) B.1.1 B.1.2.1 dX7_totalOf_5 (by decide) ?_
    refine y_icmp_ge (tgt := 30) B hf dX7_totalOf_7 (by decide) (fun hf => ?_) (fun hf => ?_)
    · refine lv_iload_n B.1.1 B.1.2.1 dX7_totalOf_30 rfl (hl.at 2 rfl) ?_
      exact y_iret B hR hS hf dX7_totalOf_31
    · refine lv_iload_n B.1.1 B.1.2.1 dX7_totalOf_10 rfl (hl.at 2 rfl) ?_
      refine lv_aload_n B.1.1 B.1.2.1 dX7_totalOf_11 rfl (hl.at 0 rfl) ?_
      refine y_getR B hR hf k_p0 fl_X7_9 dX7_totalOf_12 (fun a1 k_a1 hf => ?_)
      refine lv_iload_n B.1.1 B.1.2.1 dX7_totalOf_15 rfl (hl.at 1 rfl) ?_
      refine lv_bipush (v := 8) B.1.1 B.1.2.1 dX7_totalOf_16 (by decide) ?_
      refine lv_imul B.1.1 B.1.2.1 dX7_totalOf_18 ?_
      refine lv_iload_n B.1.1 B.1.2.1 dX7_totalOf_19 rfl (hl.at 3 rfl) ?_
      refine lv_iadd B.1.1 B.1.2.1 dX7_totalOf_20 ?_
      refine y_iald B hR hf k_a1 dX7_totalOf_21 (fun v2 hf => ?_)
      refine lv_iadd B.1.1 B.1.2.1 dX7_totalOf_22 ?_
      refine y_istore_n B hl hf dX7_totalOf_23 rfl (by decide) rfl (fun v3 ls hf hl => ?_)
      have hl : xL ls 4 [_, _, _, _] := hl
      refine y_iinc (d := 1) B hl hf dX7_totalOf_24 rfl (by decide) (by decide) rfl (fun v4 ls hf hl => ?_)
      have hl : xL ls 4 [_, _, _, _] := hl
      refine lv_goto (tgt := 4) B.1.1 B.1.2.1 dX7_totalOf_27 (by decide) ?_
      exact ih _ _ _ _ _ _ _ _ k_p0 hf hR hS hl
def f_X7_totalOf (T : xT) (S : xS) (p0 : Nat) (p1 : Int32) : Option (Int32 × xS) := xl ((0 : Int32)) (fun v1 => xl ((0 : Int32)) (fun v2 => f_X7_totalOf_4 T xfu S p0 p1 v1 v2))
set_option maxRecDepth 100000 in
set_option maxHeartbeats 4000000 in
theorem c_X7_totalOf {l : Launch} {z : Nat} {D : va_G} {dA : Nat → ClassId} {T : xT} {S : xS} {p0 : Nat} {p1 : Int32} (k_p0 : xlk T p0 7 = true) {q : Int32 × xS} (hf : f_X7_totalOf T S p0 p1 = some q) : Met l yX7_totalOf (xws yX7_totalOf cX7_totalOf 4 (some .int)) xr_X7_totalOf (xPc z D dA T S [.ref (z + p0), .int p1]) (xQi z D dA T q) 0 0 (xA z) := by
  refine x_met RX7 (by decide) rfl (Nat.le_of_ble_eq_true rfl) ?_
  intro p e s m below meth c ls _ X hr hlk hml _ hR hS hl
  have B : xB p s m _ meth c cX7_totalOf RX7 4 (some .int) D dA := ⟨X, hr, hlk, hml⟩
  have hl : xL ls 4 [_, _, _, _] := hl
  unfold f_X7_totalOf at hf
  refine lv_iconst (v := 0) B.1.1 B.1.2.1 dX7_totalOf_0 (by decide) ?_
  refine y_istore_n B hl hf dX7_totalOf_1 rfl (by decide) rfl (fun v1 ls hf hl => ?_)
  have hl : xL ls 4 [_, _, _, _] := hl
  refine lv_iconst (v := 0) B.1.1 B.1.2.1 dX7_totalOf_2 (by decide) ?_
  refine y_istore_n B hl hf dX7_totalOf_3 rfl (by decide) rfl (fun v2 ls hf hl => ?_)
  have hl : xL ls 4 [_, _, _, _] := hl
  exact w_X7_totalOf_4 B xfu _ _ _ _ _ _ _ _ k_p0 hf hR hS hl
abbrev xr_X8_readGives : Room := { frames := 7, cells := 0, slots := 0, locals := 140 }
def f_X8_readGives_32 (T : xT) : Nat → xS → Nat → Nat → Int32 → Int32 → Option (Int32 × xS)
  | 0, _, _, _, _, _ => none
  | n + 1, S, p0, p1, p3, p4 => if (8 : Int32) ≤ p4 then xc (f_X3_refuse T S p1) (fun r2 S1 => xgd (xnz r2) (some (r2, S1))) else xc (f_X3_partnerHere T S p1) (fun r4 S3 => xl r4 (fun v5 => if v5 = (-1 : Int32) then xc (f_X3_refuse T S3 p1) (fun r7 S6 => xgd (xnz r7) (some (r7, S6))) else xgr T S3 p0 2 20 (fun a8 => xai T S3 a8 ((p3 + v5)) (fun v9 => if v9 = (0 : Int32) then xcv (f_X3_advance T S3 p1) (fun S10 => xc (f_X3_needNumber T S10 p1 ((1 : Int32)) ((99 : Int32))) (fun r12 S11 => xl r12 (fun v13 => if v13 = (-1 : Int32) then some ((0 : Int32), S11) else xgr T S11 p0 2 20 (fun a14 => xst T S11 a14 ((p3 + v5)) v13 (fun S15 => xc (f_X3_isSign T S15 p1 ((43 : Int32))) (fun r17 S16 => if r17 = (0 : Int32) then xc (f_X3_needSign T S16 p1 ((59 : Int32))) (fun r21 S20 => xgd (xnz r21) (some (r21, S20))) else xcv (f_X3_advance T S16 p1) (fun S18 => xl (p4 + (1 : Int32)) (fun v19 => f_X8_readGives_32 T n S18 p0 p1 p3 v19)))))))) else xc (f_X3_refuse T S3 p1) (fun r23 S22 => xgd (xnz r23) (some (r23, S22)))))))
set_option maxRecDepth 100000 in
set_option maxHeartbeats 4000000 in
theorem w_X8_readGives_32 {p : Program} {l : Launch} {e : Env} {s : State} {m : MethodId} {args : Array Value} {below : List Frame} {meth : Method} {c : Code} {z : Nat} {D : va_G} {dA : Nat → ClassId} {T : xT} (B : xB p s m args meth c cX8_readGives RX8 7 (some .boolean) D dA) {q : Int32 × xS} : ∀ (n : Nat), ∀ (S : xS) (H : Heap) (locs : List Loc) (ls : Array Slot) (p0 : Nat) (p1 : Nat) (p3 : Int32) (p4 : Int32), xlk T p0 8 = true → xlk T p1 3 = true → f_X8_readGives_32 T n S p0 p1 p3 p4 = some q → xRel z D dA T S H → va_S (xA z) s.heap H locs → xL ls 7 [some (.ref (z + p0)), some (.ref (z + p1)), none, some (.int p3), some (.int p4), none, none] → xGi p l e xr_X8_readGives s m args below meth c z D dA T q H locs 32 ls [] := by
  intro n
  induction n with
  | zero =>
    intro S H locs ls p0 p1 p3 p4 k_p0 k_p1 hf hR hS hl
    exact absurd hf (by simp [f_X8_readGives_32])
  | succ n ih =>
    intro S H locs ls p0 p1 p3 p4 k_p0 k_p1 hf hR hS hl
    unfold f_X8_readGives_32 at hf
    refine lv_iload B.1.1 B.1.2.1 dX8_readGives_32 (hl.at 4 rfl) ?_
    refine lv_bipush (v := 8) B.1.1 B.1.2.1 dX8_readGives_34 (by decide) ?_
    refine y_icmp_ge (tgt := 126) B hf dX8_readGives_36 (by decide) (fun hf => ?_) (fun hf => ?_)
    · refine lv_aload_n B.1.1 B.1.2.1 dX8_readGives_126 rfl (hl.at 1 rfl) ?_
      refine y_ci hf (fun q hq => x_runV (ci := 3) (C := RX3) B.1 B.2.2.2 hl hR hS cm_X8_69 ⟨rfl, rfl, Nat.le_of_ble_eq_true rfl, Nat.le_of_ble_eq_true rfl⟩ (by decide) rfl k_p1 (c_X3_refuse k_p1 hq) rfl rfl (Nat.le_of_ble_eq_true rfl) dX8_readGives_127 ⟨Nat.le_of_ble_eq_true rfl, Nat.le_of_ble_eq_true rfl⟩) hS (fun r2 S1 H locs hf hR hS => ?_)
      exact y_zret B hR hS hf dX8_readGives_130
    · refine lv_aload_n B.1.1 B.1.2.1 dX8_readGives_39 rfl (hl.at 1 rfl) ?_
      refine y_ci hf (fun q hq => x_runV (ci := 3) (C := RX3) B.1 B.2.2.2 hl hR hS cm_X8_65 ⟨rfl, rfl, Nat.le_of_ble_eq_true rfl, Nat.le_of_ble_eq_true rfl⟩ (by decide) rfl k_p1 (c_X3_partnerHere k_p1 hq) rfl rfl (Nat.le_of_ble_eq_true rfl) dX8_readGives_40 ⟨Nat.le_of_ble_eq_true rfl, Nat.le_of_ble_eq_true rfl⟩) hS (fun r4 S3 H locs hf hR hS => ?_)
      refine y_istore B hl hf dX8_readGives_43 (by decide) rfl (fun v5 ls hf hl => ?_)
      have hl : xL ls 7 [_, _, _, _, _, _, _] := hl
      refine lv_iload B.1.1 B.1.2.1 dX8_readGives_45 (hl.at 5 rfl) ?_
      refine lv_iconst (v := -1) B.1.1 B.1.2.1 dX8_readGives_47 (by decide) ?_
      refine y_icmp_eq (tgt := 63) B hf dX8_readGives_48 (by decide) (fun hf => ?_) (fun hf => ?_)
      · refine lv_aload_n B.1.1 B.1.2.1 dX8_readGives_63 rfl (hl.at 1 rfl) ?_
        refine y_ci hf (fun q hq => x_runV (ci := 3) (C := RX3) B.1 B.2.2.2 hl hR hS cm_X8_69 ⟨rfl, rfl, Nat.le_of_ble_eq_true rfl, Nat.le_of_ble_eq_true rfl⟩ (by decide) rfl k_p1 (c_X3_refuse k_p1 hq) rfl rfl (Nat.le_of_ble_eq_true rfl) dX8_readGives_64 ⟨Nat.le_of_ble_eq_true rfl, Nat.le_of_ble_eq_true rfl⟩) hS (fun r7 S6 H locs hf hR hS => ?_)
        exact y_zret B hR hS hf dX8_readGives_67
      · refine lv_aload_n B.1.1 B.1.2.1 dX8_readGives_51 rfl (hl.at 0 rfl) ?_
        refine y_getR B hR hf k_p0 fl_X8_19 dX8_readGives_52 (fun a8 k_a8 hf => ?_)
        refine lv_iload_n B.1.1 B.1.2.1 dX8_readGives_55 rfl (hl.at 3 rfl) ?_
        refine lv_iload B.1.1 B.1.2.1 dX8_readGives_56 (hl.at 5 rfl) ?_
        refine lv_iadd B.1.1 B.1.2.1 dX8_readGives_58 ?_
        refine y_iald B hR hf k_a8 dX8_readGives_59 (fun v9 hf => ?_)
        refine y_if_eq (tgt := 68) B hf dX8_readGives_60 (by decide) (fun hf => ?_) (fun hf => ?_)
        · refine lv_aload_n B.1.1 B.1.2.1 dX8_readGives_68 rfl (hl.at 1 rfl) ?_
          refine y_cv hf (fun q hq => x_runV (ci := 3) (C := RX3) B.1 B.2.2.2 hl hR hS cm_X8_43 ⟨rfl, rfl, Nat.le_of_ble_eq_true rfl, Nat.le_of_ble_eq_true rfl⟩ (by decide) rfl k_p1 (c_X3_advance k_p1 hq) rfl rfl (Nat.le_of_ble_eq_true rfl) dX8_readGives_69 ⟨Nat.le_of_ble_eq_true rfl, Nat.le_of_ble_eq_true rfl⟩) hS (fun S10 H locs hf hR hS => ?_)
          refine lv_aload_n B.1.1 B.1.2.1 dX8_readGives_72 rfl (hl.at 1 rfl) ?_
          refine lv_iconst (v := 1) B.1.1 B.1.2.1 dX8_readGives_73 (by decide) ?_
          refine lv_bipush (v := 99) B.1.1 B.1.2.1 dX8_readGives_74 (by decide) ?_
          refine y_ci hf (fun q hq => x_runV (ci := 3) (C := RX3) B.1 B.2.2.2 hl hR hS cm_X8_47 ⟨rfl, rfl, Nat.le_of_ble_eq_true rfl, Nat.le_of_ble_eq_true rfl⟩ (by decide) rfl k_p1 (c_X3_needNumber k_p1 hq) rfl rfl (Nat.le_of_ble_eq_true rfl) dX8_readGives_76 ⟨Nat.le_of_ble_eq_true rfl, Nat.le_of_ble_eq_true rfl⟩) hS (fun r12 S11 H locs hf hR hS => ?_)
          refine y_istore B hl hf dX8_readGives_79 (by decide) rfl (fun v13 ls hf hl => ?_)
          have hl : xL ls 7 [_, _, _, _, _, _, _] := hl
          refine lv_iload B.1.1 B.1.2.1 dX8_readGives_81 (hl.at 6 rfl) ?_
          refine lv_iconst (v := -1) B.1.1 B.1.2.1 dX8_readGives_83 (by decide) ?_
          refine y_icmp_ne (tgt := 89) B hf dX8_readGives_84 (by decide) (fun hf => ?_) (fun hf => ?_)
          · refine lv_aload_n B.1.1 B.1.2.1 dX8_readGives_89 rfl (hl.at 0 rfl) ?_
            refine y_getR B hR hf k_p0 fl_X8_19 dX8_readGives_90 (fun a14 k_a14 hf => ?_)
            refine lv_iload_n B.1.1 B.1.2.1 dX8_readGives_93 rfl (hl.at 3 rfl) ?_
            refine lv_iload B.1.1 B.1.2.1 dX8_readGives_94 (hl.at 5 rfl) ?_
            refine lv_iadd B.1.1 B.1.2.1 dX8_readGives_96 ?_
            refine lv_iload B.1.1 B.1.2.1 dX8_readGives_97 (hl.at 6 rfl) ?_
            refine y_iast B hR hS hf k_a14 dX8_readGives_99 (fun S15 H locs hf hR hS => ?_)
            refine lv_aload_n B.1.1 B.1.2.1 dX8_readGives_100 rfl (hl.at 1 rfl) ?_
            refine lv_bipush (v := 43) B.1.1 B.1.2.1 dX8_readGives_101 (by decide) ?_
            refine y_ci hf (fun q hq => x_runV (ci := 3) (C := RX3) B.1 B.2.2.2 hl hR hS cm_X8_72 ⟨rfl, rfl, Nat.le_of_ble_eq_true rfl, Nat.le_of_ble_eq_true rfl⟩ (by decide) rfl k_p1 (c_X3_isSign k_p1 hq) rfl rfl (Nat.le_of_ble_eq_true rfl) dX8_readGives_103 ⟨Nat.le_of_ble_eq_true rfl, Nat.le_of_ble_eq_true rfl⟩) hS (fun r17 S16 H locs hf hR hS => ?_)
            refine y_if_ne (tgt := 116) B hf dX8_readGives_106 (by decide) (fun hf => ?_) (fun hf => ?_)
            · refine lv_aload_n B.1.1 B.1.2.1 dX8_readGives_116 rfl (hl.at 1 rfl) ?_
              refine y_cv hf (fun q hq => x_runV (ci := 3) (C := RX3) B.1 B.2.2.2 hl hR hS cm_X8_43 ⟨rfl, rfl, Nat.le_of_ble_eq_true rfl, Nat.le_of_ble_eq_true rfl⟩ (by decide) rfl k_p1 (c_X3_advance k_p1 hq) rfl rfl (Nat.le_of_ble_eq_true rfl) dX8_readGives_117 ⟨Nat.le_of_ble_eq_true rfl, Nat.le_of_ble_eq_true rfl⟩) hS (fun S18 H locs hf hR hS => ?_)
              refine y_iinc (d := 1) B hl hf dX8_readGives_120 rfl (by decide) (by decide) rfl (fun v19 ls hf hl => ?_)
              have hl : xL ls 7 [_, _, _, _, _, _, _] := hl
              refine lv_goto (tgt := 32) B.1.1 B.1.2.1 dX8_readGives_123 (by decide) ?_
              exact ih _ _ _ _ _ _ _ _ k_p0 k_p1 hf hR hS (hl.drop [true, true, false, true, true, false, false] rfl)
            · refine lv_aload_n B.1.1 B.1.2.1 dX8_readGives_109 rfl (hl.at 1 rfl) ?_
              refine lv_bipush (v := 59) B.1.1 B.1.2.1 dX8_readGives_110 (by decide) ?_
              refine y_ci hf (fun q hq => x_runV (ci := 3) (C := RX3) B.1 B.2.2.2 hl hR hS cm_X8_76 ⟨rfl, rfl, Nat.le_of_ble_eq_true rfl, Nat.le_of_ble_eq_true rfl⟩ (by decide) rfl k_p1 (c_X3_needSign k_p1 hq) rfl rfl (Nat.le_of_ble_eq_true rfl) dX8_readGives_112 ⟨Nat.le_of_ble_eq_true rfl, Nat.le_of_ble_eq_true rfl⟩) hS (fun r21 S20 H locs hf hR hS => ?_)
              exact y_zret B hR hS hf dX8_readGives_115
          · refine lv_iconst (v := 0) B.1.1 B.1.2.1 dX8_readGives_87 (by decide) ?_
            exact y_zretK B hR hS hf rfl dX8_readGives_88
        · refine lv_aload_n B.1.1 B.1.2.1 dX8_readGives_63 rfl (hl.at 1 rfl) ?_
          refine y_ci hf (fun q hq => x_runV (ci := 3) (C := RX3) B.1 B.2.2.2 hl hR hS cm_X8_69 ⟨rfl, rfl, Nat.le_of_ble_eq_true rfl, Nat.le_of_ble_eq_true rfl⟩ (by decide) rfl k_p1 (c_X3_refuse k_p1 hq) rfl rfl (Nat.le_of_ble_eq_true rfl) dX8_readGives_64 ⟨Nat.le_of_ble_eq_true rfl, Nat.le_of_ble_eq_true rfl⟩) hS (fun r23 S22 H locs hf hR hS => ?_)
          exact y_zret B hR hS hf dX8_readGives_67
def f_X8_readGives (T : xT) (S : xS) (p0 : Nat) (p1 : Nat) (p2 : Int32) : Option (Int32 × xS) := xl ((p2 * (8 : Int32))) (fun v1 => xgr T S p0 2 20 (fun a2 => xcv (f_J7_fill_fda19 T S a2 v1 ((v1 + (8 : Int32))) ((0 : Int32))) (fun S3 => xc (f_X3_needWord T S3 p1 1) (fun r5 S4 => if r5 = (0 : Int32) then some ((0 : Int32), S4) else xl ((0 : Int32)) (fun v6 => f_X8_readGives_32 T xfu S4 p0 p1 v1 v6)))))
set_option maxRecDepth 100000 in
set_option maxHeartbeats 4000000 in
theorem c_X8_readGives {l : Launch} {z : Nat} {D : va_G} {dA : Nat → ClassId} {T : xT} {S : xS} {p0 : Nat} {p1 : Nat} {p2 : Int32} (k_p0 : xlk T p0 8 = true) (k_p1 : xlk T p1 3 = true) {q : Int32 × xS} (hf : f_X8_readGives T S p0 p1 p2 = some q) : Met l yX8_readGives (xws yX8_readGives cX8_readGives 7 (some .boolean)) xr_X8_readGives (xPc z D dA T S [.ref (z + p0), .ref (z + p1), .int p2]) (xQi z D dA T q) 0 0 (xA z) := by
  refine x_met RX8 (by decide) rfl (Nat.le_of_ble_eq_true rfl) ?_
  intro p e s m below meth c ls _ X hr hlk hml _ hR hS hl
  have B : xB p s m _ meth c cX8_readGives RX8 7 (some .boolean) D dA := ⟨X, hr, hlk, hml⟩
  have hl : xL ls 7 [_, _, _, _, _, _, _] := hl
  unfold f_X8_readGives at hf
  refine lv_iload_n B.1.1 B.1.2.1 dX8_readGives_0 rfl (hl.at 2 rfl) ?_
  refine lv_bipush (v := 8) B.1.1 B.1.2.1 dX8_readGives_1 (by decide) ?_
  refine lv_imul B.1.1 B.1.2.1 dX8_readGives_3 ?_
  refine y_istore_n B hl hf dX8_readGives_4 rfl (by decide) rfl (fun v1 ls hf hl => ?_)
  have hl : xL ls 7 [_, _, _, _, _, _, _] := hl
  refine lv_aload_n B.1.1 B.1.2.1 dX8_readGives_5 rfl (hl.at 0 rfl) ?_
  refine y_getR B hR hf k_p0 fl_X8_19 dX8_readGives_6 (fun a2 k_a2 hf => ?_)
  refine lv_iload_n B.1.1 B.1.2.1 dX8_readGives_9 rfl (hl.at 3 rfl) ?_
  refine lv_iload_n B.1.1 B.1.2.1 dX8_readGives_10 rfl (hl.at 3 rfl) ?_
  refine lv_bipush (v := 8) B.1.1 B.1.2.1 dX8_readGives_11 (by decide) ?_
  refine lv_iadd B.1.1 B.1.2.1 dX8_readGives_13 ?_
  refine lv_iconst (v := 0) B.1.1 B.1.2.1 dX8_readGives_14 (by decide) ?_
  refine y_cv hf (fun q hq => y_runS B.1 B.2.2.2 hl hR hS cm_X8_22 ⟨rfl, rfl, Nat.le_of_ble_eq_true rfl, Nat.le_of_ble_eq_true rfl⟩ (c_J7_fill_fda19 k_a2 hq) rfl rfl (Nat.le_of_ble_eq_true rfl) dX8_readGives_15 ⟨Nat.le_of_ble_eq_true rfl, Nat.le_of_ble_eq_true rfl⟩) hS (fun S3 H locs hf hR hS => ?_)
  refine lv_aload_n B.1.1 B.1.2.1 dX8_readGives_18 rfl (hl.at 1 rfl) ?_
  refine y_ldcS B sl_1 dX8_readGives_19 ?_
  refine y_ci hf (fun q hq => x_runV (ci := 3) (C := RX3) B.1 B.2.2.2 hl hR hS cm_X8_57 ⟨rfl, rfl, Nat.le_of_ble_eq_true rfl, Nat.le_of_ble_eq_true rfl⟩ (by decide) rfl k_p1 (c_X3_needWord k_p1 (by decide) hq) rfl rfl (Nat.le_of_ble_eq_true rfl) dX8_readGives_21 ⟨Nat.le_of_ble_eq_true rfl, Nat.le_of_ble_eq_true rfl⟩) hS (fun r5 S4 H locs hf hR hS => ?_)
  refine y_if_ne (tgt := 29) B hf dX8_readGives_24 (by decide) (fun hf => ?_) (fun hf => ?_)
  · refine lv_iconst (v := 0) B.1.1 B.1.2.1 dX8_readGives_29 (by decide) ?_
    refine y_istore B hl hf dX8_readGives_30 (by decide) rfl (fun v6 ls hf hl => ?_)
    have hl : xL ls 7 [_, _, _, _, _, _, _] := hl
    exact w_X8_readGives_32 B xfu _ _ _ _ _ _ _ _ k_p0 k_p1 hf hR hS (hl.drop [true, true, false, true, true, false, false] rfl)
  · refine lv_iconst (v := 0) B.1.1 B.1.2.1 dX8_readGives_27 (by decide) ?_
    exact y_zretK B hR hS hf rfl dX8_readGives_28
abbrev xr_X8_readTiers : Room := { frames := 8, cells := 0, slots := 0, locals := 166 }
def f_X8_readTiers_79 (T : xT) (S : xS) (p0 : Nat) (p1 : Nat) (p2 : Int32) : Option (Int32 × xS) := xc (f_X3_needWord T S p1 2) (fun r2 S1 => if r2 = (0 : Int32) then some ((-1 : Int32), S1) else xc (f_X8_readGives T S1 p0 p1 p2) (fun r4 S3 => if r4 = (0 : Int32) then some ((-1 : Int32), S3) else xc (f_X3_needEnd T S3 p1) (fun r6 S5 => if r6 = (0 : Int32) then some ((-1 : Int32), S5) else xgr T S5 p0 1 20 (fun a7 => xst T S5 a7 p2 ((-1 : Int32)) (fun S8 => xpi S8 p0 0 ((p2 + (1 : Int32))) (fun S9 => some ((S9.1 p0 0), S9)))))))
set_option maxRecDepth 100000 in
set_option maxHeartbeats 4000000 in
theorem w_X8_readTiers_79 {p : Program} {l : Launch} {e : Env} {s : State} {m : MethodId} {args : Array Value} {below : List Frame} {meth : Method} {c : Code} {z : Nat} {D : va_G} {dA : Nat → ClassId} {T : xT} (B : xB p s m args meth c cX8_readTiers RX8 4 (some .int) D dA) {q : Int32 × xS} : ∀ (S : xS) (H : Heap) (locs : List Loc) (ls : Array Slot) (p0 : Nat) (p1 : Nat) (p2 : Int32), xlk T p0 8 = true → xlk T p1 3 = true → f_X8_readTiers_79 T S p0 p1 p2 = some q → xRel z D dA T S H → va_S (xA z) s.heap H locs → xL ls 4 [some (.ref (z + p0)), some (.ref (z + p1)), some (.int p2), none] → xGi p l e xr_X8_readTiers s m args below meth c z D dA T q H locs 79 ls [] := by
  intro S H locs ls p0 p1 p2 k_p0 k_p1 hf hR hS hl
  unfold f_X8_readTiers_79 at hf
  refine lv_aload_n B.1.1 B.1.2.1 dX8_readTiers_79 rfl (hl.at 1 rfl) ?_
  refine y_ldcS B sl_2 dX8_readTiers_80 ?_
  refine y_ci hf (fun q hq => x_runV (ci := 3) (C := RX3) B.1 B.2.2.2 hl hR hS cm_X8_57 ⟨rfl, rfl, Nat.le_of_ble_eq_true rfl, Nat.le_of_ble_eq_true rfl⟩ (by decide) rfl k_p1 (c_X3_needWord k_p1 (by decide) hq) rfl rfl (Nat.le_of_ble_eq_true rfl) dX8_readTiers_82 ⟨Nat.le_of_ble_eq_true rfl, Nat.le_of_ble_eq_true rfl⟩) hS (fun r2 S1 H locs hf hR hS => ?_)
  refine y_if_eq (tgt := 104) B hf dX8_readTiers_85 (by decide) (fun hf => ?_) (fun hf => ?_)
  · refine lv_iconst (v := -1) B.1.1 B.1.2.1 dX8_readTiers_104 (by decide) ?_
    exact y_iret B hR hS hf dX8_readTiers_105
  · refine lv_aload_n B.1.1 B.1.2.1 dX8_readTiers_88 rfl (hl.at 0 rfl) ?_
    refine lv_aload_n B.1.1 B.1.2.1 dX8_readTiers_89 rfl (hl.at 1 rfl) ?_
    refine lv_iload_n B.1.1 B.1.2.1 dX8_readTiers_90 rfl (hl.at 2 rfl) ?_
    refine y_ci hf (fun q hq => x_runV (ci := 8) (C := RX8) B.1 B.2.2.2 hl hR hS cm_X8_51 ⟨rfl, rfl, Nat.le_of_ble_eq_true rfl, Nat.le_of_ble_eq_true rfl⟩ (by decide) rfl k_p0 (c_X8_readGives k_p0 k_p1 hq) rfl rfl (Nat.le_of_ble_eq_true rfl) dX8_readTiers_91 ⟨Nat.le_of_ble_eq_true rfl, Nat.le_of_ble_eq_true rfl⟩) hS (fun r4 S3 H locs hf hR hS => ?_)
    refine y_if_eq (tgt := 104) B hf dX8_readTiers_94 (by decide) (fun hf => ?_) (fun hf => ?_)
    · refine lv_iconst (v := -1) B.1.1 B.1.2.1 dX8_readTiers_104 (by decide) ?_
      exact y_iret B hR hS hf dX8_readTiers_105
    · refine lv_aload_n B.1.1 B.1.2.1 dX8_readTiers_97 rfl (hl.at 1 rfl) ?_
      refine y_ci hf (fun q hq => x_runV (ci := 3) (C := RX3) B.1 B.2.2.2 hl hR hS cm_X8_60 ⟨rfl, rfl, Nat.le_of_ble_eq_true rfl, Nat.le_of_ble_eq_true rfl⟩ (by decide) rfl k_p1 (c_X3_needEnd k_p1 hq) rfl rfl (Nat.le_of_ble_eq_true rfl) dX8_readTiers_98 ⟨Nat.le_of_ble_eq_true rfl, Nat.le_of_ble_eq_true rfl⟩) hS (fun r6 S5 H locs hf hR hS => ?_)
      refine y_if_ne (tgt := 106) B hf dX8_readTiers_101 (by decide) (fun hf => ?_) (fun hf => ?_)
      · refine lv_aload_n B.1.1 B.1.2.1 dX8_readTiers_106 rfl (hl.at 0 rfl) ?_
        refine y_getR B hR hf k_p0 fl_X8_15 dX8_readTiers_107 (fun a7 k_a7 hf => ?_)
        refine lv_iload_n B.1.1 B.1.2.1 dX8_readTiers_110 rfl (hl.at 2 rfl) ?_
        refine lv_iconst (v := -1) B.1.1 B.1.2.1 dX8_readTiers_111 (by decide) ?_
        refine y_iast B hR hS hf k_a7 dX8_readTiers_112 (fun S8 H locs hf hR hS => ?_)
        refine lv_aload_n B.1.1 B.1.2.1 dX8_readTiers_113 rfl (hl.at 0 rfl) ?_
        refine lv_iload_n B.1.1 B.1.2.1 dX8_readTiers_114 rfl (hl.at 2 rfl) ?_
        refine lv_iconst (v := 1) B.1.1 B.1.2.1 dX8_readTiers_115 (by decide) ?_
        refine lv_iadd B.1.1 B.1.2.1 dX8_readTiers_116 ?_
        refine y_putI B hR hS hf k_p0 fp_X8_9 dX8_readTiers_117 (fun S9 H locs hf hR hS => ?_)
        refine lv_aload_n B.1.1 B.1.2.1 dX8_readTiers_120 rfl (hl.at 0 rfl) ?_
        refine y_getI B hR k_p0 fl_X8_9 dX8_readTiers_121 ?_
        exact y_iret B hR hS hf dX8_readTiers_124
      · refine lv_iconst (v := -1) B.1.1 B.1.2.1 dX8_readTiers_104 (by decide) ?_
        exact y_iret B hR hS hf dX8_readTiers_105
def f_X8_readTiers_17 (T : xT) : Nat → xS → Nat → Nat → Int32 → Int32 → Option (Int32 × xS)
  | 0, _, _, _, _, _ => none
  | n + 1, S, p0, p1, p2, p3 => if (8 : Int32) ≤ p3 then f_X8_readTiers_79 T S p0 p1 p2 else xc (f_X3_isWord T S p1 0) (fun r2 S1 => if r2 = (0 : Int32) then f_X8_readTiers_79 T S1 p0 p1 p2 else xcv (f_X3_advance T S1 p1) (fun S3 => xgr T S3 p0 1 20 (fun a4 => xc (f_X3_needNumber T S3 p1 ((1 : Int32)) ((999999 : Int32))) (fun r6 S5 => xst T S5 a4 p3 r6 (fun S7 => xgr T S7 p0 1 20 (fun a8 => xai T S7 a8 p3 (fun v9 => if v9 = (-1 : Int32) then some ((-1 : Int32), S7) else xc (f_X8_readGives T S7 p0 p1 p3) (fun r11 S10 => if r11 = (0 : Int32) then some ((-1 : Int32), S10) else xl (p2 + (1 : Int32)) (fun v12 => xl (p3 + (1 : Int32)) (fun v13 => f_X8_readTiers_17 T n S10 p0 p1 v12 v13))))))))))
set_option maxRecDepth 100000 in
set_option maxHeartbeats 4000000 in
theorem w_X8_readTiers_17 {p : Program} {l : Launch} {e : Env} {s : State} {m : MethodId} {args : Array Value} {below : List Frame} {meth : Method} {c : Code} {z : Nat} {D : va_G} {dA : Nat → ClassId} {T : xT} (B : xB p s m args meth c cX8_readTiers RX8 4 (some .int) D dA) {q : Int32 × xS} : ∀ (n : Nat), ∀ (S : xS) (H : Heap) (locs : List Loc) (ls : Array Slot) (p0 : Nat) (p1 : Nat) (p2 : Int32) (p3 : Int32), xlk T p0 8 = true → xlk T p1 3 = true → f_X8_readTiers_17 T n S p0 p1 p2 p3 = some q → xRel z D dA T S H → va_S (xA z) s.heap H locs → xL ls 4 [some (.ref (z + p0)), some (.ref (z + p1)), some (.int p2), some (.int p3)] → xGi p l e xr_X8_readTiers s m args below meth c z D dA T q H locs 17 ls [] := by
  intro n
  induction n with
  | zero =>
    intro S H locs ls p0 p1 p2 p3 k_p0 k_p1 hf hR hS hl
    exact absurd hf (by simp [f_X8_readTiers_17])
  | succ n ih =>
    intro S H locs ls p0 p1 p2 p3 k_p0 k_p1 hf hR hS hl
    unfold f_X8_readTiers_17 at hf
    refine lv_iload_n B.1.1 B.1.2.1 dX8_readTiers_17 rfl (hl.at 3 rfl) ?_
    refine lv_bipush (v := 8) B.1.1 B.1.2.1 dX8_readTiers_18 (by decide) ?_
    refine y_icmp_ge (tgt := 79) B hf dX8_readTiers_20 (by decide) (fun hf => ?_) (fun hf => ?_)
    · exact w_X8_readTiers_79 B _ _ _ _ _ _ _ k_p0 k_p1 hf hR hS (hl.drop [true, true, true, false] rfl)
    · refine lv_aload_n B.1.1 B.1.2.1 dX8_readTiers_23 rfl (hl.at 1 rfl) ?_
      refine y_ldcS B sl_0 dX8_readTiers_24 ?_
      refine y_ci hf (fun q hq => x_runV (ci := 3) (C := RX3) B.1 B.2.2.2 hl hR hS cm_X8_39 ⟨rfl, rfl, Nat.le_of_ble_eq_true rfl, Nat.le_of_ble_eq_true rfl⟩ (by decide) rfl k_p1 (c_X3_isWord k_p1 (by decide) hq) rfl rfl (Nat.le_of_ble_eq_true rfl) dX8_readTiers_26 ⟨Nat.le_of_ble_eq_true rfl, Nat.le_of_ble_eq_true rfl⟩) hS (fun r2 S1 H locs hf hR hS => ?_)
      refine y_if_eq (tgt := 79) B hf dX8_readTiers_29 (by decide) (fun hf => ?_) (fun hf => ?_)
      · exact w_X8_readTiers_79 B _ _ _ _ _ _ _ k_p0 k_p1 hf hR hS (hl.drop [true, true, true, false] rfl)
      · refine lv_aload_n B.1.1 B.1.2.1 dX8_readTiers_32 rfl (hl.at 1 rfl) ?_
        refine y_cv hf (fun q hq => x_runV (ci := 3) (C := RX3) B.1 B.2.2.2 hl hR hS cm_X8_43 ⟨rfl, rfl, Nat.le_of_ble_eq_true rfl, Nat.le_of_ble_eq_true rfl⟩ (by decide) rfl k_p1 (c_X3_advance k_p1 hq) rfl rfl (Nat.le_of_ble_eq_true rfl) dX8_readTiers_33 ⟨Nat.le_of_ble_eq_true rfl, Nat.le_of_ble_eq_true rfl⟩) hS (fun S3 H locs hf hR hS => ?_)
        refine lv_aload_n B.1.1 B.1.2.1 dX8_readTiers_36 rfl (hl.at 0 rfl) ?_
        refine y_getR B hR hf k_p0 fl_X8_15 dX8_readTiers_37 (fun a4 k_a4 hf => ?_)
        refine lv_iload_n B.1.1 B.1.2.1 dX8_readTiers_40 rfl (hl.at 3 rfl) ?_
        refine lv_aload_n B.1.1 B.1.2.1 dX8_readTiers_41 rfl (hl.at 1 rfl) ?_
        refine lv_iconst (v := 1) B.1.1 B.1.2.1 dX8_readTiers_42 (by decide) ?_
        refine lv_ldc (v := 999999) B.1.1 B.1.2.1 B.1.2.2.1 (B.1.2.2.2.1 _ tw_468) dX8_readTiers_43 ?_
        refine y_ci hf (fun q hq => x_runV (ci := 3) (C := RX3) B.1 B.2.2.2 hl hR hS cm_X8_47 ⟨rfl, rfl, Nat.le_of_ble_eq_true rfl, Nat.le_of_ble_eq_true rfl⟩ (by decide) rfl k_p1 (c_X3_needNumber k_p1 hq) rfl rfl (Nat.le_of_ble_eq_true rfl) dX8_readTiers_45 ⟨Nat.le_of_ble_eq_true rfl, Nat.le_of_ble_eq_true rfl⟩) hS (fun r6 S5 H locs hf hR hS => ?_)
        refine y_iast B hR hS hf k_a4 dX8_readTiers_48 (fun S7 H locs hf hR hS => ?_)
        refine lv_aload_n B.1.1 B.1.2.1 dX8_readTiers_49 rfl (hl.at 0 rfl) ?_
        refine y_getR B hR hf k_p0 fl_X8_15 dX8_readTiers_50 (fun a8 k_a8 hf => ?_)
        refine lv_iload_n B.1.1 B.1.2.1 dX8_readTiers_53 rfl (hl.at 3 rfl) ?_
        refine y_iald B hR hf k_a8 dX8_readTiers_54 (fun v9 hf => ?_)
        refine lv_iconst (v := -1) B.1.1 B.1.2.1 dX8_readTiers_55 (by decide) ?_
        refine y_icmp_eq (tgt := 68) B hf dX8_readTiers_56 (by decide) (fun hf => ?_) (fun hf => ?_)
        · refine lv_iconst (v := -1) B.1.1 B.1.2.1 dX8_readTiers_68 (by decide) ?_
          exact y_iret B hR hS hf dX8_readTiers_69
        · refine lv_aload_n B.1.1 B.1.2.1 dX8_readTiers_59 rfl (hl.at 0 rfl) ?_
          refine lv_aload_n B.1.1 B.1.2.1 dX8_readTiers_60 rfl (hl.at 1 rfl) ?_
          refine lv_iload_n B.1.1 B.1.2.1 dX8_readTiers_61 rfl (hl.at 3 rfl) ?_
          refine y_ci hf (fun q hq => x_runV (ci := 8) (C := RX8) B.1 B.2.2.2 hl hR hS cm_X8_51 ⟨rfl, rfl, Nat.le_of_ble_eq_true rfl, Nat.le_of_ble_eq_true rfl⟩ (by decide) rfl k_p0 (c_X8_readGives k_p0 k_p1 hq) rfl rfl (Nat.le_of_ble_eq_true rfl) dX8_readTiers_62 ⟨Nat.le_of_ble_eq_true rfl, Nat.le_of_ble_eq_true rfl⟩) hS (fun r11 S10 H locs hf hR hS => ?_)
          refine y_if_ne (tgt := 70) B hf dX8_readTiers_65 (by decide) (fun hf => ?_) (fun hf => ?_)
          · refine y_iinc (d := 1) B hl hf dX8_readTiers_70 rfl (by decide) (by decide) rfl (fun v12 ls hf hl => ?_)
            have hl : xL ls 4 [_, _, _, _] := hl
            refine y_iinc (d := 1) B hl hf dX8_readTiers_73 rfl (by decide) (by decide) rfl (fun v13 ls hf hl => ?_)
            have hl : xL ls 4 [_, _, _, _] := hl
            refine lv_goto (tgt := 17) B.1.1 B.1.2.1 dX8_readTiers_76 (by decide) ?_
            exact ih _ _ _ _ _ _ _ _ k_p0 k_p1 hf hR hS hl
          · refine lv_iconst (v := -1) B.1.1 B.1.2.1 dX8_readTiers_68 (by decide) ?_
            exact y_iret B hR hS hf dX8_readTiers_69
def f_X8_readTiers (T : xT) (S : xS) (p0 : Nat) (p1 : Nat) : Option (Int32 × xS) := xcv (f_X3_start T S p1) (fun S1 => xc (f_X3_isAtEnd T S1 p1) (fun r3 S2 => if r3 = (0 : Int32) then xl ((0 : Int32)) (fun v4 => xl ((0 : Int32)) (fun v5 => f_X8_readTiers_17 T xfu S2 p0 p1 v4 v5)) else some ((0 : Int32), S2)))
set_option maxRecDepth 100000 in
set_option maxHeartbeats 4000000 in
theorem c_X8_readTiers {l : Launch} {z : Nat} {D : va_G} {dA : Nat → ClassId} {T : xT} {S : xS} {p0 : Nat} {p1 : Nat} (k_p0 : xlk T p0 8 = true) (k_p1 : xlk T p1 3 = true) {q : Int32 × xS} (hf : f_X8_readTiers T S p0 p1 = some q) : Met l yX8_readTiers (xws yX8_readTiers cX8_readTiers 4 (some .int)) xr_X8_readTiers (xPc z D dA T S [.ref (z + p0), .ref (z + p1)]) (xQi z D dA T q) 0 0 (xA z) := by
  refine x_met RX8 (by decide) rfl (Nat.le_of_ble_eq_true rfl) ?_
  intro p e s m below meth c ls _ X hr hlk hml _ hR hS hl
  have B : xB p s m _ meth c cX8_readTiers RX8 4 (some .int) D dA := ⟨X, hr, hlk, hml⟩
  have hl : xL ls 4 [_, _, _, _] := hl
  unfold f_X8_readTiers at hf
  refine lv_aload_n B.1.1 B.1.2.1 dX8_readTiers_0 rfl (hl.at 1 rfl) ?_
  refine y_cv hf (fun q hq => x_runV (ci := 3) (C := RX3) B.1 B.2.2.2 hl hR hS cm_X8_28 ⟨rfl, rfl, Nat.le_of_ble_eq_true rfl, Nat.le_of_ble_eq_true rfl⟩ (by decide) rfl k_p1 (c_X3_start k_p1 hq) rfl rfl (Nat.le_of_ble_eq_true rfl) dX8_readTiers_1 ⟨Nat.le_of_ble_eq_true rfl, Nat.le_of_ble_eq_true rfl⟩) hS (fun S1 H locs hf hR hS => ?_)
  refine lv_aload_n B.1.1 B.1.2.1 dX8_readTiers_4 rfl (hl.at 1 rfl) ?_
  refine y_ci hf (fun q hq => x_runV (ci := 3) (C := RX3) B.1 B.2.2.2 hl hR hS cm_X8_33 ⟨rfl, rfl, Nat.le_of_ble_eq_true rfl, Nat.le_of_ble_eq_true rfl⟩ (by decide) rfl k_p1 (c_X3_isAtEnd k_p1 hq) rfl rfl (Nat.le_of_ble_eq_true rfl) dX8_readTiers_5 ⟨Nat.le_of_ble_eq_true rfl, Nat.le_of_ble_eq_true rfl⟩) hS (fun r3 S2 H locs hf hR hS => ?_)
  refine y_if_eq (tgt := 13) B hf dX8_readTiers_8 (by decide) (fun hf => ?_) (fun hf => ?_)
  · refine lv_iconst (v := 0) B.1.1 B.1.2.1 dX8_readTiers_13 (by decide) ?_
    refine y_istore_n B hl hf dX8_readTiers_14 rfl (by decide) rfl (fun v4 ls hf hl => ?_)
    have hl : xL ls 4 [_, _, _, _] := hl
    refine lv_iconst (v := 0) B.1.1 B.1.2.1 dX8_readTiers_15 (by decide) ?_
    refine y_istore_n B hl hf dX8_readTiers_16 rfl (by decide) rfl (fun v5 ls hf hl => ?_)
    have hl : xL ls 4 [_, _, _, _] := hl
    exact w_X8_readTiers_17 B xfu _ _ _ _ _ _ _ _ k_p0 k_p1 hf hR hS hl
  · refine lv_iconst (v := 0) B.1.1 B.1.2.1 dX8_readTiers_11 (by decide) ?_
    exact y_iret B hR hS hf dX8_readTiers_12
abbrev xr_X9_feed : Room := { frames := 2, cells := 0, slots := 0, locals := 34 }
def f_X9_feed (T : xT) (S : xS) (p0 : Nat) (p1 : Int32) (p2 : Int32) (p3 : Int32) (p4 : Int32) (p5 : Int32) : Option (Int32 × xS) := xgr T S p0 0 3 (fun a1 => if (S.1 a1 1) ≤ (380 : Int32) then xgr T S p0 0 3 (fun a2 => xcv (f_X3_addFour T S a2 p1) (fun S3 => xgr T S3 p0 0 3 (fun a4 => xcv (f_X3_addFour T S3 a4 p2) (fun S5 => xgr T S5 p0 0 3 (fun a6 => xcv (f_X3_addFour T S5 a6 p3) (fun S7 => xgr T S7 p0 0 3 (fun a8 => xcv (f_X3_addFour T S7 a8 p4) (fun S9 => xgr T S9 p0 0 3 (fun a10 => xcv (f_X3_addFour T S9 a10 p5) (fun S11 => xgr T S11 p0 0 3 (fun a12 => some ((S11.1 a12 1), S11)))))))))))) else some ((-1 : Int32), S))
set_option maxRecDepth 100000 in
set_option maxHeartbeats 4000000 in
theorem c_X9_feed {l : Launch} {z : Nat} {D : va_G} {dA : Nat → ClassId} {T : xT} {S : xS} {p0 : Nat} {p1 : Int32} {p2 : Int32} {p3 : Int32} {p4 : Int32} {p5 : Int32} (k_p0 : xlk T p0 9 = true) {q : Int32 × xS} (hf : f_X9_feed T S p0 p1 p2 p3 p4 p5 = some q) : Met l yX9_feed (xws yX9_feed cX9_feed 6 (some .int)) xr_X9_feed (xPc z D dA T S [.ref (z + p0), .int p1, .int p2, .int p3, .int p4, .int p5]) (xQi z D dA T q) 0 0 (xA z) := by
  refine x_met RX9 (by decide) rfl (Nat.le_of_ble_eq_true rfl) ?_
  intro p e s m below meth c ls _ X hr hlk hml _ hR hS hl
  have B : xB p s m _ meth c cX9_feed RX9 6 (some .int) D dA := ⟨X, hr, hlk, hml⟩
  have hl : xL ls 6 [_, _, _, _, _, _] := hl
  unfold f_X9_feed at hf
  refine lv_aload_n B.1.1 B.1.2.1 dX9_feed_0 rfl (hl.at 0 rfl) ?_
  refine y_getR B hR hf k_p0 fl_X9_10 dX9_feed_1 (fun a1 k_a1 hf => ?_)
  refine y_getI B hR k_a1 fl_X9_85 dX9_feed_4 ?_
  refine lv_sipush (v := 380) B.1.1 B.1.2.1 dX9_feed_7 (by decide) ?_
  refine y_icmp_le (tgt := 15) B hf dX9_feed_10 (by decide) (fun hf => ?_) (fun hf => ?_)
  · refine lv_aload_n B.1.1 B.1.2.1 dX9_feed_15 rfl (hl.at 0 rfl) ?_
    refine y_getR B hR hf k_p0 fl_X9_10 dX9_feed_16 (fun a2 k_a2 hf => ?_)
    refine lv_iload_n B.1.1 B.1.2.1 dX9_feed_19 rfl (hl.at 1 rfl) ?_
    refine y_cv hf (fun q hq => x_runV (ci := 3) (C := RX3) B.1 B.2.2.2 hl hR hS cm_X9_88 ⟨rfl, rfl, Nat.le_of_ble_eq_true rfl, Nat.le_of_ble_eq_true rfl⟩ (by decide) rfl k_a2 (c_X3_addFour k_a2 hq) rfl rfl (Nat.le_of_ble_eq_true rfl) dX9_feed_20 ⟨Nat.le_of_ble_eq_true rfl, Nat.le_of_ble_eq_true rfl⟩) hS (fun S3 H locs hf hR hS => ?_)
    refine lv_aload_n B.1.1 B.1.2.1 dX9_feed_23 rfl (hl.at 0 rfl) ?_
    refine y_getR B hR hf k_p0 fl_X9_10 dX9_feed_24 (fun a4 k_a4 hf => ?_)
    refine lv_iload_n B.1.1 B.1.2.1 dX9_feed_27 rfl (hl.at 2 rfl) ?_
    refine y_cv hf (fun q hq => x_runV (ci := 3) (C := RX3) B.1 B.2.2.2 hl hR hS cm_X9_88 ⟨rfl, rfl, Nat.le_of_ble_eq_true rfl, Nat.le_of_ble_eq_true rfl⟩ (by decide) rfl k_a4 (c_X3_addFour k_a4 hq) rfl rfl (Nat.le_of_ble_eq_true rfl) dX9_feed_28 ⟨Nat.le_of_ble_eq_true rfl, Nat.le_of_ble_eq_true rfl⟩) hS (fun S5 H locs hf hR hS => ?_)
    refine lv_aload_n B.1.1 B.1.2.1 dX9_feed_31 rfl (hl.at 0 rfl) ?_
    refine y_getR B hR hf k_p0 fl_X9_10 dX9_feed_32 (fun a6 k_a6 hf => ?_)
    refine lv_iload_n B.1.1 B.1.2.1 dX9_feed_35 rfl (hl.at 3 rfl) ?_
    refine y_cv hf (fun q hq => x_runV (ci := 3) (C := RX3) B.1 B.2.2.2 hl hR hS cm_X9_88 ⟨rfl, rfl, Nat.le_of_ble_eq_true rfl, Nat.le_of_ble_eq_true rfl⟩ (by decide) rfl k_a6 (c_X3_addFour k_a6 hq) rfl rfl (Nat.le_of_ble_eq_true rfl) dX9_feed_36 ⟨Nat.le_of_ble_eq_true rfl, Nat.le_of_ble_eq_true rfl⟩) hS (fun S7 H locs hf hR hS => ?_)
    refine lv_aload_n B.1.1 B.1.2.1 dX9_feed_39 rfl (hl.at 0 rfl) ?_
    refine y_getR B hR hf k_p0 fl_X9_10 dX9_feed_40 (fun a8 k_a8 hf => ?_)
    refine lv_iload B.1.1 B.1.2.1 dX9_feed_43 (hl.at 4 rfl) ?_
    refine y_cv hf (fun q hq => x_runV (ci := 3) (C := RX3) B.1 B.2.2.2 hl hR hS cm_X9_88 ⟨rfl, rfl, Nat.le_of_ble_eq_true rfl, Nat.le_of_ble_eq_true rfl⟩ (by decide) rfl k_a8 (c_X3_addFour k_a8 hq) rfl rfl (Nat.le_of_ble_eq_true rfl) dX9_feed_45 ⟨Nat.le_of_ble_eq_true rfl, Nat.le_of_ble_eq_true rfl⟩) hS (fun S9 H locs hf hR hS => ?_)
    refine lv_aload_n B.1.1 B.1.2.1 dX9_feed_48 rfl (hl.at 0 rfl) ?_
    refine y_getR B hR hf k_p0 fl_X9_10 dX9_feed_49 (fun a10 k_a10 hf => ?_)
    refine lv_iload B.1.1 B.1.2.1 dX9_feed_52 (hl.at 5 rfl) ?_
    refine y_cv hf (fun q hq => x_runV (ci := 3) (C := RX3) B.1 B.2.2.2 hl hR hS cm_X9_88 ⟨rfl, rfl, Nat.le_of_ble_eq_true rfl, Nat.le_of_ble_eq_true rfl⟩ (by decide) rfl k_a10 (c_X3_addFour k_a10 hq) rfl rfl (Nat.le_of_ble_eq_true rfl) dX9_feed_54 ⟨Nat.le_of_ble_eq_true rfl, Nat.le_of_ble_eq_true rfl⟩) hS (fun S11 H locs hf hR hS => ?_)
    refine lv_aload_n B.1.1 B.1.2.1 dX9_feed_57 rfl (hl.at 0 rfl) ?_
    refine y_getR B hR hf k_p0 fl_X9_10 dX9_feed_58 (fun a12 k_a12 hf => ?_)
    refine y_getI B hR k_a12 fl_X9_85 dX9_feed_61 ?_
    exact y_iret B hR hS hf dX9_feed_64
  · refine lv_iconst (v := -1) B.1.1 B.1.2.1 dX9_feed_13 (by decide) ?_
    exact y_iret B hR hS hf dX9_feed_14
abbrev xr_X9_end : Room := { frames := 1, cells := 0, slots := 0, locals := 12 }
def f_X9_end (T : xT) (S : xS) (p0 : Nat) (p1 : Int32) : Option (Int32 × xS) := if p1 < (0 : Int32) then some ((-1 : Int32), S) else xgr T S p0 0 3 (fun a1 => if p1 ≤ (S.1 a1 1) then xgr T S p0 0 3 (fun a2 => xpi S a2 1 p1 (fun S3 => some (p1, S3))) else some ((-1 : Int32), S))
set_option maxRecDepth 100000 in
set_option maxHeartbeats 4000000 in
theorem c_X9_end {l : Launch} {z : Nat} {D : va_G} {dA : Nat → ClassId} {T : xT} {S : xS} {p0 : Nat} {p1 : Int32} (k_p0 : xlk T p0 9 = true) {q : Int32 × xS} (hf : f_X9_end T S p0 p1 = some q) : Met l yX9_end (xws yX9_end cX9_end 2 (some .int)) xr_X9_end (xPc z D dA T S [.ref (z + p0), .int p1]) (xQi z D dA T q) 0 0 (xA z) := by
  refine x_met RX9 (by decide) rfl (Nat.le_of_ble_eq_true rfl) ?_
  intro p e s m below meth c ls _ X hr hlk hml _ hR hS hl
  have B : xB p s m _ meth c cX9_end RX9 2 (some .int) D dA := ⟨X, hr, hlk, hml⟩
  have hl : xL ls 2 [_, _] := hl
  unfold f_X9_end at hf
  refine lv_iload_n B.1.1 B.1.2.1 dX9_end_0 rfl (hl.at 1 rfl) ?_
  refine y_if_lt (tgt := 15) B hf dX9_end_1 (by decide) (fun hf => ?_) (fun hf => ?_)
  · refine lv_iconst (v := -1) B.1.1 B.1.2.1 dX9_end_15 (by decide) ?_
    exact y_iret B hR hS hf dX9_end_16
  · refine lv_iload_n B.1.1 B.1.2.1 dX9_end_4 rfl (hl.at 1 rfl) ?_
    refine lv_aload_n B.1.1 B.1.2.1 dX9_end_5 rfl (hl.at 0 rfl) ?_
    refine y_getR B hR hf k_p0 fl_X9_10 dX9_end_6 (fun a1 k_a1 hf => ?_)
    refine y_getI B hR k_a1 fl_X9_85 dX9_end_9 ?_
    refine y_icmp_le (tgt := 17) B hf dX9_end_12 (by decide) (fun hf => ?_) (fun hf => ?_)
    · refine lv_aload_n B.1.1 B.1.2.1 dX9_end_17 rfl (hl.at 0 rfl) ?_
      refine y_getR B hR hf k_p0 fl_X9_10 dX9_end_18 (fun a2 k_a2 hf => ?_)
      refine lv_iload_n B.1.1 B.1.2.1 dX9_end_21 rfl (hl.at 1 rfl) ?_
      refine y_putI B hR hS hf k_a2 fp_X9_85 dX9_end_22 (fun S3 H locs hf hR hS => ?_)
      refine lv_iload_n B.1.1 B.1.2.1 dX9_end_25 rfl (hl.at 1 rfl) ?_
      exact y_iret B hR hS hf dX9_end_26
    · refine lv_iconst (v := -1) B.1.1 B.1.2.1 dX9_end_15 (by decide) ?_
      exact y_iret B hR hS hf dX9_end_16
abbrev xr_X9_fault : Room := { frames := 1, cells := 0, slots := 0, locals := 12 }
def f_X9_fault (T : xT) (S : xS) (p0 : Nat) : Option (Int32 × xS) := some ((S.1 p0 11), S)
set_option maxRecDepth 100000 in
set_option maxHeartbeats 4000000 in
theorem c_X9_fault {l : Launch} {z : Nat} {D : va_G} {dA : Nat → ClassId} {T : xT} {S : xS} {p0 : Nat} (k_p0 : xlk T p0 9 = true) {q : Int32 × xS} (hf : f_X9_fault T S p0 = some q) : Met l yX9_fault (xws yX9_fault cX9_fault 1 (some .int)) xr_X9_fault (xPc z D dA T S [.ref (z + p0)]) (xQi z D dA T q) 0 0 (xA z) := by
  refine x_met RX9 (by decide) rfl (Nat.le_of_ble_eq_true rfl) ?_
  intro p e s m below meth c ls _ X hr hlk hml _ hR hS hl
  have B : xB p s m _ meth c cX9_fault RX9 1 (some .int) D dA := ⟨X, hr, hlk, hml⟩
  have hl : xL ls 1 [_] := hl
  unfold f_X9_fault at hf
  refine lv_aload_n B.1.1 B.1.2.1 dX9_fault_0 rfl (hl.at 0 rfl) ?_
  refine y_getI B hR k_p0 fl_X9_81 dX9_fault_1 ?_
  exact y_iret B hR hS hf dX9_fault_4
abbrev xr_X9_tier : Room := { frames := 1, cells := 0, slots := 0, locals := 12 }
def f_X9_tier (T : xT) (S : xS) (p0 : Nat) (p1 : Int32) (p2 : Int32) : Option (Int32 × xS) := xgr T S p0 4 5 (fun a1 => xgr T S a1 2 8 (fun a2 => if p1 < (0 : Int32) then some ((-2 : Int32), S) else if (S.1 a2 0) ≤ p1 then some ((-2 : Int32), S) else if p2 < (0 : Int32) then some ((-2 : Int32), S) else if p2 ≤ (8 : Int32) then if p2 = (0 : Int32) then xgr T S a2 1 20 (fun a5 => xai T S a5 p1 (fun v6 => some (v6, S))) else xgr T S a2 2 20 (fun a3 => xai T S a3 ((((p1 * (8 : Int32)) + p2) - (1 : Int32))) (fun v4 => some (v4, S))) else some ((-2 : Int32), S)))
set_option maxRecDepth 100000 in
set_option maxHeartbeats 4000000 in
theorem c_X9_tier {l : Launch} {z : Nat} {D : va_G} {dA : Nat → ClassId} {T : xT} {S : xS} {p0 : Nat} {p1 : Int32} {p2 : Int32} (k_p0 : xlk T p0 9 = true) {q : Int32 × xS} (hf : f_X9_tier T S p0 p1 p2 = some q) : Met l yX9_tier (xws yX9_tier cX9_tier 4 (some .int)) xr_X9_tier (xPc z D dA T S [.ref (z + p0), .int p1, .int p2]) (xQi z D dA T q) 0 0 (xA z) := by
  refine x_met RX9 (by decide) rfl (Nat.le_of_ble_eq_true rfl) ?_
  intro p e s m below meth c ls _ X hr hlk hml _ hR hS hl
  have B : xB p s m _ meth c cX9_tier RX9 4 (some .int) D dA := ⟨X, hr, hlk, hml⟩
  have hl : xL ls 4 [_, _, _, _] := hl
  unfold f_X9_tier at hf
  refine lv_aload_n B.1.1 B.1.2.1 dX9_tier_0 rfl (hl.at 0 rfl) ?_
  refine y_getR B hR hf k_p0 fl_X9_48 dX9_tier_1 (fun a1 k_a1 hf => ?_)
  refine y_getR B hR hf k_a1 fl_X9_56 dX9_tier_4 (fun a2 k_a2 hf => ?_)
  refine y_astore_n B hl dX9_tier_7 rfl (by decide) rfl (fun ls hl => ?_)
  have hl : xL ls 4 [_, _, _, _] := hl
  refine lv_iload_n B.1.1 B.1.2.1 dX9_tier_8 rfl (hl.at 1 rfl) ?_
  refine y_if_lt (tgt := 30) B hf dX9_tier_9 (by decide) (fun hf => ?_) (fun hf => ?_)
  · refine lv_bipush (v := -2) B.1.1 B.1.2.1 dX9_tier_30 (by decide) ?_
    exact y_iret B hR hS hf dX9_tier_32
  · refine lv_iload_n B.1.1 B.1.2.1 dX9_tier_12 rfl (hl.at 1 rfl) ?_
    refine lv_aload_n B.1.1 B.1.2.1 dX9_tier_13 rfl (hl.at 3 rfl) ?_
    refine y_getI B hR k_a2 fl_X9_102 dX9_tier_14 ?_
    refine y_icmp_ge (tgt := 30) B hf dX9_tier_17 (by decide) (fun hf => ?_) (fun hf => ?_)
    · refine lv_bipush (v := -2) B.1.1 B.1.2.1 dX9_tier_30 (by decide) ?_
      exact y_iret B hR hS hf dX9_tier_32
    · refine lv_iload_n B.1.1 B.1.2.1 dX9_tier_20 rfl (hl.at 2 rfl) ?_
      refine y_if_lt (tgt := 30) B hf dX9_tier_21 (by decide) (fun hf => ?_) (fun hf => ?_)
      · refine lv_bipush (v := -2) B.1.1 B.1.2.1 dX9_tier_30 (by decide) ?_
        exact y_iret B hR hS hf dX9_tier_32
      · refine lv_iload_n B.1.1 B.1.2.1 dX9_tier_24 rfl (hl.at 2 rfl) ?_
        refine lv_bipush (v := 8) B.1.1 B.1.2.1 dX9_tier_25 (by decide) ?_
        refine y_icmp_le (tgt := 33) B hf dX9_tier_27 (by decide) (fun hf => ?_) (fun hf => ?_)
        · refine lv_iload_n B.1.1 B.1.2.1 dX9_tier_33 rfl (hl.at 2 rfl) ?_
          refine y_if_ne (tgt := 46) B hf dX9_tier_34 (by decide) (fun hf => ?_) (fun hf => ?_)
          · refine lv_aload_n B.1.1 B.1.2.1 dX9_tier_46 rfl (hl.at 3 rfl) ?_
            refine y_getR B hR hf k_a2 fl_X9_109 dX9_tier_47 (fun a3 k_a3 hf => ?_)
            refine lv_iload_n B.1.1 B.1.2.1 dX9_tier_50 rfl (hl.at 1 rfl) ?_
            refine lv_bipush (v := 8) B.1.1 B.1.2.1 dX9_tier_51 (by decide) ?_
            refine lv_imul B.1.1 B.1.2.1 dX9_tier_53 ?_
            refine lv_iload_n B.1.1 B.1.2.1 dX9_tier_54 rfl (hl.at 2 rfl) ?_
            refine lv_iadd B.1.1 B.1.2.1 dX9_tier_55 ?_
            refine lv_iconst (v := 1) B.1.1 B.1.2.1 dX9_tier_56 (by decide) ?_
            refine lv_isub B.1.1 B.1.2.1 dX9_tier_57 ?_
            refine y_iald B hR hf k_a3 dX9_tier_58 (fun v4 hf => ?_)
            exact y_iret B hR hS hf dX9_tier_59
          · refine lv_aload_n B.1.1 B.1.2.1 dX9_tier_37 rfl (hl.at 3 rfl) ?_
            refine y_getR B hR hf k_a2 fl_X9_105 dX9_tier_38 (fun a5 k_a5 hf => ?_)
            refine lv_iload_n B.1.1 B.1.2.1 dX9_tier_41 rfl (hl.at 1 rfl) ?_
            refine y_iald B hR hf k_a5 dX9_tier_42 (fun v6 hf => ?_)
            refine lv_goto (tgt := 59) B.1.1 B.1.2.1 dX9_tier_43 (by decide) ?_
            exact y_iret B hR hS hf dX9_tier_59
        · refine lv_bipush (v := -2) B.1.1 B.1.2.1 dX9_tier_30 (by decide) ?_
          exact y_iret B hR hS hf dX9_tier_32
