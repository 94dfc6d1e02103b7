abbrev xr_X10_readAct : Room := { frames := 7, cells := 0, slots := 0, locals := 148 }
def f_X10_readAct_127 (T : xT) (S : xS) (p0 : Nat) : Option (Int32 × xS) := xpi S p0 29 (((S.1 p0 29) + (1 : Int32))) (fun S1 => xc (f_X10_takes T S1 p0 ((59 : Int32))) (fun r3 S2 => xgd (xnz r3) (some (r3, S2))))
set_option maxRecDepth 100000 in
set_option maxHeartbeats 4000000 in
theorem w_X10_readAct_127 {p : Program} {l : Launch} {e : Env} {s : State} {m : MethodId} {args : Array Value} {below : List Frame} {meth : Method} {c : Code} {z : Nat} {D : va_G} {dA : Nat → ClassId} {T : xT} (B : xB p s m args meth c cX10_readAct RX10 4 (some .boolean) D dA) {q : Int32 × xS} : ∀ (S : xS) (H : Heap) (locs : List Loc) (ls : Array Slot) (p0 : Nat), xlk T p0 10 = true → f_X10_readAct_127 T S p0 = some q → xRel z D dA T S H → va_S (xA z) s.heap H locs → xL ls 4 [some (.ref (z + p0)), none, none, none] → xGi p l e xr_X10_readAct s m args below meth c z D dA T q H locs 127 ls [] := by
  intro S H locs ls p0 k_p0 hf hR hS hl
  unfold f_X10_readAct_127 at hf
  refine lv_aload_n B.1.1 B.1.2.1 dX10_readAct_127 rfl (hl.at 0 rfl) ?_
  refine lv_dup B.1.1 B.1.2.1 dX10_readAct_128 rfl ?_
  refine y_getI B hR k_p0 fl_X10_395 dX10_readAct_129 ?_
  refine lv_iconst (v := 1) B.1.1 B.1.2.1 dX10_readAct_132 (by decide) ?_
  refine lv_iadd B.1.1 B.1.2.1 dX10_readAct_133 ?_
  refine y_putI B hR hS hf k_p0 fp_X10_395 dX10_readAct_134 (fun S1 H locs hf hR hS => ?_)
  refine lv_aload_n B.1.1 B.1.2.1 dX10_readAct_137 rfl (hl.at 0 rfl) ?_
  refine lv_bipush (v := 59) B.1.1 B.1.2.1 dX10_readAct_138 (by decide) ?_
  refine y_ci hf (fun q hq => x_runV (ci := 10) (C := RX10) B.1 B.2.2.2 hl hR hS cm_X10_170 ⟨rfl, rfl, Nat.le_of_ble_eq_true rfl, Nat.le_of_ble_eq_true rfl⟩ (by decide) rfl k_p0 (c_X10_takes k_p0 hq) rfl rfl (Nat.le_of_ble_eq_true rfl) dX10_readAct_140 ⟨Nat.le_of_ble_eq_true rfl, Nat.le_of_ble_eq_true rfl⟩) hS (fun r3 S2 H locs hf hR hS => ?_)
  exact y_zret B hR hS hf dX10_readAct_143
def f_X10_readAct_106 (T : xT) (S : xS) (p0 : Nat) (p2 : Int32) (p3 : Int32) : Option (Int32 × xS) := if p3 = (0 : Int32) then f_X10_readAct_127 T S p0 else xgr T S p0 27 20 (fun a1 => xgr T S p0 27 20 (fun a2 => xai T S a2 ((p2 + (2 : Int32))) (fun v3 => xst T S a1 ((p2 + (2 : Int32))) ((-v3)) (fun S4 => f_X10_readAct_127 T S4 p0))))
set_option maxRecDepth 100000 in
set_option maxHeartbeats 4000000 in
theorem w_X10_readAct_106 {p : Program} {l : Launch} {e : Env} {s : State} {m : MethodId} {args : Array Value} {below : List Frame} {meth : Method} {c : Code} {z : Nat} {D : va_G} {dA : Nat → ClassId} {T : xT} (B : xB p s m args meth c cX10_readAct RX10 4 (some .boolean) D dA) {q : Int32 × xS} : ∀ (S : xS) (H : Heap) (locs : List Loc) (ls : Array Slot) (p0 : Nat) (p2 : Int32) (p3 : Int32), xlk T p0 10 = true → f_X10_readAct_106 T S p0 p2 p3 = some q → xRel z D dA T S H → va_S (xA z) s.heap H locs → xL ls 4 [some (.ref (z + p0)), none, some (.int p2), some (.int p3)] → xGi p l e xr_X10_readAct s m args below meth c z D dA T q H locs 106 ls [] := by
  intro S H locs ls p0 p2 p3 k_p0 hf hR hS hl
  unfold f_X10_readAct_106 at hf
  refine lv_iload_n B.1.1 B.1.2.1 dX10_readAct_106 rfl (hl.at 3 rfl) ?_
  refine y_if_eq (tgt := 127) B hf dX10_readAct_107 (by decide) (fun hf => ?_) (fun hf => ?_)
  · exact w_X10_readAct_127 B _ _ _ _ _ k_p0 hf hR hS (hl.drop [true, false, false, false] rfl)
  · refine lv_aload_n B.1.1 B.1.2.1 dX10_readAct_110 rfl (hl.at 0 rfl) ?_
    refine y_getR B hR hf k_p0 fl_X10_56 dX10_readAct_111 (fun a1 k_a1 hf => ?_)
    refine lv_iload_n B.1.1 B.1.2.1 dX10_readAct_114 rfl (hl.at 2 rfl) ?_
    refine lv_iconst (v := 2) B.1.1 B.1.2.1 dX10_readAct_115 (by decide) ?_
    refine lv_iadd B.1.1 B.1.2.1 dX10_readAct_116 ?_
    refine lv_aload_n B.1.1 B.1.2.1 dX10_readAct_117 rfl (hl.at 0 rfl) ?_
    refine y_getR B hR hf k_p0 fl_X10_56 dX10_readAct_118 (fun a2 k_a2 hf => ?_)
    refine lv_iload_n B.1.1 B.1.2.1 dX10_readAct_121 rfl (hl.at 2 rfl) ?_
    refine lv_iconst (v := 2) B.1.1 B.1.2.1 dX10_readAct_122 (by decide) ?_
    refine lv_iadd B.1.1 B.1.2.1 dX10_readAct_123 ?_
    refine y_iald B hR hf k_a2 dX10_readAct_124 (fun v3 hf => ?_)
    refine lv_ineg B.1.1 B.1.2.1 dX10_readAct_125 ?_
    refine y_iast B hR hS hf k_a1 dX10_readAct_126 (fun S4 H locs hf hR hS => ?_)
    exact w_X10_readAct_127 B _ _ _ _ _ k_p0 hf hR hS (hl.drop [true, false, false, false] rfl)
def f_X10_readAct_86 (T : xT) (S : xS) (p0 : Nat) (p1 : Int32) (p2 : Int32) (p3 : Int32) : Option (Int32 × xS) := if p1 = (0 : Int32) then f_X10_readAct_106 T S p0 p2 p3 else if p1 = (9 : Int32) then f_X10_readAct_106 T S p0 p2 p3 else xc (f_X10_readMuch T S p0 p2) (fun r2 S1 => if r2 = (0 : Int32) then some ((0 : Int32), S1) else f_X10_readAct_106 T S1 p0 p2 p3)
set_option maxRecDepth 100000 in
set_option maxHeartbeats 4000000 in
theorem w_X10_readAct_86 {p : Program} {l : Launch} {e : Env} {s : State} {m : MethodId} {args : Array Value} {below : List Frame} {meth : Method} {c : Code} {z : Nat} {D : va_G} {dA : Nat → ClassId} {T : xT} (B : xB p s m args meth c cX10_readAct RX10 4 (some .boolean) D dA) {q : Int32 × xS} : ∀ (S : xS) (H : Heap) (locs : List Loc) (ls : Array Slot) (p0 : Nat) (p1 : Int32) (p2 : Int32) (p3 : Int32), xlk T p0 10 = true → f_X10_readAct_86 T S p0 p1 p2 p3 = some q → xRel z D dA T S H → va_S (xA z) s.heap H locs → xL ls 4 [some (.ref (z + p0)), some (.int p1), some (.int p2), some (.int p3)] → xGi p l e xr_X10_readAct s m args below meth c z D dA T q H locs 86 ls [] := by
  intro S H locs ls p0 p1 p2 p3 k_p0 hf hR hS hl
  unfold f_X10_readAct_86 at hf
  refine lv_iload_n B.1.1 B.1.2.1 dX10_readAct_86 rfl (hl.at 1 rfl) ?_
  refine y_if_eq (tgt := 106) B hf dX10_readAct_87 (by decide) (fun hf => ?_) (fun hf => ?_)
  · exact w_X10_readAct_106 B _ _ _ _ _ _ _ k_p0 hf hR hS (hl.drop [true, false, true, true] rfl)
  · refine lv_iload_n B.1.1 B.1.2.1 dX10_readAct_90 rfl (hl.at 1 rfl) ?_
    refine lv_bipush (v := 9) B.1.1 B.1.2.1 dX10_readAct_91 (by decide) ?_
    refine y_icmp_eq (tgt := 106) B hf dX10_readAct_93 (by decide) (fun hf => ?_) (fun hf => ?_)
    · exact w_X10_readAct_106 B _ _ _ _ _ _ _ k_p0 hf hR hS (hl.drop [true, false, true, true] rfl)
    · refine lv_aload_n B.1.1 B.1.2.1 dX10_readAct_96 rfl (hl.at 0 rfl) ?_
      refine lv_iload_n B.1.1 B.1.2.1 dX10_readAct_97 rfl (hl.at 2 rfl) ?_
      refine y_ci hf (fun q hq => x_runV (ci := 10) (C := RX10) B.1 B.2.2.2 hl hR hS cm_X10_401 ⟨rfl, rfl, Nat.le_of_ble_eq_true rfl, Nat.le_of_ble_eq_true rfl⟩ (by decide) rfl k_p0 (c_X10_readMuch k_p0 hq) rfl rfl (Nat.le_of_ble_eq_true rfl) dX10_readAct_98 ⟨Nat.le_of_ble_eq_true rfl, Nat.le_of_ble_eq_true rfl⟩) hS (fun r2 S1 H locs hf hR hS => ?_)
      refine y_if_ne (tgt := 106) B hf dX10_readAct_101 (by decide) (fun hf => ?_) (fun hf => ?_)
      · exact w_X10_readAct_106 B _ _ _ _ _ _ _ k_p0 hf hR hS (hl.drop [true, false, true, true] rfl)
      · refine lv_iconst (v := 0) B.1.1 B.1.2.1 dX10_readAct_104 (by decide) ?_
        exact y_zretK B hR hS hf rfl dX10_readAct_105
def f_X10_readAct_70 (T : xT) (S : xS) (p0 : Nat) (p1 : Int32) (p2 : Int32) (p3 : Int32) : Option (Int32 × xS) := if p1 ≤ (1 : Int32) then f_X10_readAct_86 T S p0 p1 p2 p3 else xc (f_X10_readWho T S p0 p2 p1) (fun r2 S1 => if r2 = (0 : Int32) then some ((0 : Int32), S1) else f_X10_readAct_86 T S1 p0 p1 p2 p3)
set_option maxRecDepth 100000 in
set_option maxHeartbeats 4000000 in
theorem w_X10_readAct_70 {p : Program} {l : Launch} {e : Env} {s : State} {m : MethodId} {args : Array Value} {below : List Frame} {meth : Method} {c : Code} {z : Nat} {D : va_G} {dA : Nat → ClassId} {T : xT} (B : xB p s m args meth c cX10_readAct RX10 4 (some .boolean) D dA) {q : Int32 × xS} : ∀ (S : xS) (H : Heap) (locs : List Loc) (ls : Array Slot) (p0 : Nat) (p1 : Int32) (p2 : Int32) (p3 : Int32), xlk T p0 10 = true → f_X10_readAct_70 T S p0 p1 p2 p3 = some q → xRel z D dA T S H → va_S (xA z) s.heap H locs → xL ls 4 [some (.ref (z + p0)), some (.int p1), some (.int p2), some (.int p3)] → xGi p l e xr_X10_readAct s m args below meth c z D dA T q H locs 70 ls [] := by
  intro S H locs ls p0 p1 p2 p3 k_p0 hf hR hS hl
  unfold f_X10_readAct_70 at hf
  refine lv_iload_n B.1.1 B.1.2.1 dX10_readAct_70 rfl (hl.at 1 rfl) ?_
  refine lv_iconst (v := 1) B.1.1 B.1.2.1 dX10_readAct_71 (by decide) ?_
  refine y_icmp_le (tgt := 86) B hf dX10_readAct_72 (by decide) (fun hf => ?_) (fun hf => ?_)
  · exact w_X10_readAct_86 B _ _ _ _ _ _ _ _ k_p0 hf hR hS hl
  · refine lv_aload_n B.1.1 B.1.2.1 dX10_readAct_75 rfl (hl.at 0 rfl) ?_
    refine lv_iload_n B.1.1 B.1.2.1 dX10_readAct_76 rfl (hl.at 2 rfl) ?_
    refine lv_iload_n B.1.1 B.1.2.1 dX10_readAct_77 rfl (hl.at 1 rfl) ?_
    refine y_ci hf (fun q hq => x_runV (ci := 10) (C := RX10) B.1 B.2.2.2 hl hR hS cm_X10_398 ⟨rfl, rfl, Nat.le_of_ble_eq_true rfl, Nat.le_of_ble_eq_true rfl⟩ (by decide) rfl k_p0 (c_X10_readWho k_p0 hq) rfl rfl (Nat.le_of_ble_eq_true rfl) dX10_readAct_78 ⟨Nat.le_of_ble_eq_true rfl, Nat.le_of_ble_eq_true rfl⟩) hS (fun r2 S1 H locs hf hR hS => ?_)
    refine y_if_ne (tgt := 86) B hf dX10_readAct_81 (by decide) (fun hf => ?_) (fun hf => ?_)
    · exact w_X10_readAct_86 B _ _ _ _ _ _ _ _ k_p0 hf hR hS hl
    · refine lv_iconst (v := 0) B.1.1 B.1.2.1 dX10_readAct_84 (by decide) ?_
      exact y_zretK B hR hS hf rfl dX10_readAct_85
def f_X10_readAct (T : xT) (S : xS) (p0 : Nat) : Option (Int32 × xS) := xc (f_X10_actHere T S p0) (fun r2 S1 => xl r2 (fun v3 => if v3 = (-1 : Int32) then xc (f_X10_fails T S1 p0) (fun r5 S4 => xgd (xnz r5) (some (r5, S4))) else if (S1.1 p0 29) = (30 : Int32) then xc (f_X10_fails T S1 p0) (fun r17 S16 => xgd (xnz r17) (some (r17, S16))) else xcv (f_X10_nextToken T S1 p0) (fun S6 => xl (((3 : Int32) * (S6.1 p0 29))) (fun v7 => xgr T S6 p0 27 20 (fun a8 => xst T S6 a8 v7 v3 (fun S9 => if v3 = (1 : Int32) then if (S9.1 p0 8) = (45 : Int32) then xl ((1 : Int32)) (fun v14 => if v14 = (0 : Int32) then f_X10_readAct_70 T S9 p0 v3 v7 v14 else xcv (f_X10_nextToken T S9 p0) (fun S15 => f_X10_readAct_70 T S15 p0 v3 v7 v14)) else xl ((0 : Int32)) (fun v12 => if v12 = (0 : Int32) then f_X10_readAct_70 T S9 p0 v3 v7 v12 else xcv (f_X10_nextToken T S9 p0) (fun S13 => f_X10_readAct_70 T S13 p0 v3 v7 v12)) else xl ((0 : Int32)) (fun v10 => if v10 = (0 : Int32) then f_X10_readAct_70 T S9 p0 v3 v7 v10 else xcv (f_X10_nextToken T S9 p0) (fun S11 => f_X10_readAct_70 T S11 p0 v3 v7 v10))))))))
set_option maxRecDepth 100000 in
set_option maxHeartbeats 4000000 in
theorem c_X10_readAct {l : Launch} {z : Nat} {D : va_G} {dA : Nat → ClassId} {T : xT} {S : xS} {p0 : Nat} (k_p0 : xlk T p0 10 = true) {q : Int32 × xS} (hf : f_X10_readAct T S p0 = some q) : Met l yX10_readAct (xws yX10_readAct cX10_readAct 4 (some .boolean)) xr_X10_readAct (xPc z D dA T S [.ref (z + p0)]) (xQi z D dA T q) 0 0 (xA z) := by
  refine x_met RX10 (by decide) rfl (Nat.le_of_ble_eq_true rfl) ?_
  intro p e s m below meth c ls _ X hr hlk hml _ hR hS hl
  have B : xB p s m _ meth c cX10_readAct RX10 4 (some .boolean) D dA := ⟨X, hr, hlk, hml⟩
  have hl : xL ls 4 [_, _, _, _] := hl
  unfold f_X10_readAct at hf
  refine lv_aload_n B.1.1 B.1.2.1 dX10_readAct_0 rfl (hl.at 0 rfl) ?_
  refine y_ci hf (fun q hq => x_runV (ci := 10) (C := RX10) B.1 B.2.2.2 hl hR hS cm_X10_392 ⟨rfl, rfl, Nat.le_of_ble_eq_true rfl, Nat.le_of_ble_eq_true rfl⟩ (by decide) rfl k_p0 (c_X10_actHere k_p0 hq) rfl rfl (Nat.le_of_ble_eq_true rfl) dX10_readAct_1 ⟨Nat.le_of_ble_eq_true rfl, Nat.le_of_ble_eq_true rfl⟩) hS (fun r2 S1 H locs hf hR hS => ?_)
  refine y_istore_n B hl hf dX10_readAct_4 rfl (by decide) rfl (fun v3 ls hf hl => ?_)
  have hl : xL ls 4 [_, _, _, _] := hl
  refine lv_iload_n B.1.1 B.1.2.1 dX10_readAct_5 rfl (hl.at 1 rfl) ?_
  refine lv_iconst (v := -1) B.1.1 B.1.2.1 dX10_readAct_6 (by decide) ?_
  refine y_icmp_eq (tgt := 19) B hf dX10_readAct_7 (by decide) (fun hf => ?_) (fun hf => ?_)
  · refine lv_aload_n B.1.1 B.1.2.1 dX10_readAct_19 rfl (hl.at 0 rfl) ?_
    refine y_ci hf (fun q hq => x_runV (ci := 10) (C := RX10) B.1 B.2.2.2 hl hR hS cm_X10_154 ⟨rfl, rfl, Nat.le_of_ble_eq_true rfl, Nat.le_of_ble_eq_true rfl⟩ (by decide) rfl k_p0 (c_X10_fails k_p0 hq) rfl rfl (Nat.le_of_ble_eq_true rfl) dX10_readAct_20 ⟨Nat.le_of_ble_eq_true rfl, Nat.le_of_ble_eq_true rfl⟩) hS (fun r5 S4 H locs hf hR hS => ?_)
    exact y_zret B hR hS hf dX10_readAct_23
  · refine lv_aload_n B.1.1 B.1.2.1 dX10_readAct_10 rfl (hl.at 0 rfl) ?_
    refine y_getI B hR k_p0 fl_X10_395 dX10_readAct_11 ?_
    refine lv_bipush (v := 30) B.1.1 B.1.2.1 dX10_readAct_14 (by decide) ?_
    refine y_icmp_ne (tgt := 24) B hf dX10_readAct_16 (by decide) (fun hf => ?_) (fun hf => ?_)
    · refine lv_aload_n B.1.1 B.1.2.1 dX10_readAct_24 rfl (hl.at 0 rfl) ?_
      refine y_cv hf (fun q hq => x_runV (ci := 10) (C := RX10) B.1 B.2.2.2 hl hR hS cm_X10_147 ⟨rfl, rfl, Nat.le_of_ble_eq_true rfl, Nat.le_of_ble_eq_true rfl⟩ (by decide) rfl k_p0 (c_X10_nextToken k_p0 hq) rfl rfl (Nat.le_of_ble_eq_true rfl) dX10_readAct_25 ⟨Nat.le_of_ble_eq_true rfl, Nat.le_of_ble_eq_true rfl⟩) hS (fun S6 H locs hf hR hS => ?_)
      refine lv_iconst (v := 3) B.1.1 B.1.2.1 dX10_readAct_28 (by decide) ?_
      refine lv_aload_n B.1.1 B.1.2.1 dX10_readAct_29 rfl (hl.at 0 rfl) ?_
      refine y_getI B hR k_p0 fl_X10_395 dX10_readAct_30 ?_
      refine lv_imul B.1.1 B.1.2.1 dX10_readAct_33 ?_
      refine y_istore_n B hl hf dX10_readAct_34 rfl (by decide) rfl (fun v7 ls hf hl => ?_)
      have hl : xL ls 4 [_, _, _, _] := hl
      refine lv_aload_n B.1.1 B.1.2.1 dX10_readAct_35 rfl (hl.at 0 rfl) ?_
      refine y_getR B hR hf k_p0 fl_X10_56 dX10_readAct_36 (fun a8 k_a8 hf => ?_)
      refine lv_iload_n B.1.1 B.1.2.1 dX10_readAct_39 rfl (hl.at 2 rfl) ?_
      refine lv_iload_n B.1.1 B.1.2.1 dX10_readAct_40 rfl (hl.at 1 rfl) ?_
      refine y_iast B hR hS hf k_a8 dX10_readAct_41 (fun S9 H locs hf hR hS => ?_)
      refine lv_iload_n B.1.1 B.1.2.1 dX10_readAct_42 rfl (hl.at 1 rfl) ?_
      refine lv_iconst (v := 1) B.1.1 B.1.2.1 dX10_readAct_43 (by decide) ?_
      refine y_icmp_ne (tgt := 60) B hf dX10_readAct_44 (by decide) (fun hf => ?_) (fun hf => ?_)
      · refine lv_iconst (v := 0) B.1.1 B.1.2.1 dX10_readAct_60 (by decide) ?_
        refine y_istore_n B hl hf dX10_readAct_61 rfl (by decide) rfl (fun v10 ls hf hl => ?_)
        have hl : xL ls 4 [_, _, _, _] := hl
        refine lv_iload_n B.1.1 B.1.2.1 dX10_readAct_62 rfl (hl.at 3 rfl) ?_
        refine y_if_eq (tgt := 70) B hf dX10_readAct_63 (by decide) (fun hf => ?_) (fun hf => ?_)
        · exact w_X10_readAct_70 B _ _ _ _ _ _ _ _ k_p0 hf hR hS hl
        · refine lv_aload_n B.1.1 B.1.2.1 dX10_readAct_66 rfl (hl.at 0 rfl) ?_
          refine y_cv hf (fun q hq => x_runV (ci := 10) (C := RX10) B.1 B.2.2.2 hl hR hS cm_X10_147 ⟨rfl, rfl, Nat.le_of_ble_eq_true rfl, Nat.le_of_ble_eq_true rfl⟩ (by decide) rfl k_p0 (c_X10_nextToken k_p0 hq) rfl rfl (Nat.le_of_ble_eq_true rfl) dX10_readAct_67 ⟨Nat.le_of_ble_eq_true rfl, Nat.le_of_ble_eq_true rfl⟩) hS (fun S11 H locs hf hR hS => ?_)
          exact w_X10_readAct_70 B _ _ _ _ _ _ _ _ k_p0 hf hR hS hl
      · refine lv_aload_n B.1.1 B.1.2.1 dX10_readAct_47 rfl (hl.at 0 rfl) ?_
        refine y_getI B hR k_p0 fl_X10_129 dX10_readAct_48 ?_
        refine lv_bipush (v := 45) B.1.1 B.1.2.1 dX10_readAct_51 (by decide) ?_
        refine y_icmp_ne (tgt := 60) B hf dX10_readAct_53 (by decide) (fun hf => ?_) (fun hf => ?_)
        · refine lv_iconst (v := 0) B.1.1 B.1.2.1 dX10_readAct_60 (by decide) ?_
          refine y_istore_n B hl hf dX10_readAct_61 rfl (by decide) rfl (fun v12 ls hf hl => ?_)
          have hl : xL ls 4 [_, _, _, _] := hl
          refine lv_iload_n B.1.1 B.1.2.1 dX10_readAct_62 rfl (hl.at 3 rfl) ?_
          refine y_if_eq (tgt := 70) B hf dX10_readAct_63 (by decide) (fun hf => ?_) (fun hf => ?_)
          · exact w_X10_readAct_70 B _ _ _ _ _ _ _ _ k_p0 hf hR hS hl
          · refine lv_aload_n B.1.1 B.1.2.1 dX10_readAct_66 rfl (hl.at 0 rfl) ?_
            refine y_cv hf (fun q hq => x_runV (ci := 10) (C := RX10) B.1 B.2.2.2 hl hR hS cm_X10_147 ⟨rfl, rfl, Nat.le_of_ble_eq_true rfl, Nat.le_of_ble_eq_true rfl⟩ (by decide) rfl k_p0 (c_X10_nextToken k_p0 hq) rfl rfl (Nat.le_of_ble_eq_true rfl) dX10_readAct_67 ⟨Nat.le_of_ble_eq_true rfl, Nat.le_of_ble_eq_true rfl⟩) hS (fun S13 H locs hf hR hS => ?_)
            exact w_X10_readAct_70 B _ _ _ _ _ _ _ _ k_p0 hf hR hS hl
        · refine lv_iconst (v := 1) B.1.1 B.1.2.1 dX10_readAct_56 (by decide) ?_
          refine lv_goto (tgt := 61) B.1.1 B.1.2.1 dX10_readAct_57 (by decide) ?_
          refine y_istore_n B hl hf dX10_readAct_61 rfl (by decide) rfl (fun v14 ls hf hl => ?_)
          have hl : xL ls 4 [_, _, _, _] := hl
          refine lv_iload_n B.1.1 B.1.2.1 dX10_readAct_62 rfl (hl.at 3 rfl) ?_
          refine y_if_eq (tgt := 70) B hf dX10_readAct_63 (by decide) (fun hf => ?_) (fun hf => ?_)
          · exact w_X10_readAct_70 B _ _ _ _ _ _ _ _ k_p0 hf hR hS hl
          · refine lv_aload_n B.1.1 B.1.2.1 dX10_readAct_66 rfl (hl.at 0 rfl) ?_
            refine y_cv hf (fun q hq => x_runV (ci := 10) (C := RX10) B.1 B.2.2.2 hl hR hS cm_X10_147 ⟨rfl, rfl, Nat.le_of_ble_eq_true rfl, Nat.le_of_ble_eq_true rfl⟩ (by decide) rfl k_p0 (c_X10_nextToken k_p0 hq) rfl rfl (Nat.le_of_ble_eq_true rfl) dX10_readAct_67 ⟨Nat.le_of_ble_eq_true rfl, Nat.le_of_ble_eq_true rfl⟩) hS (fun S15 H locs hf hR hS => ?_)
            exact w_X10_readAct_70 B _ _ _ _ _ _ _ _ k_p0 hf hR hS hl
    · refine lv_aload_n B.1.1 B.1.2.1 dX10_readAct_19 rfl (hl.at 0 rfl) ?_
      refine y_ci hf (fun q hq => x_runV (ci := 10) (C := RX10) B.1 B.2.2.2 hl hR hS cm_X10_154 ⟨rfl, rfl, Nat.le_of_ble_eq_true rfl, Nat.le_of_ble_eq_true rfl⟩ (by decide) rfl k_p0 (c_X10_fails k_p0 hq) rfl rfl (Nat.le_of_ble_eq_true rfl) dX10_readAct_20 ⟨Nat.le_of_ble_eq_true rfl, Nat.le_of_ble_eq_true rfl⟩) hS (fun r17 S16 H locs hf hR hS => ?_)
      exact y_zret B hR hS hf dX10_readAct_23
abbrev xr_X10_readActs : Room := { frames := 8, cells := 0, slots := 0, locals := 171 }
def f_X10_readActs_9 (T : xT) : Nat → xS → Nat → Option (Int32 × xS)
  | 0, _, _ => none
  | n + 1, S, p0 => if (S.1 p0 8) = (0 : Int32) then some ((1 : Int32), S) else xc (f_X10_readAct T S p0) (fun r2 S1 => if r2 = (0 : Int32) then some ((0 : Int32), S1) else f_X10_readActs_9 T n S1 p0)
set_option maxRecDepth 100000 in
set_option maxHeartbeats 4000000 in
theorem w_X10_readActs_9 {p : Program} {l : Launch} {e : Env} {s : State} {m : MethodId} {args : Array Value} {below : List Frame} {meth : Method} {c : Code} {z : Nat} {D : va_G} {dA : Nat → ClassId} {T : xT} (B : xB p s m args meth c cX10_readActs RX10 1 (some .boolean) D dA) {q : Int32 × xS} : ∀ (n : Nat), ∀ (S : xS) (H : Heap) (locs : List Loc) (ls : Array Slot) (p0 : Nat), xlk T p0 10 = true → f_X10_readActs_9 T n S p0 = some q → xRel z D dA T S H → va_S (xA z) s.heap H locs → xL ls 1 [some (.ref (z + p0))] → xGi p l e xr_X10_readActs s m args below meth c z D dA T q H locs 9 ls [] := by
  intro n
  induction n with
  | zero =>
    intro S H locs ls p0 k_p0 hf hR hS hl
    exact absurd hf (by simp [f_X10_readActs_9])
  | succ n ih =>
    intro S H locs ls p0 k_p0 hf hR hS hl
    unfold f_X10_readActs_9 at hf
    refine lv_aload_n B.1.1 B.1.2.1 dX10_readActs_9 rfl (hl.at 0 rfl) ?_
    refine y_getI B hR k_p0 fl_X10_129 dX10_readActs_10 ?_
    refine y_if_eq (tgt := 25) B hf dX10_readActs_13 (by decide) (fun hf => ?_) (fun hf => ?_)
    · refine lv_iconst (v := 1) B.1.1 B.1.2.1 dX10_readActs_25 (by decide) ?_
      exact y_zretK B hR hS hf rfl dX10_readActs_26
    · refine lv_aload_n B.1.1 B.1.2.1 dX10_readActs_16 rfl (hl.at 0 rfl) ?_
      refine y_ci hf (fun q hq => x_runV (ci := 10) (C := RX10) B.1 B.2.2.2 hl hR hS cm_X10_404 ⟨rfl, rfl, Nat.le_of_ble_eq_true rfl, Nat.le_of_ble_eq_true rfl⟩ (by decide) rfl k_p0 (c_X10_readAct k_p0 hq) rfl rfl (Nat.le_of_ble_eq_true rfl) dX10_readActs_17 ⟨Nat.le_of_ble_eq_true rfl, Nat.le_of_ble_eq_true rfl⟩) hS (fun r2 S1 H locs hf hR hS => ?_)
      refine y_if_ne (tgt := 9) B hf dX10_readActs_20 (by decide) (fun hf => ?_) (fun hf => ?_)
      · exact ih _ _ _ _ _ k_p0 hf hR hS hl
      · refine lv_iconst (v := 0) B.1.1 B.1.2.1 dX10_readActs_23 (by decide) ?_
        exact y_zretK B hR hS hf rfl dX10_readActs_24
def f_X10_readActs (T : xT) (S : xS) (p0 : Nat) : Option (Int32 × xS) := xcv (f_X10_beginText T S p0) (fun S1 => xpi S1 p0 29 ((0 : Int32)) (fun S2 => f_X10_readActs_9 T xfu S2 p0))
set_option maxRecDepth 100000 in
set_option maxHeartbeats 4000000 in
theorem c_X10_readActs {l : Launch} {z : Nat} {D : va_G} {dA : Nat → ClassId} {T : xT} {S : xS} {p0 : Nat} (k_p0 : xlk T p0 10 = true) {q : Int32 × xS} (hf : f_X10_readActs T S p0 = some q) : Met l yX10_readActs (xws yX10_readActs cX10_readActs 1 (some .boolean)) xr_X10_readActs (xPc z D dA T S [.ref (z + p0)]) (xQi z D dA T q) 0 0 (xA z) := by
  refine x_met RX10 (by decide) rfl (Nat.le_of_ble_eq_true rfl) ?_
  intro p e s m below meth c ls _ X hr hlk hml _ hR hS hl
  have B : xB p s m _ meth c cX10_readActs RX10 1 (some .boolean) D dA := ⟨X, hr, hlk, hml⟩
  have hl : xL ls 1 [_] := hl
  unfold f_X10_readActs at hf
  refine lv_aload_n B.1.1 B.1.2.1 dX10_readActs_0 rfl (hl.at 0 rfl) ?_
  refine y_cv hf (fun q hq => x_runV (ci := 10) (C := RX10) B.1 B.2.2.2 hl hR hS cm_X10_173 ⟨rfl, rfl, Nat.le_of_ble_eq_true rfl, Nat.le_of_ble_eq_true rfl⟩ (by decide) rfl k_p0 (c_X10_beginText k_p0 hq) rfl rfl (Nat.le_of_ble_eq_true rfl) dX10_readActs_1 ⟨Nat.le_of_ble_eq_true rfl, Nat.le_of_ble_eq_true rfl⟩) hS (fun S1 H locs hf hR hS => ?_)
  refine lv_aload_n B.1.1 B.1.2.1 dX10_readActs_4 rfl (hl.at 0 rfl) ?_
  refine lv_iconst (v := 0) B.1.1 B.1.2.1 dX10_readActs_5 (by decide) ?_
  refine y_putI B hR hS hf k_p0 fp_X10_395 dX10_readActs_6 (fun S2 H locs hf hR hS => ?_)
  exact w_X10_readActs_9 B xfu _ _ _ _ _ k_p0 hf hR hS hl
abbrev xr_X10_doAct : Room := { frames := 10, cells := 0, slots := 0, locals := 212 }
def f_X10_doAct (T : xT) (S : xS) (p0 : Nat) (p1 : Int32) (p2 : Int32) (p3 : Int32) : Option (Int32 × xS) := if p1 = (0 : Int32) then xc (f_X10_close T S p0) (fun r3 S2 => some (r3, S2)) else if p1 = (1 : Int32) then xc (f_X10_earn T S p0 p3) (fun r6 S5 => some (r6, S5)) else if p1 = (2 : Int32) then xc (f_X10_lose T S p0 p2 p3) (fun r9 S8 => some (r9, S8)) else if p1 = (3 : Int32) then xc (f_X10_borrow T S p0 p2 p3) (fun r12 S11 => some (r12, S11)) else if p1 = (4 : Int32) then xc (f_X10_repay T S p0 p2 p3) (fun r15 S14 => some (r15, S14)) else if p1 = (5 : Int32) then xc (f_X10_market T S p0 p2 p3) (fun r18 S17 => some (r18, S17)) else if p1 = (6 : Int32) then xc (f_X10_pay T S p0 p2 p3) (fun r21 S20 => some (r21, S20)) else if p1 = (7 : Int32) then xc (f_X10_draw T S p0 p2 p3) (fun r24 S23 => some (r24, S23)) else if p1 = (8 : Int32) then xc (f_X10_come T S p0 p2 p3) (fun r27 S26 => some (r27, S26)) else xc (f_X10_go T S p0 p2) (fun r29 S28 => some (r29, S28))
set_option maxRecDepth 100000 in
set_option maxHeartbeats 4000000 in
theorem c_X10_doAct {l : Launch} {z : Nat} {D : va_G} {dA : Nat → ClassId} {T : xT} {S : xS} {p0 : Nat} {p1 : Int32} {p2 : Int32} {p3 : Int32} (k_p0 : xlk T p0 10 = true) {q : Int32 × xS} (hf : f_X10_doAct T S p0 p1 p2 p3 = some q) : Met l yX10_doAct (xws yX10_doAct cX10_doAct 4 (some .int)) xr_X10_doAct (xPc z D dA T S [.ref (z + p0), .int p1, .int p2, .int p3]) (xQi z D dA T q) 0 0 (xA z) := by
  refine x_met RX10 (by decide) rfl (Nat.le_of_ble_eq_true rfl) ?_
  intro p e s m below meth c ls _ X hr hlk hml _ hR hS hl
  have B : xB p s m _ meth c cX10_doAct RX10 4 (some .int) D dA := ⟨X, hr, hlk, hml⟩
  have hl : xL ls 4 [_, _, _, _] := hl
  unfold f_X10_doAct at hf
  refine lv_iload_n B.1.1 B.1.2.1 dX10_doAct_0 rfl (hl.at 1 rfl) ?_
  refine x_if hf (fun c1 hf => ?_) (fun c1 hf => ?_)
  · refine y_tcase (k := 0) (off := 51) (tgt := 52) B c1 dX10_doAct_1 (by decide) (by decide) (by decide) (by decide) ?_
    refine lv_aload_n B.1.1 B.1.2.1 dX10_doAct_52 rfl (hl.at 0 rfl) ?_
    refine y_ci hf (fun q hq => x_runV (ci := 10) (C := RX10) B.1 B.2.2.2 hl hR hS cm_X10_407 ⟨rfl, rfl, Nat.le_of_ble_eq_true rfl, Nat.le_of_ble_eq_true rfl⟩ (by decide) rfl k_p0 (c_X10_close k_p0 hq) rfl rfl (Nat.le_of_ble_eq_true rfl) dX10_doAct_53 ⟨Nat.le_of_ble_eq_true rfl, Nat.le_of_ble_eq_true rfl⟩) hS (fun r3 S2 H locs hf hR hS => ?_)
    exact y_iret B hR hS hf dX10_doAct_56
  refine x_if hf (fun c4 hf => ?_) (fun c4 hf => ?_)
  · refine y_tcase (k := 1) (off := 56) (tgt := 57) B c4 dX10_doAct_1 (by decide) (by decide) (by decide) (by decide) ?_
    refine lv_aload_n B.1.1 B.1.2.1 dX10_doAct_57 rfl (hl.at 0 rfl) ?_
    refine lv_iload_n B.1.1 B.1.2.1 dX10_doAct_58 rfl (hl.at 3 rfl) ?_
    refine y_ci hf (fun q hq => x_runV (ci := 10) (C := RX10) B.1 B.2.2.2 hl hR hS cm_X10_410 ⟨rfl, rfl, Nat.le_of_ble_eq_true rfl, Nat.le_of_ble_eq_true rfl⟩ (by decide) rfl k_p0 (c_X10_earn k_p0 hq) rfl rfl (Nat.le_of_ble_eq_true rfl) dX10_doAct_59 ⟨Nat.le_of_ble_eq_true rfl, Nat.le_of_ble_eq_true rfl⟩) hS (fun r6 S5 H locs hf hR hS => ?_)
    exact y_iret B hR hS hf dX10_doAct_62
  refine x_if hf (fun c7 hf => ?_) (fun c7 hf => ?_)
  · refine y_tcase (k := 2) (off := 62) (tgt := 63) B c7 dX10_doAct_1 (by decide) (by decide) (by decide) (by decide) ?_
    refine lv_aload_n B.1.1 B.1.2.1 dX10_doAct_63 rfl (hl.at 0 rfl) ?_
    refine lv_iload_n B.1.1 B.1.2.1 dX10_doAct_64 rfl (hl.at 2 rfl) ?_
    refine lv_iload_n B.1.1 B.1.2.1 dX10_doAct_65 rfl (hl.at 3 rfl) ?_
    refine y_ci hf (fun q hq => x_runV (ci := 10) (C := RX10) B.1 B.2.2.2 hl hR hS cm_X10_413 ⟨rfl, rfl, Nat.le_of_ble_eq_true rfl, Nat.le_of_ble_eq_true rfl⟩ (by decide) rfl k_p0 (c_X10_lose k_p0 hq) rfl rfl (Nat.le_of_ble_eq_true rfl) dX10_doAct_66 ⟨Nat.le_of_ble_eq_true rfl, Nat.le_of_ble_eq_true rfl⟩) hS (fun r9 S8 H locs hf hR hS => ?_)
    exact y_iret B hR hS hf dX10_doAct_69
  refine x_if hf (fun c10 hf => ?_) (fun c10 hf => ?_)
  · refine y_tcase (k := 3) (off := 69) (tgt := 70) B c10 dX10_doAct_1 (by decide) (by decide) (by decide) (by decide) ?_
    refine lv_aload_n B.1.1 B.1.2.1 dX10_doAct_70 rfl (hl.at 0 rfl) ?_
    refine lv_iload_n B.1.1 B.1.2.1 dX10_doAct_71 rfl (hl.at 2 rfl) ?_
    refine lv_iload_n B.1.1 B.1.2.1 dX10_doAct_72 rfl (hl.at 3 rfl) ?_
    refine y_ci hf (fun q hq => x_runV (ci := 10) (C := RX10) B.1 B.2.2.2 hl hR hS cm_X10_416 ⟨rfl, rfl, Nat.le_of_ble_eq_true rfl, Nat.le_of_ble_eq_true rfl⟩ (by decide) rfl k_p0 (c_X10_borrow k_p0 hq) rfl rfl (Nat.le_of_ble_eq_true rfl) dX10_doAct_73 ⟨Nat.le_of_ble_eq_true rfl, Nat.le_of_ble_eq_true rfl⟩) hS (fun r12 S11 H locs hf hR hS => ?_)
    exact y_iret B hR hS hf dX10_doAct_76
  refine x_if hf (fun c13 hf => ?_) (fun c13 hf => ?_)
  · refine y_tcase (k := 4) (off := 76) (tgt := 77) B c13 dX10_doAct_1 (by decide) (by decide) (by decide) (by decide) ?_
    refine lv_aload_n B.1.1 B.1.2.1 dX10_doAct_77 rfl (hl.at 0 rfl) ?_
    refine lv_iload_n B.1.1 B.1.2.1 dX10_doAct_78 rfl (hl.at 2 rfl) ?_
    refine lv_iload_n B.1.1 B.1.2.1 dX10_doAct_79 rfl (hl.at 3 rfl) ?_
    refine y_ci hf (fun q hq => x_runV (ci := 10) (C := RX10) B.1 B.2.2.2 hl hR hS cm_X10_419 ⟨rfl, rfl, Nat.le_of_ble_eq_true rfl, Nat.le_of_ble_eq_true rfl⟩ (by decide) rfl k_p0 (c_X10_repay k_p0 hq) rfl rfl (Nat.le_of_ble_eq_true rfl) dX10_doAct_80 ⟨Nat.le_of_ble_eq_true rfl, Nat.le_of_ble_eq_true rfl⟩) hS (fun r15 S14 H locs hf hR hS => ?_)
    exact y_iret B hR hS hf dX10_doAct_83
  refine x_if hf (fun c16 hf => ?_) (fun c16 hf => ?_)
  · refine y_tcase (k := 5) (off := 83) (tgt := 84) B c16 dX10_doAct_1 (by decide) (by decide) (by decide) (by decide) ?_
    refine lv_aload_n B.1.1 B.1.2.1 dX10_doAct_84 rfl (hl.at 0 rfl) ?_
    refine lv_iload_n B.1.1 B.1.2.1 dX10_doAct_85 rfl (hl.at 2 rfl) ?_
    refine lv_iload_n B.1.1 B.1.2.1 dX10_doAct_86 rfl (hl.at 3 rfl) ?_
    refine y_ci hf (fun q hq => x_runV (ci := 10) (C := RX10) B.1 B.2.2.2 hl hR hS cm_X10_422 ⟨rfl, rfl, Nat.le_of_ble_eq_true rfl, Nat.le_of_ble_eq_true rfl⟩ (by decide) rfl k_p0 (c_X10_market k_p0 hq) rfl rfl (Nat.le_of_ble_eq_true rfl) dX10_doAct_87 ⟨Nat.le_of_ble_eq_true rfl, Nat.le_of_ble_eq_true rfl⟩) hS (fun r18 S17 H locs hf hR hS => ?_)
    exact y_iret B hR hS hf dX10_doAct_90
  refine x_if hf (fun c19 hf => ?_) (fun c19 hf => ?_)
  · refine y_tcase (k := 6) (off := 90) (tgt := 91) B c19 dX10_doAct_1 (by decide) (by decide) (by decide) (by decide) ?_
    refine lv_aload_n B.1.1 B.1.2.1 dX10_doAct_91 rfl (hl.at 0 rfl) ?_
    refine lv_iload_n B.1.1 B.1.2.1 dX10_doAct_92 rfl (hl.at 2 rfl) ?_
    refine lv_iload_n B.1.1 B.1.2.1 dX10_doAct_93 rfl (hl.at 3 rfl) ?_
    refine y_ci hf (fun q hq => x_runV (ci := 10) (C := RX10) B.1 B.2.2.2 hl hR hS cm_X10_425 ⟨rfl, rfl, Nat.le_of_ble_eq_true rfl, Nat.le_of_ble_eq_true rfl⟩ (by decide) rfl k_p0 (c_X10_pay k_p0 hq) rfl rfl (Nat.le_of_ble_eq_true rfl) dX10_doAct_94 ⟨Nat.le_of_ble_eq_true rfl, Nat.le_of_ble_eq_true rfl⟩) hS (fun r21 S20 H locs hf hR hS => ?_)
    exact y_iret B hR hS hf dX10_doAct_97
  refine x_if hf (fun c22 hf => ?_) (fun c22 hf => ?_)
  · refine y_tcase (k := 7) (off := 97) (tgt := 98) B c22 dX10_doAct_1 (by decide) (by decide) (by decide) (by decide) ?_
    refine lv_aload_n B.1.1 B.1.2.1 dX10_doAct_98 rfl (hl.at 0 rfl) ?_
    refine lv_iload_n B.1.1 B.1.2.1 dX10_doAct_99 rfl (hl.at 2 rfl) ?_
    refine lv_iload_n B.1.1 B.1.2.1 dX10_doAct_100 rfl (hl.at 3 rfl) ?_
    refine y_ci hf (fun q hq => x_runV (ci := 10) (C := RX10) B.1 B.2.2.2 hl hR hS cm_X10_428 ⟨rfl, rfl, Nat.le_of_ble_eq_true rfl, Nat.le_of_ble_eq_true rfl⟩ (by decide) rfl k_p0 (c_X10_draw k_p0 hq) rfl rfl (Nat.le_of_ble_eq_true rfl) dX10_doAct_101 ⟨Nat.le_of_ble_eq_true rfl, Nat.le_of_ble_eq_true rfl⟩) hS (fun r24 S23 H locs hf hR hS => ?_)
    exact y_iret B hR hS hf dX10_doAct_104
  refine x_if hf (fun c25 hf => ?_) (fun c25 hf => ?_)
  · refine y_tcase (k := 8) (off := 104) (tgt := 105) B c25 dX10_doAct_1 (by decide) (by decide) (by decide) (by decide) ?_
    refine lv_aload_n B.1.1 B.1.2.1 dX10_doAct_105 rfl (hl.at 0 rfl) ?_
    refine lv_iload_n B.1.1 B.1.2.1 dX10_doAct_106 rfl (hl.at 2 rfl) ?_
    refine lv_iload_n B.1.1 B.1.2.1 dX10_doAct_107 rfl (hl.at 3 rfl) ?_
    refine y_ci hf (fun q hq => x_runV (ci := 10) (C := RX10) B.1 B.2.2.2 hl hR hS cm_X10_431 ⟨rfl, rfl, Nat.le_of_ble_eq_true rfl, Nat.le_of_ble_eq_true rfl⟩ (by decide) rfl k_p0 (c_X10_come k_p0 hq) rfl rfl (Nat.le_of_ble_eq_true rfl) dX10_doAct_108 ⟨Nat.le_of_ble_eq_true rfl, Nat.le_of_ble_eq_true rfl⟩) hS (fun r27 S26 H locs hf hR hS => ?_)
    exact y_iret B hR hS hf dX10_doAct_111
  have n0 := lv_neT c1 (a := 0) (by decide)
  have n1 := lv_neT c4 (a := 1) (by decide)
  have n2 := lv_neT c7 (a := 2) (by decide)
  have n3 := lv_neT c10 (a := 3) (by decide)
  have n4 := lv_neT c13 (a := 4) (by decide)
  have n5 := lv_neT c16 (a := 5) (by decide)
  have n6 := lv_neT c19 (a := 6) (by decide)
  have n7 := lv_neT c22 (a := 7) (by decide)
  have n8 := lv_neT c25 (a := 8) (by decide)
  refine y_tdef (tgt := 112) B dX10_doAct_1 (by omega) (by decide) ?_
  refine lv_aload_n B.1.1 B.1.2.1 dX10_doAct_112 rfl (hl.at 0 rfl) ?_
  refine lv_iload_n B.1.1 B.1.2.1 dX10_doAct_113 rfl (hl.at 2 rfl) ?_
  refine y_ci hf (fun q hq => x_runV (ci := 10) (C := RX10) B.1 B.2.2.2 hl hR hS cm_X10_434 ⟨rfl, rfl, Nat.le_of_ble_eq_true rfl, Nat.le_of_ble_eq_true rfl⟩ (by decide) rfl k_p0 (c_X10_go k_p0 hq) rfl rfl (Nat.le_of_ble_eq_true rfl) dX10_doAct_114 ⟨Nat.le_of_ble_eq_true rfl, Nat.le_of_ble_eq_true rfl⟩) hS (fun r29 S28 H locs hf hR hS => ?_)
  exact y_iret B hR hS hf dX10_doAct_117
abbrev xr_X10_acts : Room := { frames := 11, cells := 0, slots := 0, locals := 235 }
def f_X10_acts_26 (T : xT) : Nat → xS → Nat → Option (Int32 × xS)
  | 0, _, _ => none
  | n + 1, S, p0 => if (S.1 p0 29) ≤ (S.1 p0 30) then some ((S.1 p0 30), S) else if (S.1 p0 31) = (-1 : Int32) then xgr T S p0 27 20 (fun a1 => xai T S a1 (((3 : Int32) * (S.1 p0 30))) (fun v2 => xgr T S p0 27 20 (fun a3 => xai T S a3 ((((3 : Int32) * (S.1 p0 30)) + (1 : Int32))) (fun v4 => xgr T S p0 27 20 (fun a5 => xai T S a5 ((((3 : Int32) * (S.1 p0 30)) + (2 : Int32))) (fun v6 => xc (f_X10_doAct T S p0 v2 v4 v6) (fun r8 S7 => xl r8 (fun v9 => if (S7.1 p0 26) = (0 : Int32) then xpi S7 p0 31 ((S7.1 p0 30)) (fun S10 => f_X10_acts_26 T n S10 p0) else xgr T S7 p0 28 20 (fun a11 => xst T S7 a11 ((S7.1 p0 30)) v9 (fun S12 => xpi S12 p0 30 (((S12.1 p0 30) + (1 : Int32))) (fun S13 => f_X10_acts_26 T n S13 p0))))))))))) else some ((S.1 p0 30), S)
set_option maxRecDepth 100000 in
set_option maxHeartbeats 4000000 in
theorem w_X10_acts_26 {p : Program} {l : Launch} {e : Env} {s : State} {m : MethodId} {args : Array Value} {below : List Frame} {meth : Method} {c : Code} {z : Nat} {D : va_G} {dA : Nat → ClassId} {T : xT} (B : xB p s m args meth c cX10_acts RX10 3 (some .int) D dA) {q : Int32 × xS} : ∀ (n : Nat), ∀ (S : xS) (H : Heap) (locs : List Loc) (ls : Array Slot) (p0 : Nat), xlk T p0 10 = true → f_X10_acts_26 T n S p0 = some q → xRel z D dA T S H → va_S (xA z) s.heap H locs → xL ls 3 [some (.ref (z + p0)), none, none] → xGi p l e xr_X10_acts s m args below meth c z D dA T q H locs 26 ls [] := by
  intro n
  induction n with
  | zero =>
    intro S H locs ls p0 k_p0 hf hR hS hl
    exact absurd hf (by simp [f_X10_acts_26])
  | succ n ih =>
    intro S H locs ls p0 k_p0 hf hR hS hl
    unfold f_X10_acts_26 at hf
    refine lv_aload_n B.1.1 B.1.2.1 dX10_acts_26 rfl (hl.at 0 rfl) ?_
    refine y_getI B hR k_p0 fl_X10_440 dX10_acts_27 ?_
    refine lv_aload_n B.1.1 B.1.2.1 dX10_acts_30 rfl (hl.at 0 rfl) ?_
    refine y_getI B hR k_p0 fl_X10_395 dX10_acts_31 ?_
    refine y_icmp_ge (tgt := 128) B hf dX10_acts_34 (by decide) (fun hf => ?_) (fun hf => ?_)
    · refine lv_aload_n B.1.1 B.1.2.1 dX10_acts_128 rfl (hl.at 0 rfl) ?_
      refine y_getI B hR k_p0 fl_X10_440 dX10_acts_129 ?_
      exact y_iret B hR hS hf dX10_acts_132
    · refine lv_aload_n B.1.1 B.1.2.1 dX10_acts_37 rfl (hl.at 0 rfl) ?_
      refine y_getI B hR k_p0 fl_X10_62 dX10_acts_38 ?_
      refine lv_iconst (v := -1) B.1.1 B.1.2.1 dX10_acts_41 (by decide) ?_
      refine y_icmp_ne (tgt := 128) B hf dX10_acts_42 (by decide) (fun hf => ?_) (fun hf => ?_)
      · refine lv_aload_n B.1.1 B.1.2.1 dX10_acts_128 rfl (hl.at 0 rfl) ?_
        refine y_getI B hR k_p0 fl_X10_440 dX10_acts_129 ?_
        exact y_iret B hR hS hf dX10_acts_132
      · refine lv_aload_n B.1.1 B.1.2.1 dX10_acts_45 rfl (hl.at 0 rfl) ?_
        refine lv_aload_n B.1.1 B.1.2.1 dX10_acts_46 rfl (hl.at 0 rfl) ?_
        refine y_getR B hR hf k_p0 fl_X10_56 dX10_acts_47 (fun a1 k_a1 hf => ?_)
        refine lv_iconst (v := 3) B.1.1 B.1.2.1 dX10_acts_50 (by decide) ?_
        refine lv_aload_n B.1.1 B.1.2.1 dX10_acts_51 rfl (hl.at 0 rfl) ?_
        refine y_getI B hR k_p0 fl_X10_440 dX10_acts_52 ?_
        refine lv_imul B.1.1 B.1.2.1 dX10_acts_55 ?_
        refine y_iald B hR hf k_a1 dX10_acts_56 (fun v2 hf => ?_)
        refine lv_aload_n B.1.1 B.1.2.1 dX10_acts_57 rfl (hl.at 0 rfl) ?_
        refine y_getR B hR hf k_p0 fl_X10_56 dX10_acts_58 (fun a3 k_a3 hf => ?_)
        refine lv_iconst (v := 3) B.1.1 B.1.2.1 dX10_acts_61 (by decide) ?_
        refine lv_aload_n B.1.1 B.1.2.1 dX10_acts_62 rfl (hl.at 0 rfl) ?_
        refine y_getI B hR k_p0 fl_X10_440 dX10_acts_63 ?_
        refine lv_imul B.1.1 B.1.2.1 dX10_acts_66 ?_
        refine lv_iconst (v := 1) B.1.1 B.1.2.1 dX10_acts_67 (by decide) ?_
        refine lv_iadd B.1.1 B.1.2.1 dX10_acts_68 ?_
        refine y_iald B hR hf k_a3 dX10_acts_69 (fun v4 hf => ?_)
        refine lv_aload_n B.1.1 B.1.2.1 dX10_acts_70 rfl (hl.at 0 rfl) ?_
        refine y_getR B hR hf k_p0 fl_X10_56 dX10_acts_71 (fun a5 k_a5 hf => ?_)
        refine lv_iconst (v := 3) B.1.1 B.1.2.1 dX10_acts_74 (by decide) ?_
        refine lv_aload_n B.1.1 B.1.2.1 dX10_acts_75 rfl (hl.at 0 rfl) ?_
        refine y_getI B hR k_p0 fl_X10_440 dX10_acts_76 ?_
        refine lv_imul B.1.1 B.1.2.1 dX10_acts_79 ?_
        refine lv_iconst (v := 2) B.1.1 B.1.2.1 dX10_acts_80 (by decide) ?_
        refine lv_iadd B.1.1 B.1.2.1 dX10_acts_81 ?_
        refine y_iald B hR hf k_a5 dX10_acts_82 (fun v6 hf => ?_)
        refine y_ci hf (fun q hq => x_runV (ci := 10) (C := RX10) B.1 B.2.2.2 hl hR hS cm_X10_443 ⟨rfl, rfl, Nat.le_of_ble_eq_true rfl, Nat.le_of_ble_eq_true rfl⟩ (by decide) rfl k_p0 (c_X10_doAct k_p0 hq) rfl rfl (Nat.le_of_ble_eq_true rfl) dX10_acts_83 ⟨Nat.le_of_ble_eq_true rfl, Nat.le_of_ble_eq_true rfl⟩) hS (fun r8 S7 H locs hf hR hS => ?_)
        refine y_istore_n B hl hf dX10_acts_86 rfl (by decide) rfl (fun v9 ls hf hl => ?_)
        have hl : xL ls 3 [_, _, _] := hl
        refine lv_aload_n B.1.1 B.1.2.1 dX10_acts_87 rfl (hl.at 0 rfl) ?_
        refine y_getI B hR k_p0 fl_X10_356 dX10_acts_88 ?_
        refine y_if_eq (tgt := 117) B hf dX10_acts_91 (by decide) (fun hf => ?_) (fun hf => ?_)
        · refine lv_aload_n B.1.1 B.1.2.1 dX10_acts_117 rfl (hl.at 0 rfl) ?_
          refine lv_aload_n B.1.1 B.1.2.1 dX10_acts_118 rfl (hl.at 0 rfl) ?_
          refine y_getI B hR k_p0 fl_X10_440 dX10_acts_119 ?_
          refine y_putI B hR hS hf k_p0 fp_X10_62 dX10_acts_122 (fun S10 H locs hf hR hS => ?_)
          refine lv_goto (tgt := 26) B.1.1 B.1.2.1 dX10_acts_125 (by decide) ?_
          exact ih _ _ _ _ _ k_p0 hf hR hS (hl.drop [true, false, false] rfl)
        · refine lv_aload_n B.1.1 B.1.2.1 dX10_acts_94 rfl (hl.at 0 rfl) ?_
          refine y_getR B hR hf k_p0 fl_X10_59 dX10_acts_95 (fun a11 k_a11 hf => ?_)
          refine lv_aload_n B.1.1 B.1.2.1 dX10_acts_98 rfl (hl.at 0 rfl) ?_
          refine y_getI B hR k_p0 fl_X10_440 dX10_acts_99 ?_
          refine lv_iload_n B.1.1 B.1.2.1 dX10_acts_102 rfl (hl.at 2 rfl) ?_
          refine y_iast B hR hS hf k_a11 dX10_acts_103 (fun S12 H locs hf hR hS => ?_)
          refine lv_aload_n B.1.1 B.1.2.1 dX10_acts_104 rfl (hl.at 0 rfl) ?_
          refine lv_dup B.1.1 B.1.2.1 dX10_acts_105 rfl ?_
          refine y_getI B hR k_p0 fl_X10_440 dX10_acts_106 ?_
          refine lv_iconst (v := 1) B.1.1 B.1.2.1 dX10_acts_109 (by decide) ?_
          refine lv_iadd B.1.1 B.1.2.1 dX10_acts_110 ?_
          refine y_putI B hR hS hf k_p0 fp_X10_440 dX10_acts_111 (fun S13 H locs hf hR hS => ?_)
          refine lv_goto (tgt := 125) B.1.1 B.1.2.1 dX10_acts_114 (by decide) ?_
          refine lv_goto (tgt := 26) B.1.1 B.1.2.1 dX10_acts_125 (by decide) ?_
          exact ih _ _ _ _ _ k_p0 hf hR hS (hl.drop [true, false, false] rfl)
def f_X10_acts (T : xT) (S : xS) (p0 : Nat) : Option (Int32 × xS) := xc (f_X10_readActs T S p0) (fun r2 S1 => xl r2 (fun v3 => xpi S1 p0 5 ((0 : Int32)) (fun S4 => if v3 = (0 : Int32) then some ((-1 : Int32), S4) else xpi S4 p0 30 ((0 : Int32)) (fun S5 => xpi S5 p0 31 ((-1 : Int32)) (fun S6 => f_X10_acts_26 T xfu S6 p0)))))
set_option maxRecDepth 100000 in
set_option maxHeartbeats 4000000 in
theorem c_X10_acts {l : Launch} {z : Nat} {D : va_G} {dA : Nat → ClassId} {T : xT} {S : xS} {p0 : Nat} (k_p0 : xlk T p0 10 = true) {q : Int32 × xS} (hf : f_X10_acts T S p0 = some q) : Met l yX10_acts (xws yX10_acts cX10_acts 3 (some .int)) xr_X10_acts (xPc z D dA T S [.ref (z + p0)]) (xQi z D dA T q) 0 0 (xA z) := by
  refine x_met RX10 (by decide) rfl (Nat.le_of_ble_eq_true rfl) ?_
  intro p e s m below meth c ls _ X hr hlk hml _ hR hS hl
  have B : xB p s m _ meth c cX10_acts RX10 3 (some .int) D dA := ⟨X, hr, hlk, hml⟩
  have hl : xL ls 3 [_, _, _] := hl
  unfold f_X10_acts at hf
  refine lv_aload_n B.1.1 B.1.2.1 dX10_acts_0 rfl (hl.at 0 rfl) ?_
  refine y_ci hf (fun q hq => x_runV (ci := 10) (C := RX10) B.1 B.2.2.2 hl hR hS cm_X10_437 ⟨rfl, rfl, Nat.le_of_ble_eq_true rfl, Nat.le_of_ble_eq_true rfl⟩ (by decide) rfl k_p0 (c_X10_readActs k_p0 hq) rfl rfl (Nat.le_of_ble_eq_true rfl) dX10_acts_1 ⟨Nat.le_of_ble_eq_true rfl, Nat.le_of_ble_eq_true rfl⟩) hS (fun r2 S1 H locs hf hR hS => ?_)
  refine y_istore_n B hl hf dX10_acts_4 rfl (by decide) rfl (fun v3 ls hf hl => ?_)
  have hl : xL ls 3 [_, _, _] := hl
  refine lv_aload_n B.1.1 B.1.2.1 dX10_acts_5 rfl (hl.at 0 rfl) ?_
  refine lv_iconst (v := 0) B.1.1 B.1.2.1 dX10_acts_6 (by decide) ?_
  refine y_putI B hR hS hf k_p0 fp_X10_88 dX10_acts_7 (fun S4 H locs hf hR hS => ?_)
  refine lv_iload_n B.1.1 B.1.2.1 dX10_acts_10 rfl (hl.at 1 rfl) ?_
  refine y_if_ne (tgt := 16) B hf dX10_acts_11 (by decide) (fun hf => ?_) (fun hf => ?_)
  · refine lv_aload_n B.1.1 B.1.2.1 dX10_acts_16 rfl (hl.at 0 rfl) ?_
    refine lv_iconst (v := 0) B.1.1 B.1.2.1 dX10_acts_17 (by decide) ?_
    refine y_putI B hR hS hf k_p0 fp_X10_440 dX10_acts_18 (fun S5 H locs hf hR hS => ?_)
    refine lv_aload_n B.1.1 B.1.2.1 dX10_acts_21 rfl (hl.at 0 rfl) ?_
    refine lv_iconst (v := -1) B.1.1 B.1.2.1 dX10_acts_22 (by decide) ?_
    refine y_putI B hR hS hf k_p0 fp_X10_62 dX10_acts_23 (fun S6 H locs hf hR hS => ?_)
    exact w_X10_acts_26 B xfu _ _ _ _ _ k_p0 hf hR hS (hl.drop [true, false, false] rfl)
  · refine lv_iconst (v := -1) B.1.1 B.1.2.1 dX10_acts_14 (by decide) ?_
    exact y_iret B hR hS hf dX10_acts_15
abbrev xr_X10_ended : Room := { frames := 1, cells := 0, slots := 0, locals := 12 }
def f_X10_ended (T : xT) (S : xS) (p0 : Nat) : Option (Int32 × xS) := some ((S.1 p0 31), S)
set_option maxRecDepth 100000 in
set_option maxHeartbeats 4000000 in
theorem c_X10_ended {l : Launch} {z : Nat} {D : va_G} {dA : Nat → ClassId} {T : xT} {S : xS} {p0 : Nat} (k_p0 : xlk T p0 10 = true) {q : Int32 × xS} (hf : f_X10_ended T S p0 = some q) : Met l yX10_ended (xws yX10_ended cX10_ended 1 (some .int)) xr_X10_ended (xPc z D dA T S [.ref (z + p0)]) (xQi z D dA T q) 0 0 (xA z) := by
  refine x_met RX10 (by decide) rfl (Nat.le_of_ble_eq_true rfl) ?_
  intro p e s m below meth c ls _ X hr hlk hml _ hR hS hl
  have B : xB p s m _ meth c cX10_ended RX10 1 (some .int) D dA := ⟨X, hr, hlk, hml⟩
  have hl : xL ls 1 [_] := hl
  unfold f_X10_ended at hf
  refine lv_aload_n B.1.1 B.1.2.1 dX10_ended_0 rfl (hl.at 0 rfl) ?_
  refine y_getI B hR k_p0 fl_X10_62 dX10_ended_1 ?_
  exact y_iret B hR hS hf dX10_ended_4
abbrev xr_X10_row : Room := { frames := 2, cells := 0, slots := 0, locals := 34 }
def f_X10_row (T : xT) (S : xS) (p0 : Nat) (p1 : Int32) : Option (Int32 × xS) := xc (f_X10_isIn T S p1 ((0 : Int32)) (((S.1 p0 30) - (1 : Int32)))) (fun r2 S1 => if r2 = (0 : Int32) then some ((-1000000000 : Int32), S1) else xgr T S1 p0 28 20 (fun a3 => xai T S1 a3 p1 (fun v4 => some (v4, S1))))
set_option maxRecDepth 100000 in
set_option maxHeartbeats 4000000 in
theorem c_X10_row {l : Launch} {z : Nat} {D : va_G} {dA : Nat → ClassId} {T : xT} {S : xS} {p0 : Nat} {p1 : Int32} (k_p0 : xlk T p0 10 = true) {q : Int32 × xS} (hf : f_X10_row T S p0 p1 = some q) : Met l yX10_row (xws yX10_row cX10_row 2 (some .int)) xr_X10_row (xPc z D dA T S [.ref (z + p0), .int p1]) (xQi z D dA T q) 0 0 (xA z) := by
  refine x_met RX10 (by decide) rfl (Nat.le_of_ble_eq_true rfl) ?_
  intro p e s m below meth c ls _ X hr hlk hml _ hR hS hl
  have B : xB p s m _ meth c cX10_row RX10 2 (some .int) D dA := ⟨X, hr, hlk, hml⟩
  have hl : xL ls 2 [_, _] := hl
  unfold f_X10_row at hf
  refine lv_iload_n B.1.1 B.1.2.1 dX10_row_0 rfl (hl.at 1 rfl) ?_
  refine lv_iconst (v := 0) B.1.1 B.1.2.1 dX10_row_1 (by decide) ?_
  refine lv_aload_n B.1.1 B.1.2.1 dX10_row_2 rfl (hl.at 0 rfl) ?_
  refine y_getI B hR k_p0 fl_X10_440 dX10_row_3 ?_
  refine lv_iconst (v := 1) B.1.1 B.1.2.1 dX10_row_6 (by decide) ?_
  refine lv_isub B.1.1 B.1.2.1 dX10_row_7 ?_
  refine y_ci hf (fun q hq => y_runS B.1 B.2.2.2 hl hR hS cm_X10_81 ⟨rfl, rfl, Nat.le_of_ble_eq_true rfl, Nat.le_of_ble_eq_true rfl⟩ (c_X10_isIn hq) rfl rfl (Nat.le_of_ble_eq_true rfl) dX10_row_8 ⟨Nat.le_of_ble_eq_true rfl, Nat.le_of_ble_eq_true rfl⟩) hS (fun r2 S1 H locs hf hR hS => ?_)
  refine y_if_eq (tgt := 23) B hf dX10_row_11 (by decide) (fun hf => ?_) (fun hf => ?_)
  · refine lv_ldc (v := -1000000000) B.1.1 B.1.2.1 B.1.2.2.1 (B.1.2.2.2.1 _ tw_1301) dX10_row_23 ?_
    exact y_iret B hR hS hf dX10_row_25
  · refine lv_aload_n B.1.1 B.1.2.1 dX10_row_14 rfl (hl.at 0 rfl) ?_
    refine y_getR B hR hf k_p0 fl_X10_59 dX10_row_15 (fun a3 k_a3 hf => ?_)
    refine lv_iload_n B.1.1 B.1.2.1 dX10_row_18 rfl (hl.at 1 rfl) ?_
    refine y_iald B hR hf k_a3 dX10_row_19 (fun v4 hf => ?_)
    refine lv_goto (tgt := 25) B.1.1 B.1.2.1 dX10_row_20 (by decide) ?_
    exact y_iret B hR hS hf dX10_row_25
abbrev xr_X10_writes : Room := { frames := 1, cells := 0, slots := 0, locals := 12 }
def f_X10_writes (T : xT) (S : xS) (p0 : Nat) (p1 : Int32) : Option (xS) := xgr T S p0 32 22 (fun a1 => xst T S a1 ((S.1 p0 33)) (vp_nar .byte ((p1).toInt8.toInt32)) (fun S2 => xpi S2 p0 33 (((S2.1 p0 33) + (1 : Int32))) (fun S3 => some S3)))
set_option maxRecDepth 100000 in
set_option maxHeartbeats 4000000 in
theorem c_X10_writes {l : Launch} {z : Nat} {D : va_G} {dA : Nat → ClassId} {T : xT} {S : xS} {p0 : Nat} {p1 : Int32} (k_p0 : xlk T p0 10 = true) {q : xS} (hf : f_X10_writes T S p0 p1 = some q) : Met l yX10_writes (xws yX10_writes cX10_writes 2 none) xr_X10_writes (xPc z D dA T S [.ref (z + p0), .int p1]) (xQv z D dA T q) 0 0 (xA z) := by
  refine x_met RX10 (by decide) rfl (Nat.le_of_ble_eq_true rfl) ?_
  intro p e s m below meth c ls _ X hr hlk hml _ hR hS hl
  have B : xB p s m _ meth c cX10_writes RX10 2 none D dA := ⟨X, hr, hlk, hml⟩
  have hl : xL ls 2 [_, _] := hl
  unfold f_X10_writes at hf
  refine lv_aload_n B.1.1 B.1.2.1 dX10_writes_0 rfl (hl.at 0 rfl) ?_
  refine y_getR B hR hf k_p0 fl_X10_65 dX10_writes_1 (fun a1 k_a1 hf => ?_)
  refine lv_aload_n B.1.1 B.1.2.1 dX10_writes_4 rfl (hl.at 0 rfl) ?_
  refine y_getI B hR k_p0 fl_X10_446 dX10_writes_5 ?_
  refine lv_iload_n B.1.1 B.1.2.1 dX10_writes_8 rfl (hl.at 1 rfl) ?_
  refine lv_i2b B.1.1 B.1.2.1 dX10_writes_9 rfl ?_
  refine y_bast B hR hS hf k_a1 dX10_writes_10 (fun S2 H locs hf hR hS => ?_)
  refine lv_aload_n B.1.1 B.1.2.1 dX10_writes_11 rfl (hl.at 0 rfl) ?_
  refine lv_dup B.1.1 B.1.2.1 dX10_writes_12 rfl ?_
  refine y_getI B hR k_p0 fl_X10_446 dX10_writes_13 ?_
  refine lv_iconst (v := 1) B.1.1 B.1.2.1 dX10_writes_16 (by decide) ?_
  refine lv_iadd B.1.1 B.1.2.1 dX10_writes_17 ?_
  refine y_putI B hR hS hf k_p0 fp_X10_446 dX10_writes_18 (fun S3 H locs hf hR hS => ?_)
  exact y_vret B hR hS hf dX10_writes_21
abbrev xr_X10_writeNumber : Room := { frames := 2, cells := 0, slots := 0, locals := 33 }
def f_X10_writeNumber_29 (T : xT) : Nat → xS → Nat → Int32 → Int32 → Option (xS)
  | 0, _, _, _, _ => none
  | n + 1, S, p0, p1, p2 => if p2 ≤ (0 : Int32) then some S else xgd (xn0 p2) (xgd (xn0 (10 : Int32)) (xl (((p1 / p2) - (p1 / p2) / (10 : Int32) * (10 : Int32))) (fun v1 => if (0 : Int32) ≤ v1 then xcv (f_X10_writes T S p0 (((48 : Int32) + v1))) (fun S2 => xgd (xn0 (10 : Int32)) (xl ((p2 / (10 : Int32))) (fun v3 => f_X10_writeNumber_29 T n S2 p0 p1 v3))) else xcv (f_X10_writes T S p0 (((48 : Int32) + (-v1)))) (fun S4 => xgd (xn0 (10 : Int32)) (xl ((p2 / (10 : Int32))) (fun v5 => f_X10_writeNumber_29 T n S4 p0 p1 v5))))))
set_option maxRecDepth 100000 in
set_option maxHeartbeats 4000000 in
theorem w_X10_writeNumber_29 {p : Program} {l : Launch} {e : Env} {s : State} {m : MethodId} {args : Array Value} {below : List Frame} {meth : Method} {c : Code} {z : Nat} {D : va_G} {dA : Nat → ClassId} {T : xT} (B : xB p s m args meth c cX10_writeNumber RX10 4 none D dA) {q : xS} : ∀ (n : Nat), ∀ (S : xS) (H : Heap) (locs : List Loc) (ls : Array Slot) (p0 : Nat) (p1 : Int32) (p2 : Int32), xlk T p0 10 = true → f_X10_writeNumber_29 T n S p0 p1 p2 = some q → xRel z D dA T S H → va_S (xA z) s.heap H locs → xL ls 4 [some (.ref (z + p0)), some (.int p1), some (.int p2), none] → xGv p l e xr_X10_writeNumber s m args below meth c z D dA T q H locs 29 ls [] := by
  intro n
  induction n with
  | zero =>
    intro S H locs ls p0 p1 p2 k_p0 hf hR hS hl
    exact absurd hf (by simp [f_X10_writeNumber_29])
  | succ n ih =>
    intro S H locs ls p0 p1 p2 k_p0 hf hR hS hl
    unfold f_X10_writeNumber_29 at hf
    refine lv_iload_n B.1.1 B.1.2.1 dX10_writeNumber_29 rfl (hl.at 2 rfl) ?_
    refine y_if_le (tgt := 65) B hf dX10_writeNumber_30 (by decide) (fun hf => ?_) (fun hf => ?_)
    · exact y_vret B hR hS hf dX10_writeNumber_65
    · refine lv_iload_n B.1.1 B.1.2.1 dX10_writeNumber_33 rfl (hl.at 1 rfl) ?_
      refine lv_iload_n B.1.1 B.1.2.1 dX10_writeNumber_34 rfl (hl.at 2 rfl) ?_
      refine y_idiv B hf dX10_writeNumber_35 (fun hf => ?_)
      refine lv_bipush (v := 10) B.1.1 B.1.2.1 dX10_writeNumber_36 (by decide) ?_
      refine y_irem B hf dX10_writeNumber_38 (fun hf => ?_)
      refine y_istore_n B hl hf dX10_writeNumber_39 rfl (by decide) rfl (fun v1 ls hf hl => ?_)
      have hl : xL ls 4 [_, _, _, _] := hl
      refine lv_aload_n B.1.1 B.1.2.1 dX10_writeNumber_40 rfl (hl.at 0 rfl) ?_
      refine lv_bipush (v := 48) B.1.1 B.1.2.1 dX10_writeNumber_41 (by decide) ?_
      refine lv_iload_n B.1.1 B.1.2.1 dX10_writeNumber_43 rfl (hl.at 3 rfl) ?_
      refine y_if_ge (tgt := 52) B hf dX10_writeNumber_44 (by decide) (fun hf => ?_) (fun hf => ?_)
      · refine lv_iload_n B.1.1 B.1.2.1 dX10_writeNumber_52 rfl (hl.at 3 rfl) ?_
        refine lv_iadd B.1.1 B.1.2.1 dX10_writeNumber_53 ?_
        refine y_cv hf (fun q hq => x_runV (ci := 10) (C := RX10) B.1 B.2.2.2 hl hR hS cm_X10_449 ⟨rfl, rfl, Nat.le_of_ble_eq_true rfl, Nat.le_of_ble_eq_true rfl⟩ (by decide) rfl k_p0 (c_X10_writes k_p0 hq) rfl rfl (Nat.le_of_ble_eq_true rfl) dX10_writeNumber_54 ⟨Nat.le_of_ble_eq_true rfl, Nat.le_of_ble_eq_true rfl⟩) hS (fun S2 H locs hf hR hS => ?_)
        refine lv_iload_n B.1.1 B.1.2.1 dX10_writeNumber_57 rfl (hl.at 2 rfl) ?_
        refine lv_bipush (v := 10) B.1.1 B.1.2.1 dX10_writeNumber_58 (by decide) ?_
        refine y_idiv B hf dX10_writeNumber_60 (fun hf => ?_)
        refine y_istore_n B hl hf dX10_writeNumber_61 rfl (by decide) rfl (fun v3 ls hf hl => ?_)
        have hl : xL ls 4 [_, _, _, _] := hl
        refine lv_goto (tgt := 29) B.1.1 B.1.2.1 dX10_writeNumber_62 (by decide) ?_
        exact ih _ _ _ _ _ _ _ k_p0 hf hR hS (hl.drop [true, true, true, false] rfl)
      · refine lv_iload_n B.1.1 B.1.2.1 dX10_writeNumber_47 rfl (hl.at 3 rfl) ?_
        refine lv_ineg B.1.1 B.1.2.1 dX10_writeNumber_48 ?_
        refine lv_goto (tgt := 53) B.1.1 B.1.2.1 dX10_writeNumber_49 (by decide) ?_
        refine lv_iadd B.1.1 B.1.2.1 dX10_writeNumber_53 ?_
        refine y_cv hf (fun q hq => x_runV (ci := 10) (C := RX10) B.1 B.2.2.2 hl hR hS cm_X10_449 ⟨rfl, rfl, Nat.le_of_ble_eq_true rfl, Nat.le_of_ble_eq_true rfl⟩ (by decide) rfl k_p0 (c_X10_writes k_p0 hq) rfl rfl (Nat.le_of_ble_eq_true rfl) dX10_writeNumber_54 ⟨Nat.le_of_ble_eq_true rfl, Nat.le_of_ble_eq_true rfl⟩) hS (fun S4 H locs hf hR hS => ?_)
        refine lv_iload_n B.1.1 B.1.2.1 dX10_writeNumber_57 rfl (hl.at 2 rfl) ?_
        refine lv_bipush (v := 10) B.1.1 B.1.2.1 dX10_writeNumber_58 (by decide) ?_
        refine y_idiv B hf dX10_writeNumber_60 (fun hf => ?_)
        refine y_istore_n B hl hf dX10_writeNumber_61 rfl (by decide) rfl (fun v5 ls hf hl => ?_)
        have hl : xL ls 4 [_, _, _, _] := hl
        refine lv_goto (tgt := 29) B.1.1 B.1.2.1 dX10_writeNumber_62 (by decide) ?_
        exact ih _ _ _ _ _ _ _ k_p0 hf hR hS (hl.drop [true, true, true, false] rfl)
def f_X10_writeNumber_12 (T : xT) : Nat → xS → Nat → Int32 → Int32 → Option (xS)
  | 0, _, _, _, _ => none
  | n + 1, S, p0, p1, p2 => xgd (xn0 (10 : Int32)) (xgd (xn0 p2) (if ((p1 / (10 : Int32)) / p2) = (0 : Int32) then f_X10_writeNumber_29 T xfu S p0 p1 p2 else xl ((p2 * (10 : Int32))) (fun v1 => f_X10_writeNumber_12 T n S p0 p1 v1)))
set_option maxRecDepth 100000 in
set_option maxHeartbeats 4000000 in
theorem w_X10_writeNumber_12 {p : Program} {l : Launch} {e : Env} {s : State} {m : MethodId} {args : Array Value} {below : List Frame} {meth : Method} {c : Code} {z : Nat} {D : va_G} {dA : Nat → ClassId} {T : xT} (B : xB p s m args meth c cX10_writeNumber RX10 4 none D dA) {q : xS} : ∀ (n : Nat), ∀ (S : xS) (H : Heap) (locs : List Loc) (ls : Array Slot) (p0 : Nat) (p1 : Int32) (p2 : Int32), xlk T p0 10 = true → f_X10_writeNumber_12 T n S p0 p1 p2 = some q → xRel z D dA T S H → va_S (xA z) s.heap H locs → xL ls 4 [some (.ref (z + p0)), some (.int p1), some (.int p2), none] → xGv p l e xr_X10_writeNumber s m args below meth c z D dA T q H locs 12 ls [] := by
  intro n
  induction n with
  | zero =>
    intro S H locs ls p0 p1 p2 k_p0 hf hR hS hl
    exact absurd hf (by simp [f_X10_writeNumber_12])
  | succ n ih =>
    intro S H locs ls p0 p1 p2 k_p0 hf hR hS hl
    unfold f_X10_writeNumber_12 at hf
    refine lv_iload_n B.1.1 B.1.2.1 dX10_writeNumber_12 rfl (hl.at 1 rfl) ?_
    refine lv_bipush (v := 10) B.1.1 B.1.2.1 dX10_writeNumber_13 (by decide) ?_
    refine y_idiv B hf dX10_writeNumber_15 (fun hf => ?_)
    refine lv_iload_n B.1.1 B.1.2.1 dX10_writeNumber_16 rfl (hl.at 2 rfl) ?_
    refine y_idiv B hf dX10_writeNumber_17 (fun hf => ?_)
    refine y_if_eq (tgt := 29) B hf dX10_writeNumber_18 (by decide) (fun hf => ?_) (fun hf => ?_)
    · exact w_X10_writeNumber_29 B xfu _ _ _ _ _ _ _ k_p0 hf hR hS hl
    · refine lv_iload_n B.1.1 B.1.2.1 dX10_writeNumber_21 rfl (hl.at 2 rfl) ?_
      refine lv_bipush (v := 10) B.1.1 B.1.2.1 dX10_writeNumber_22 (by decide) ?_
      refine lv_imul B.1.1 B.1.2.1 dX10_writeNumber_24 ?_
      refine y_istore_n B hl hf dX10_writeNumber_25 rfl (by decide) rfl (fun v1 ls hf hl => ?_)
      have hl : xL ls 4 [_, _, _, _] := hl
      refine lv_goto (tgt := 12) B.1.1 B.1.2.1 dX10_writeNumber_26 (by decide) ?_
      exact ih _ _ _ _ _ _ _ k_p0 hf hR hS hl
def f_X10_writeNumber (T : xT) (S : xS) (p0 : Nat) (p1 : Int32) : Option (xS) := if (0 : Int32) ≤ p1 then xl ((1 : Int32)) (fun v1 => f_X10_writeNumber_12 T xfu S p0 p1 v1) else xcv (f_X10_writes T S p0 ((45 : Int32))) (fun S2 => xl ((1 : Int32)) (fun v3 => f_X10_writeNumber_12 T xfu S2 p0 p1 v3))
set_option maxRecDepth 100000 in
set_option maxHeartbeats 4000000 in
theorem c_X10_writeNumber {l : Launch} {z : Nat} {D : va_G} {dA : Nat → ClassId} {T : xT} {S : xS} {p0 : Nat} {p1 : Int32} (k_p0 : xlk T p0 10 = true) {q : xS} (hf : f_X10_writeNumber T S p0 p1 = some q) : Met l yX10_writeNumber (xws yX10_writeNumber cX10_writeNumber 4 none) xr_X10_writeNumber (xPc z D dA T S [.ref (z + p0), .int p1]) (xQv z D dA T q) 0 0 (xA z) := by
  refine x_met RX10 (by decide) rfl (Nat.le_of_ble_eq_true rfl) ?_
  intro p e s m below meth c ls _ X hr hlk hml _ hR hS hl
  have B : xB p s m _ meth c cX10_writeNumber RX10 4 none D dA := ⟨X, hr, hlk, hml⟩
  have hl : xL ls 4 [_, _, _, _] := hl
  unfold f_X10_writeNumber at hf
  refine lv_iload_n B.1.1 B.1.2.1 dX10_writeNumber_0 rfl (hl.at 1 rfl) ?_
  refine y_if_ge (tgt := 10) B hf dX10_writeNumber_1 (by decide) (fun hf => ?_) (fun hf => ?_)
  · refine lv_iconst (v := 1) B.1.1 B.1.2.1 dX10_writeNumber_10 (by decide) ?_
    refine y_istore_n B hl hf dX10_writeNumber_11 rfl (by decide) rfl (fun v1 ls hf hl => ?_)
    have hl : xL ls 4 [_, _, _, _] := hl
    exact w_X10_writeNumber_12 B xfu _ _ _ _ _ _ _ k_p0 hf hR hS hl
  · refine lv_aload_n B.1.1 B.1.2.1 dX10_writeNumber_4 rfl (hl.at 0 rfl) ?_
    refine lv_bipush (v := 45) B.1.1 B.1.2.1 dX10_writeNumber_5 (by decide) ?_
    refine y_cv hf (fun q hq => x_runV (ci := 10) (C := RX10) B.1 B.2.2.2 hl hR hS cm_X10_449 ⟨rfl, rfl, Nat.le_of_ble_eq_true rfl, Nat.le_of_ble_eq_true rfl⟩ (by decide) rfl k_p0 (c_X10_writes k_p0 hq) rfl rfl (Nat.le_of_ble_eq_true rfl) dX10_writeNumber_7 ⟨Nat.le_of_ble_eq_true rfl, Nat.le_of_ble_eq_true rfl⟩) hS (fun S2 H locs hf hR hS => ?_)
    refine lv_iconst (v := 1) B.1.1 B.1.2.1 dX10_writeNumber_10 (by decide) ?_
    refine y_istore_n B hl hf dX10_writeNumber_11 rfl (by decide) rfl (fun v3 ls hf hl => ?_)
    have hl : xL ls 4 [_, _, _, _] := hl
    exact w_X10_writeNumber_12 B xfu _ _ _ _ _ _ _ k_p0 hf hR hS hl
