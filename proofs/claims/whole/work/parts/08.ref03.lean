abbrev xr_X10_dealOut : Room := { frames := 2, cells := 0, slots := 0, locals := 35 }
def f_X10_dealOut_69 (T : xT) : Nat → xS → Nat → Int64 → Int32 → Int32 → Option (xS)
  | 0, _, _, _, _, _ => none
  | n + 1, S, p0, p2, p4, p5 => if (8 : Int32) ≤ p5 then some S else if (lg_cmp p2 ((0 : Int64))) ≤ (0 : Int32) then some S else xgr T S p0 15 21 (fun a1 => xaj T S a1 p5 (fun v2 => if (lg_cmp v2 ((0 : Int64))) = (0 : Int32) then xl (p5 + (1 : Int32)) (fun v3 => f_X10_dealOut_69 T n S p0 p2 p4 v3) else if p4 = (0 : Int32) then xl (p5 + (1 : Int32)) (fun v9 => f_X10_dealOut_69 T n S p0 p2 p4 v9) else xgr T S p0 16 20 (fun a4 => xai T S a4 p5 (fun v5 => xst T S a4 p5 ((v5 + (1 : Int32))) (fun S6 => xl (p4 + (-1 : Int32)) (fun v7 => xl (p5 + (1 : Int32)) (fun v8 => f_X10_dealOut_69 T n S6 p0 p2 v7 v8)))))))
set_option maxRecDepth 100000 in
set_option maxHeartbeats 4000000 in
theorem w_X10_dealOut_69 {p : Program} {l : Launch} {e : Env} {s : State} {m : MethodId} {args : Array Value} {below : List Frame} {meth : Method} {c : Code} {z : Nat} {D : va_G} {dA : Nat → ClassId} {T : xT} (B : xB p s m args meth c cX10_dealOut RX10 6 none D dA) {q : xS} : ∀ (n : Nat), ∀ (S : xS) (H : Heap) (locs : List Loc) (ls : Array Slot) (p0 : Nat) (p2 : Int64) (p4 : Int32) (p5 : Int32), xlk T p0 10 = true → f_X10_dealOut_69 T n S p0 p2 p4 p5 = some q → xRel z D dA T S H → va_S (xA z) s.heap H locs → xL ls 6 [some (.ref (z + p0)), none, some (.long p2), none, some (.int p4), some (.int p5)] → xGv p l e xr_X10_dealOut s m args below meth c z D dA T q H locs 69 ls [] := by
  intro n
  induction n with
  | zero =>
    intro S H locs ls p0 p2 p4 p5 k_p0 hf hR hS hl
    exact absurd hf (by simp [f_X10_dealOut_69])
  | succ n ih =>
    intro S H locs ls p0 p2 p4 p5 k_p0 hf hR hS hl
    unfold f_X10_dealOut_69 at hf
    refine lv_iload B.1.1 B.1.2.1 dX10_dealOut_69 (hl.at 5 rfl) ?_
    refine lv_bipush (v := 8) B.1.1 B.1.2.1 dX10_dealOut_71 (by decide) ?_
    refine y_icmp_ge (tgt := 122) B hf dX10_dealOut_73 (by decide) (fun hf => ?_) (fun hf => ?_)
    · exact y_vret B hR hS hf dX10_dealOut_122
    · refine lv_lload_n B.1.1 B.1.2.1 dX10_dealOut_76 rfl (hl.at 2 rfl) ?_
      refine lv_lconst (v := 0) B.1.1 B.1.2.1 dX10_dealOut_77 (by decide) ?_
      refine W.lcmp B.1.1 B.1.2.1 dX10_dealOut_78 ?_
      refine y_if_le (tgt := 122) B hf dX10_dealOut_79 (by decide) (fun hf => ?_) (fun hf => ?_)
      · exact y_vret B hR hS hf dX10_dealOut_122
      · refine lv_aload_n B.1.1 B.1.2.1 dX10_dealOut_82 rfl (hl.at 0 rfl) ?_
        refine y_getR B hR hf k_p0 fl_X10_31 dX10_dealOut_83 (fun a1 k_a1 hf => ?_)
        refine lv_iload B.1.1 B.1.2.1 dX10_dealOut_86 (hl.at 5 rfl) ?_
        refine y_lald B hR hf k_a1 dX10_dealOut_88 (fun v2 hf => ?_)
        refine lv_lconst (v := 0) B.1.1 B.1.2.1 dX10_dealOut_89 (by decide) ?_
        refine W.lcmp B.1.1 B.1.2.1 dX10_dealOut_90 ?_
        refine y_if_eq (tgt := 116) B hf dX10_dealOut_91 (by decide) (fun hf => ?_) (fun hf => ?_)
        · refine y_iinc (d := 1) B hl hf dX10_dealOut_116 rfl (by decide) (by decide) rfl (fun v3 ls hf hl => ?_)
          have hl : xL ls 6 [_, _, _, _, _, _] := hl
          refine lv_goto (tgt := 69) B.1.1 B.1.2.1 dX10_dealOut_119 (by decide) ?_
          exact ih _ _ _ _ _ _ _ _ k_p0 hf hR hS hl
        · refine lv_iload B.1.1 B.1.2.1 dX10_dealOut_94 (hl.at 4 rfl) ?_
          refine y_if_ne (tgt := 102) B hf dX10_dealOut_96 (by decide) (fun hf => ?_) (fun hf => ?_)
          · refine lv_aload_n B.1.1 B.1.2.1 dX10_dealOut_102 rfl (hl.at 0 rfl) ?_
            refine y_getR B hR hf k_p0 fl_X10_35 dX10_dealOut_103 (fun a4 k_a4 hf => ?_)
            refine lv_iload B.1.1 B.1.2.1 dX10_dealOut_106 (hl.at 5 rfl) ?_
            refine lv_dup2_11 B.1.1 B.1.2.1 dX10_dealOut_108 rfl rfl ?_
            refine y_iald B hR hf k_a4 dX10_dealOut_109 (fun v5 hf => ?_)
            refine lv_iconst (v := 1) B.1.1 B.1.2.1 dX10_dealOut_110 (by decide) ?_
            refine lv_iadd B.1.1 B.1.2.1 dX10_dealOut_111 ?_
            refine y_iast B hR hS hf k_a4 dX10_dealOut_112 (fun S6 H locs hf hR hS => ?_)
            refine y_iinc (d := -1) B hl hf dX10_dealOut_113 rfl (by decide) (by decide) rfl (fun v7 ls hf hl => ?_)
            have hl : xL ls 6 [_, _, _, _, _, _] := hl
            refine y_iinc (d := 1) B hl hf dX10_dealOut_116 rfl (by decide) (by decide) rfl (fun v8 ls hf hl => ?_)
            have hl : xL ls 6 [_, _, _, _, _, _] := hl
            refine lv_goto (tgt := 69) B.1.1 B.1.2.1 dX10_dealOut_119 (by decide) ?_
            exact ih _ _ _ _ _ _ _ _ k_p0 hf hR hS hl
          · refine lv_goto (tgt := 116) B.1.1 B.1.2.1 dX10_dealOut_99 (by decide) ?_
            refine y_iinc (d := 1) B hl hf dX10_dealOut_116 rfl (by decide) (by decide) rfl (fun v9 ls hf hl => ?_)
            have hl : xL ls 6 [_, _, _, _, _, _] := hl
            refine lv_goto (tgt := 69) B.1.1 B.1.2.1 dX10_dealOut_119 (by decide) ?_
            exact ih _ _ _ _ _ _ _ _ k_p0 hf hR hS hl
def f_X10_dealOut_11 (T : xT) : Nat → xS → Nat → Int32 → Int64 → Int32 → Int32 → Option (xS)
  | 0, _, _, _, _, _, _ => none
  | n + 1, S, p0, p1, p2, p4, p5 => if (8 : Int32) ≤ p5 then xl ((0 : Int32)) (fun v1 => f_X10_dealOut_69 T xfu S p0 p2 p4 v1) else xgr T S p0 16 20 (fun a2 => if (lg_cmp p2 ((0 : Int64))) = (0 : Int32) then xst T S a2 p5 ((0 : Int32)) (fun S10 => xgr T S10 p0 16 20 (fun a11 => xai T S10 a11 p5 (fun v12 => xl ((p4 - v12)) (fun v13 => xl (p5 + (1 : Int32)) (fun v14 => f_X10_dealOut_11 T n S10 p0 p1 p2 v13 v14))))) else xgr T S p0 15 21 (fun a3 => xaj T S a3 p5 (fun v4 => xgd (xm0 p2) (xst T S a2 p5 (((((p1).toInt64 * v4) / p2)).toInt32) (fun S5 => xgr T S5 p0 16 20 (fun a6 => xai T S5 a6 p5 (fun v7 => xl ((p4 - v7)) (fun v8 => xl (p5 + (1 : Int32)) (fun v9 => f_X10_dealOut_11 T n S5 p0 p1 p2 v8 v9)))))))))
set_option maxRecDepth 100000 in
set_option maxHeartbeats 4000000 in
theorem w_X10_dealOut_11 {p : Program} {l : Launch} {e : Env} {s : State} {m : MethodId} {args : Array Value} {below : List Frame} {meth : Method} {c : Code} {z : Nat} {D : va_G} {dA : Nat → ClassId} {T : xT} (B : xB p s m args meth c cX10_dealOut RX10 6 none D dA) {q : xS} : ∀ (n : Nat), ∀ (S : xS) (H : Heap) (locs : List Loc) (ls : Array Slot) (p0 : Nat) (p1 : Int32) (p2 : Int64) (p4 : Int32) (p5 : Int32), xlk T p0 10 = true → f_X10_dealOut_11 T n S p0 p1 p2 p4 p5 = some q → xRel z D dA T S H → va_S (xA z) s.heap H locs → xL ls 6 [some (.ref (z + p0)), some (.int p1), some (.long p2), none, some (.int p4), some (.int p5)] → xGv p l e xr_X10_dealOut s m args below meth c z D dA T q H locs 11 ls [] := by
  intro n
  induction n with
  | zero =>
    intro S H locs ls p0 p1 p2 p4 p5 k_p0 hf hR hS hl
    exact absurd hf (by simp [f_X10_dealOut_11])
  | succ n ih =>
    intro S H locs ls p0 p1 p2 p4 p5 k_p0 hf hR hS hl
    unfold f_X10_dealOut_11 at hf
    refine lv_iload B.1.1 B.1.2.1 dX10_dealOut_11 (hl.at 5 rfl) ?_
    refine lv_bipush (v := 8) B.1.1 B.1.2.1 dX10_dealOut_13 (by decide) ?_
    refine y_icmp_ge (tgt := 66) B hf dX10_dealOut_15 (by decide) (fun hf => ?_) (fun hf => ?_)
    · refine lv_iconst (v := 0) B.1.1 B.1.2.1 dX10_dealOut_66 (by decide) ?_
      refine y_istore B hl hf dX10_dealOut_67 (by decide) rfl (fun v1 ls hf hl => ?_)
      have hl : xL ls 6 [_, _, _, _, _, _] := hl
      exact w_X10_dealOut_69 B xfu _ _ _ _ _ _ _ _ k_p0 hf hR hS (hl.drop [true, false, true, false, true, true] rfl)
    · refine lv_aload_n B.1.1 B.1.2.1 dX10_dealOut_18 rfl (hl.at 0 rfl) ?_
      refine y_getR B hR hf k_p0 fl_X10_35 dX10_dealOut_19 (fun a2 k_a2 hf => ?_)
      refine lv_iload B.1.1 B.1.2.1 dX10_dealOut_22 (hl.at 5 rfl) ?_
      refine lv_lload_n B.1.1 B.1.2.1 dX10_dealOut_24 rfl (hl.at 2 rfl) ?_
      refine lv_lconst (v := 0) B.1.1 B.1.2.1 dX10_dealOut_25 (by decide) ?_
      refine W.lcmp B.1.1 B.1.2.1 dX10_dealOut_26 ?_
      refine y_if_ne (tgt := 34) B hf dX10_dealOut_27 (by decide) (fun hf => ?_) (fun hf => ?_)
      · refine lv_iload_n B.1.1 B.1.2.1 dX10_dealOut_34 rfl (hl.at 1 rfl) ?_
        refine lv_i2l B.1.1 B.1.2.1 dX10_dealOut_35 rfl ?_
        refine lv_aload_n B.1.1 B.1.2.1 dX10_dealOut_36 rfl (hl.at 0 rfl) ?_
        refine y_getR B hR hf k_p0 fl_X10_31 dX10_dealOut_37 (fun a3 k_a3 hf => ?_)
        refine lv_iload B.1.1 B.1.2.1 dX10_dealOut_40 (hl.at 5 rfl) ?_
        refine y_lald B hR hf k_a3 dX10_dealOut_42 (fun v4 hf => ?_)
        refine lv_lmul B.1.1 B.1.2.1 dX10_dealOut_43 ?_
        refine lv_lload_n B.1.1 B.1.2.1 dX10_dealOut_44 rfl (hl.at 2 rfl) ?_
        refine y_ldiv B hf dX10_dealOut_45 (fun hf => ?_)
        refine lv_l2i B.1.1 B.1.2.1 dX10_dealOut_46 rfl ?_
        refine y_iast B hR hS hf k_a2 dX10_dealOut_47 (fun S5 H locs hf hR hS => ?_)
        refine lv_iload B.1.1 B.1.2.1 dX10_dealOut_48 (hl.at 4 rfl) ?_
        refine lv_aload_n B.1.1 B.1.2.1 dX10_dealOut_50 rfl (hl.at 0 rfl) ?_
        refine y_getR B hR hf k_p0 fl_X10_35 dX10_dealOut_51 (fun a6 k_a6 hf => ?_)
        refine lv_iload B.1.1 B.1.2.1 dX10_dealOut_54 (hl.at 5 rfl) ?_
        refine y_iald B hR hf k_a6 dX10_dealOut_56 (fun v7 hf => ?_)
        refine lv_isub B.1.1 B.1.2.1 dX10_dealOut_57 ?_
        refine y_istore B hl hf dX10_dealOut_58 (by decide) rfl (fun v8 ls hf hl => ?_)
        have hl : xL ls 6 [_, _, _, _, _, _] := hl
        refine y_iinc (d := 1) B hl hf dX10_dealOut_60 rfl (by decide) (by decide) rfl (fun v9 ls hf hl => ?_)
        have hl : xL ls 6 [_, _, _, _, _, _] := hl
        refine lv_goto (tgt := 11) B.1.1 B.1.2.1 dX10_dealOut_63 (by decide) ?_
        exact ih _ _ _ _ _ _ _ _ _ k_p0 hf hR hS hl
      · refine lv_iconst (v := 0) B.1.1 B.1.2.1 dX10_dealOut_30 (by decide) ?_
        refine lv_goto (tgt := 47) B.1.1 B.1.2.1 dX10_dealOut_31 (by decide) ?_
        refine y_iast B hR hS hf k_a2 dX10_dealOut_47 (fun S10 H locs hf hR hS => ?_)
        refine lv_iload B.1.1 B.1.2.1 dX10_dealOut_48 (hl.at 4 rfl) ?_
        refine lv_aload_n B.1.1 B.1.2.1 dX10_dealOut_50 rfl (hl.at 0 rfl) ?_
        refine y_getR B hR hf k_p0 fl_X10_35 dX10_dealOut_51 (fun a11 k_a11 hf => ?_)
        refine lv_iload B.1.1 B.1.2.1 dX10_dealOut_54 (hl.at 5 rfl) ?_
        refine y_iald B hR hf k_a11 dX10_dealOut_56 (fun v12 hf => ?_)
        refine lv_isub B.1.1 B.1.2.1 dX10_dealOut_57 ?_
        refine y_istore B hl hf dX10_dealOut_58 (by decide) rfl (fun v13 ls hf hl => ?_)
        have hl : xL ls 6 [_, _, _, _, _, _] := hl
        refine y_iinc (d := 1) B hl hf dX10_dealOut_60 rfl (by decide) (by decide) rfl (fun v14 ls hf hl => ?_)
        have hl : xL ls 6 [_, _, _, _, _, _] := hl
        refine lv_goto (tgt := 11) B.1.1 B.1.2.1 dX10_dealOut_63 (by decide) ?_
        exact ih _ _ _ _ _ _ _ _ _ k_p0 hf hR hS hl
def f_X10_dealOut (T : xT) (S : xS) (p0 : Nat) (p1 : Int32) : Option (xS) := xc (f_X10_sumWeights T S p0) (fun r2 S1 => xl r2 (fun v3 => xl p1 (fun v4 => xl ((0 : Int32)) (fun v5 => f_X10_dealOut_11 T xfu S1 p0 p1 v3 v4 v5))))
set_option maxRecDepth 100000 in
set_option maxHeartbeats 4000000 in
theorem c_X10_dealOut {l : Launch} {z : Nat} {D : va_G} {dA : Nat → ClassId} {T : xT} {S : xS} {p0 : Nat} {p1 : Int32} (k_p0 : xlk T p0 10 = true) {q : xS} (hf : f_X10_dealOut T S p0 p1 = some q) : Met l yX10_dealOut (xws yX10_dealOut cX10_dealOut 6 none) xr_X10_dealOut (xPc z D dA T S [.ref (z + p0), .int p1]) (xQv z D dA T q) 0 0 (xA z) := by
  refine x_met RX10 (by decide) rfl (Nat.le_of_ble_eq_true rfl) ?_
  intro p e s m below meth c ls _ X hr hlk hml _ hR hS hl
  have B : xB p s m _ meth c cX10_dealOut RX10 6 none D dA := ⟨X, hr, hlk, hml⟩
  have hl : xL ls 6 [_, _, _, _, _, _] := hl
  unfold f_X10_dealOut at hf
  refine lv_aload_n B.1.1 B.1.2.1 dX10_dealOut_0 rfl (hl.at 0 rfl) ?_
  refine y_cl hf (fun q hq => x_runV (ci := 10) (C := RX10) B.1 B.2.2.2 hl hR hS cm_X10_197 ⟨rfl, rfl, Nat.le_of_ble_eq_true rfl, Nat.le_of_ble_eq_true rfl⟩ (by decide) rfl k_p0 (c_X10_sumWeights k_p0 hq) rfl rfl (Nat.le_of_ble_eq_true rfl) dX10_dealOut_1 ⟨Nat.le_of_ble_eq_true rfl, Nat.le_of_ble_eq_true rfl⟩) hS (fun r2 S1 H locs hf hR hS => ?_)
  refine y_lstore_n B hl hf dX10_dealOut_4 rfl (by decide) rfl (fun v3 ls hf hl => ?_)
  have hl : xL ls 6 [_, _, _, _, _, _] := hl
  refine lv_iload_n B.1.1 B.1.2.1 dX10_dealOut_5 rfl (hl.at 1 rfl) ?_
  refine y_istore B hl hf dX10_dealOut_6 (by decide) rfl (fun v4 ls hf hl => ?_)
  have hl : xL ls 6 [_, _, _, _, _, _] := hl
  refine lv_iconst (v := 0) B.1.1 B.1.2.1 dX10_dealOut_8 (by decide) ?_
  refine y_istore B hl hf dX10_dealOut_9 (by decide) rfl (fun v5 ls hf hl => ?_)
  have hl : xL ls 6 [_, _, _, _, _, _] := hl
  exact w_X10_dealOut_11 B xfu _ _ _ _ _ _ _ _ _ k_p0 hf hR hS hl
abbrev xr_X10_weighAlike : Room := { frames := 2, cells := 0, slots := 0, locals := 35 }
def f_X10_weighAlike_11 (T : xT) : Nat → xS → Nat → Int32 → Int32 → Option (xS)
  | 0, _, _, _, _ => none
  | n + 1, S, p0, p1, p2 => if (8 : Int32) ≤ p2 then some S else xgr T S p0 15 21 (fun a1 => xsj T S a1 p2 ((((p1 >>> (p2 &&& 31)) &&& (1 : Int32))).toInt64) (fun S2 => xl (p2 + (1 : Int32)) (fun v3 => f_X10_weighAlike_11 T n S2 p0 p1 v3)))
set_option maxRecDepth 100000 in
set_option maxHeartbeats 4000000 in
theorem w_X10_weighAlike_11 {p : Program} {l : Launch} {e : Env} {s : State} {m : MethodId} {args : Array Value} {below : List Frame} {meth : Method} {c : Code} {z : Nat} {D : va_G} {dA : Nat → ClassId} {T : xT} (B : xB p s m args meth c cX10_weighAlike RX10 3 none D dA) {q : xS} : ∀ (n : Nat), ∀ (S : xS) (H : Heap) (locs : List Loc) (ls : Array Slot) (p0 : Nat) (p1 : Int32) (p2 : Int32), xlk T p0 10 = true → f_X10_weighAlike_11 T n S p0 p1 p2 = some q → xRel z D dA T S H → va_S (xA z) s.heap H locs → xL ls 3 [some (.ref (z + p0)), some (.int p1), some (.int p2)] → xGv p l e xr_X10_weighAlike s m args below meth c z D dA T q H locs 11 ls [] := by
  intro n
  induction n with
  | zero =>
    intro S H locs ls p0 p1 p2 k_p0 hf hR hS hl
    exact absurd hf (by simp [f_X10_weighAlike_11])
  | succ n ih =>
    intro S H locs ls p0 p1 p2 k_p0 hf hR hS hl
    unfold f_X10_weighAlike_11 at hf
    refine lv_iload_n B.1.1 B.1.2.1 dX10_weighAlike_11 rfl (hl.at 2 rfl) ?_
    refine lv_bipush (v := 8) B.1.1 B.1.2.1 dX10_weighAlike_12 (by decide) ?_
    refine y_icmp_ge (tgt := 35) B hf dX10_weighAlike_14 (by decide) (fun hf => ?_) (fun hf => ?_)
    · exact y_vret B hR hS hf dX10_weighAlike_35
    · refine lv_aload_n B.1.1 B.1.2.1 dX10_weighAlike_17 rfl (hl.at 0 rfl) ?_
      refine y_getR B hR hf k_p0 fl_X10_31 dX10_weighAlike_18 (fun a1 k_a1 hf => ?_)
      refine lv_iload_n B.1.1 B.1.2.1 dX10_weighAlike_21 rfl (hl.at 2 rfl) ?_
      refine lv_iload_n B.1.1 B.1.2.1 dX10_weighAlike_22 rfl (hl.at 1 rfl) ?_
      refine lv_iload_n B.1.1 B.1.2.1 dX10_weighAlike_23 rfl (hl.at 2 rfl) ?_
      refine lv_ishr B.1.1 B.1.2.1 dX10_weighAlike_24 ?_
      refine lv_iconst (v := 1) B.1.1 B.1.2.1 dX10_weighAlike_25 (by decide) ?_
      refine lv_iand B.1.1 B.1.2.1 dX10_weighAlike_26 ?_
      refine lv_i2l B.1.1 B.1.2.1 dX10_weighAlike_27 rfl ?_
      refine y_last B hR hS hf k_a1 dX10_weighAlike_28 (fun S2 H locs hf hR hS => ?_)
      refine y_iinc (d := 1) B hl hf dX10_weighAlike_29 rfl (by decide) (by decide) rfl (fun v3 ls hf hl => ?_)
      have hl : xL ls 3 [_, _, _] := hl
      refine lv_goto (tgt := 11) B.1.1 B.1.2.1 dX10_weighAlike_32 (by decide) ?_
      exact ih _ _ _ _ _ _ _ k_p0 hf hR hS hl
def f_X10_weighAlike (T : xT) (S : xS) (p0 : Nat) (p1 : Int32) : Option (xS) := xc (f_X10_sumWeights T S p0) (fun r2 S1 => if (lg_cmp r2 ((0 : Int64))) = (0 : Int32) then xl ((0 : Int32)) (fun v3 => f_X10_weighAlike_11 T xfu S1 p0 p1 v3) else some S1)
set_option maxRecDepth 100000 in
set_option maxHeartbeats 4000000 in
theorem c_X10_weighAlike {l : Launch} {z : Nat} {D : va_G} {dA : Nat → ClassId} {T : xT} {S : xS} {p0 : Nat} {p1 : Int32} (k_p0 : xlk T p0 10 = true) {q : xS} (hf : f_X10_weighAlike T S p0 p1 = some q) : Met l yX10_weighAlike (xws yX10_weighAlike cX10_weighAlike 3 none) xr_X10_weighAlike (xPc z D dA T S [.ref (z + p0), .int p1]) (xQv z D dA T q) 0 0 (xA z) := by
  refine x_met RX10 (by decide) rfl (Nat.le_of_ble_eq_true rfl) ?_
  intro p e s m below meth c ls _ X hr hlk hml _ hR hS hl
  have B : xB p s m _ meth c cX10_weighAlike RX10 3 none D dA := ⟨X, hr, hlk, hml⟩
  have hl : xL ls 3 [_, _, _] := hl
  unfold f_X10_weighAlike at hf
  refine lv_aload_n B.1.1 B.1.2.1 dX10_weighAlike_0 rfl (hl.at 0 rfl) ?_
  refine y_cl hf (fun q hq => x_runV (ci := 10) (C := RX10) B.1 B.2.2.2 hl hR hS cm_X10_197 ⟨rfl, rfl, Nat.le_of_ble_eq_true rfl, Nat.le_of_ble_eq_true rfl⟩ (by decide) rfl k_p0 (c_X10_sumWeights k_p0 hq) rfl rfl (Nat.le_of_ble_eq_true rfl) dX10_weighAlike_1 ⟨Nat.le_of_ble_eq_true rfl, Nat.le_of_ble_eq_true rfl⟩) hS (fun r2 S1 H locs hf hR hS => ?_)
  refine lv_lconst (v := 0) B.1.1 B.1.2.1 dX10_weighAlike_4 (by decide) ?_
  refine W.lcmp B.1.1 B.1.2.1 dX10_weighAlike_5 ?_
  refine y_if_ne (tgt := 35) B hf dX10_weighAlike_6 (by decide) (fun hf => ?_) (fun hf => ?_)
  · exact y_vret B hR hS hf dX10_weighAlike_35
  · refine lv_iconst (v := 0) B.1.1 B.1.2.1 dX10_weighAlike_9 (by decide) ?_
    refine y_istore_n B hl hf dX10_weighAlike_10 rfl (by decide) rfl (fun v3 ls hf hl => ?_)
    have hl : xL ls 3 [_, _, _] := hl
    exact w_X10_weighAlike_11 B xfu _ _ _ _ _ _ _ k_p0 hf hR hS hl
abbrev xr_X10_weighRatio : Room := { frames := 3, cells := 0, slots := 0, locals := 57 }
def f_X10_weighRatio_2 (T : xT) : Nat → xS → Nat → Int32 → Int32 → Option (xS)
  | 0, _, _, _, _ => none
  | n + 1, S, p0, p1, p2 => if (8 : Int32) ≤ p2 then xcv (f_X10_weighAlike T S p0 p1) (fun S1 => some S1) else xgr T S p0 15 21 (fun a2 => xc (f_X10_get T S p0 (((21 : Int32) + p2))) (fun r4 S3 => xsj T S3 a2 p2 (((((p1 >>> (p2 &&& 31)) &&& (1 : Int32)) * r4)).toInt64) (fun S5 => xl (p2 + (1 : Int32)) (fun v6 => f_X10_weighRatio_2 T n S5 p0 p1 v6))))
set_option maxRecDepth 100000 in
set_option maxHeartbeats 4000000 in
theorem w_X10_weighRatio_2 {p : Program} {l : Launch} {e : Env} {s : State} {m : MethodId} {args : Array Value} {below : List Frame} {meth : Method} {c : Code} {z : Nat} {D : va_G} {dA : Nat → ClassId} {T : xT} (B : xB p s m args meth c cX10_weighRatio RX10 3 none D dA) {q : xS} : ∀ (n : Nat), ∀ (S : xS) (H : Heap) (locs : List Loc) (ls : Array Slot) (p0 : Nat) (p1 : Int32) (p2 : Int32), xlk T p0 10 = true → f_X10_weighRatio_2 T n S p0 p1 p2 = some q → xRel z D dA T S H → va_S (xA z) s.heap H locs → xL ls 3 [some (.ref (z + p0)), some (.int p1), some (.int p2)] → xGv p l e xr_X10_weighRatio s m args below meth c z D dA T q H locs 2 ls [] := by
  intro n
  induction n with
  | zero =>
    intro S H locs ls p0 p1 p2 k_p0 hf hR hS hl
    exact absurd hf (by simp [f_X10_weighRatio_2])
  | succ n ih =>
    intro S H locs ls p0 p1 p2 k_p0 hf hR hS hl
    unfold f_X10_weighRatio_2 at hf
    refine lv_iload_n B.1.1 B.1.2.1 dX10_weighRatio_2 rfl (hl.at 2 rfl) ?_
    refine lv_bipush (v := 8) B.1.1 B.1.2.1 dX10_weighRatio_3 (by decide) ?_
    refine y_icmp_ge (tgt := 35) B hf dX10_weighRatio_5 (by decide) (fun hf => ?_) (fun hf => ?_)
    · refine lv_aload_n B.1.1 B.1.2.1 dX10_weighRatio_35 rfl (hl.at 0 rfl) ?_
      refine lv_iload_n B.1.1 B.1.2.1 dX10_weighRatio_36 rfl (hl.at 1 rfl) ?_
      refine y_cv hf (fun q hq => x_runV (ci := 10) (C := RX10) B.1 B.2.2.2 hl hR hS cm_X10_200 ⟨rfl, rfl, Nat.le_of_ble_eq_true rfl, Nat.le_of_ble_eq_true rfl⟩ (by decide) rfl k_p0 (c_X10_weighAlike k_p0 hq) rfl rfl (Nat.le_of_ble_eq_true rfl) dX10_weighRatio_37 ⟨Nat.le_of_ble_eq_true rfl, Nat.le_of_ble_eq_true rfl⟩) hS (fun S1 H locs hf hR hS => ?_)
      exact y_vret B hR hS hf dX10_weighRatio_40
    · refine lv_aload_n B.1.1 B.1.2.1 dX10_weighRatio_8 rfl (hl.at 0 rfl) ?_
      refine y_getR B hR hf k_p0 fl_X10_31 dX10_weighRatio_9 (fun a2 k_a2 hf => ?_)
      refine lv_iload_n B.1.1 B.1.2.1 dX10_weighRatio_12 rfl (hl.at 2 rfl) ?_
      refine lv_iload_n B.1.1 B.1.2.1 dX10_weighRatio_13 rfl (hl.at 1 rfl) ?_
      refine lv_iload_n B.1.1 B.1.2.1 dX10_weighRatio_14 rfl (hl.at 2 rfl) ?_
      refine lv_ishr B.1.1 B.1.2.1 dX10_weighRatio_15 ?_
      refine lv_iconst (v := 1) B.1.1 B.1.2.1 dX10_weighRatio_16 (by decide) ?_
      refine lv_iand B.1.1 B.1.2.1 dX10_weighRatio_17 ?_
      refine lv_aload_n B.1.1 B.1.2.1 dX10_weighRatio_18 rfl (hl.at 0 rfl) ?_
      refine lv_bipush (v := 21) B.1.1 B.1.2.1 dX10_weighRatio_19 (by decide) ?_
      refine lv_iload_n B.1.1 B.1.2.1 dX10_weighRatio_21 rfl (hl.at 2 rfl) ?_
      refine lv_iadd B.1.1 B.1.2.1 dX10_weighRatio_22 ?_
      refine y_ci hf (fun q hq => x_runV (ci := 10) (C := RX10) B.1 B.2.2.2 hl hR hS cm_X10_193 ⟨rfl, rfl, Nat.le_of_ble_eq_true rfl, Nat.le_of_ble_eq_true rfl⟩ (by decide) rfl k_p0 (c_X10_get k_p0 hq) rfl rfl (Nat.le_of_ble_eq_true rfl) dX10_weighRatio_23 ⟨Nat.le_of_ble_eq_true rfl, Nat.le_of_ble_eq_true rfl⟩) hS (fun r4 S3 H locs hf hR hS => ?_)
      refine lv_imul B.1.1 B.1.2.1 dX10_weighRatio_26 ?_
      refine lv_i2l B.1.1 B.1.2.1 dX10_weighRatio_27 rfl ?_
      refine y_last B hR hS hf k_a2 dX10_weighRatio_28 (fun S5 H locs hf hR hS => ?_)
      refine y_iinc (d := 1) B hl hf dX10_weighRatio_29 rfl (by decide) (by decide) rfl (fun v6 ls hf hl => ?_)
      have hl : xL ls 3 [_, _, _] := hl
      refine lv_goto (tgt := 2) B.1.1 B.1.2.1 dX10_weighRatio_32 (by decide) ?_
      exact ih _ _ _ _ _ _ _ k_p0 hf hR hS hl
def f_X10_weighRatio (T : xT) (S : xS) (p0 : Nat) (p1 : Int32) : Option (xS) := xl ((0 : Int32)) (fun v1 => f_X10_weighRatio_2 T xfu S p0 p1 v1)
set_option maxRecDepth 100000 in
set_option maxHeartbeats 4000000 in
theorem c_X10_weighRatio {l : Launch} {z : Nat} {D : va_G} {dA : Nat → ClassId} {T : xT} {S : xS} {p0 : Nat} {p1 : Int32} (k_p0 : xlk T p0 10 = true) {q : xS} (hf : f_X10_weighRatio T S p0 p1 = some q) : Met l yX10_weighRatio (xws yX10_weighRatio cX10_weighRatio 3 none) xr_X10_weighRatio (xPc z D dA T S [.ref (z + p0), .int p1]) (xQv z D dA T q) 0 0 (xA z) := by
  refine x_met RX10 (by decide) rfl (Nat.le_of_ble_eq_true rfl) ?_
  intro p e s m below meth c ls _ X hr hlk hml _ hR hS hl
  have B : xB p s m _ meth c cX10_weighRatio RX10 3 none D dA := ⟨X, hr, hlk, hml⟩
  have hl : xL ls 3 [_, _, _] := hl
  unfold f_X10_weighRatio at hf
  refine lv_iconst (v := 0) B.1.1 B.1.2.1 dX10_weighRatio_0 (by decide) ?_
  refine y_istore_n B hl hf dX10_weighRatio_1 rfl (by decide) rfl (fun v1 ls hf hl => ?_)
  have hl : xL ls 3 [_, _, _] := hl
  exact w_X10_weighRatio_2 B xfu _ _ _ _ _ _ _ k_p0 hf hR hS hl
abbrev xr_X10_weighTier : Room := { frames := 3, cells := 0, slots := 0, locals := 55 }
def f_X10_weighTier_2 (T : xT) : Nat → xS → Nat → Int32 → Int32 → Option (xS)
  | 0, _, _, _, _ => none
  | n + 1, S, p0, p1, p2 => if (8 : Int32) ≤ p2 then some S else xgr T S p0 15 21 (fun a1 => xc (f_X10_isThere T S p0 p2) (fun r3 S2 => if r3 = (0 : Int32) then xsj T S2 a1 p2 ((0 : Int64)) (fun S4 => xl (p2 + (1 : Int32)) (fun v5 => f_X10_weighTier_2 T n S4 p0 p1 v5)) else xc (f_X10_get T S2 p0 (((((78 : Int32) + ((9 : Int32) * p1)) + (1 : Int32)) + p2))) (fun r7 S6 => xsj T S6 a1 p2 ((r7).toInt64) (fun S8 => xl (p2 + (1 : Int32)) (fun v9 => f_X10_weighTier_2 T n S8 p0 p1 v9)))))
set_option maxRecDepth 100000 in
set_option maxHeartbeats 4000000 in
theorem w_X10_weighTier_2 {p : Program} {l : Launch} {e : Env} {s : State} {m : MethodId} {args : Array Value} {below : List Frame} {meth : Method} {c : Code} {z : Nat} {D : va_G} {dA : Nat → ClassId} {T : xT} (B : xB p s m args meth c cX10_weighTier RX10 3 none D dA) {q : xS} : ∀ (n : Nat), ∀ (S : xS) (H : Heap) (locs : List Loc) (ls : Array Slot) (p0 : Nat) (p1 : Int32) (p2 : Int32), xlk T p0 10 = true → f_X10_weighTier_2 T n S p0 p1 p2 = some q → xRel z D dA T S H → va_S (xA z) s.heap H locs → xL ls 3 [some (.ref (z + p0)), some (.int p1), some (.int p2)] → xGv p l e xr_X10_weighTier s m args below meth c z D dA T q H locs 2 ls [] := by
  intro n
  induction n with
  | zero =>
    intro S H locs ls p0 p1 p2 k_p0 hf hR hS hl
    exact absurd hf (by simp [f_X10_weighTier_2])
  | succ n ih =>
    intro S H locs ls p0 p1 p2 k_p0 hf hR hS hl
    unfold f_X10_weighTier_2 at hf
    refine lv_iload_n B.1.1 B.1.2.1 dX10_weighTier_2 rfl (hl.at 2 rfl) ?_
    refine lv_bipush (v := 8) B.1.1 B.1.2.1 dX10_weighTier_3 (by decide) ?_
    refine y_icmp_ge (tgt := 48) B hf dX10_weighTier_5 (by decide) (fun hf => ?_) (fun hf => ?_)
    · exact y_vret B hR hS hf dX10_weighTier_48
    · refine lv_aload_n B.1.1 B.1.2.1 dX10_weighTier_8 rfl (hl.at 0 rfl) ?_
      refine y_getR B hR hf k_p0 fl_X10_31 dX10_weighTier_9 (fun a1 k_a1 hf => ?_)
      refine lv_iload_n B.1.1 B.1.2.1 dX10_weighTier_12 rfl (hl.at 2 rfl) ?_
      refine lv_aload_n B.1.1 B.1.2.1 dX10_weighTier_13 rfl (hl.at 0 rfl) ?_
      refine lv_iload_n B.1.1 B.1.2.1 dX10_weighTier_14 rfl (hl.at 2 rfl) ?_
      refine y_ci hf (fun q hq => x_runV (ci := 10) (C := RX10) B.1 B.2.2.2 hl hR hS cm_X10_203 ⟨rfl, rfl, Nat.le_of_ble_eq_true rfl, Nat.le_of_ble_eq_true rfl⟩ (by decide) rfl k_p0 (c_X10_isThere k_p0 hq) rfl rfl (Nat.le_of_ble_eq_true rfl) dX10_weighTier_15 ⟨Nat.le_of_ble_eq_true rfl, Nat.le_of_ble_eq_true rfl⟩) hS (fun r3 S2 H locs hf hR hS => ?_)
      refine y_if_eq (tgt := 40) B hf dX10_weighTier_18 (by decide) (fun hf => ?_) (fun hf => ?_)
      · refine lv_lconst (v := 0) B.1.1 B.1.2.1 dX10_weighTier_40 (by decide) ?_
        refine y_last B hR hS hf k_a1 dX10_weighTier_41 (fun S4 H locs hf hR hS => ?_)
        refine y_iinc (d := 1) B hl hf dX10_weighTier_42 rfl (by decide) (by decide) rfl (fun v5 ls hf hl => ?_)
        have hl : xL ls 3 [_, _, _] := hl
        refine lv_goto (tgt := 2) B.1.1 B.1.2.1 dX10_weighTier_45 (by decide) ?_
        exact ih _ _ _ _ _ _ _ k_p0 hf hR hS hl
      · refine lv_aload_n B.1.1 B.1.2.1 dX10_weighTier_21 rfl (hl.at 0 rfl) ?_
        refine lv_bipush (v := 78) B.1.1 B.1.2.1 dX10_weighTier_22 (by decide) ?_
        refine lv_bipush (v := 9) B.1.1 B.1.2.1 dX10_weighTier_24 (by decide) ?_
        refine lv_iload_n B.1.1 B.1.2.1 dX10_weighTier_26 rfl (hl.at 1 rfl) ?_
        refine lv_imul B.1.1 B.1.2.1 dX10_weighTier_27 ?_
        refine lv_iadd B.1.1 B.1.2.1 dX10_weighTier_28 ?_
        refine lv_iconst (v := 1) B.1.1 B.1.2.1 dX10_weighTier_29 (by decide) ?_
        refine lv_iadd B.1.1 B.1.2.1 dX10_weighTier_30 ?_
        refine lv_iload_n B.1.1 B.1.2.1 dX10_weighTier_31 rfl (hl.at 2 rfl) ?_
        refine lv_iadd B.1.1 B.1.2.1 dX10_weighTier_32 ?_
        refine y_ci hf (fun q hq => x_runV (ci := 10) (C := RX10) B.1 B.2.2.2 hl hR hS cm_X10_193 ⟨rfl, rfl, Nat.le_of_ble_eq_true rfl, Nat.le_of_ble_eq_true rfl⟩ (by decide) rfl k_p0 (c_X10_get k_p0 hq) rfl rfl (Nat.le_of_ble_eq_true rfl) dX10_weighTier_33 ⟨Nat.le_of_ble_eq_true rfl, Nat.le_of_ble_eq_true rfl⟩) hS (fun r7 S6 H locs hf hR hS => ?_)
        refine lv_i2l B.1.1 B.1.2.1 dX10_weighTier_36 rfl ?_
        refine lv_goto (tgt := 41) B.1.1 B.1.2.1 dX10_weighTier_37 (by decide) ?_
        refine y_last B hR hS hf k_a1 dX10_weighTier_41 (fun S8 H locs hf hR hS => ?_)
        refine y_iinc (d := 1) B hl hf dX10_weighTier_42 rfl (by decide) (by decide) rfl (fun v9 ls hf hl => ?_)
        have hl : xL ls 3 [_, _, _] := hl
        refine lv_goto (tgt := 2) B.1.1 B.1.2.1 dX10_weighTier_45 (by decide) ?_
        exact ih _ _ _ _ _ _ _ k_p0 hf hR hS hl
def f_X10_weighTier (T : xT) (S : xS) (p0 : Nat) (p1 : Int32) : Option (xS) := xl ((0 : Int32)) (fun v1 => f_X10_weighTier_2 T xfu S p0 p1 v1)
set_option maxRecDepth 100000 in
set_option maxHeartbeats 4000000 in
theorem c_X10_weighTier {l : Launch} {z : Nat} {D : va_G} {dA : Nat → ClassId} {T : xT} {S : xS} {p0 : Nat} {p1 : Int32} (k_p0 : xlk T p0 10 = true) {q : xS} (hf : f_X10_weighTier T S p0 p1 = some q) : Met l yX10_weighTier (xws yX10_weighTier cX10_weighTier 3 none) xr_X10_weighTier (xPc z D dA T S [.ref (z + p0), .int p1]) (xQv z D dA T q) 0 0 (xA z) := by
  refine x_met RX10 (by decide) rfl (Nat.le_of_ble_eq_true rfl) ?_
  intro p e s m below meth c ls _ X hr hlk hml _ hR hS hl
  have B : xB p s m _ meth c cX10_weighTier RX10 3 none D dA := ⟨X, hr, hlk, hml⟩
  have hl : xL ls 3 [_, _, _] := hl
  unfold f_X10_weighTier at hf
  refine lv_iconst (v := 0) B.1.1 B.1.2.1 dX10_weighTier_0 (by decide) ?_
  refine y_istore_n B hl hf dX10_weighTier_1 rfl (by decide) rfl (fun v1 ls hf hl => ?_)
  have hl : xL ls 3 [_, _, _] := hl
  exact w_X10_weighTier_2 B xfu _ _ _ _ _ _ _ k_p0 hf hR hS hl
abbrev xr_X10_laySale : Room := { frames := 4, cells := 0, slots := 0, locals := 77 }
def f_X10_laySale_97 (T : xT) (rec_25 : xS → Nat → Int32 → Int32 → Option (xS)) : Nat → xS → Nat → Int32 → Int32 → Int32 → Int32 → Option (xS)
  | 0, _, _, _, _, _, _ => none
  | n + 1, S, p0, p2, p3, p4, p5 => if (8 : Int32) ≤ p5 then xl ((p2 - p4)) (fun v1 => xl (p3 + (1 : Int32)) (fun v2 => rec_25 S p0 v1 v2)) else xgr T S p0 17 20 (fun a3 => xai T S a3 p5 (fun v4 => xgr T S p0 16 20 (fun a5 => xai T S a5 p5 (fun v6 => xst T S a3 p5 ((v4 + v6)) (fun S7 => xl (p5 + (1 : Int32)) (fun v8 => f_X10_laySale_97 T rec_25 n S7 p0 p2 p3 p4 v8))))))
set_option maxRecDepth 100000 in
set_option maxHeartbeats 4000000 in
theorem w_X10_laySale_97 {p : Program} {l : Launch} {e : Env} {s : State} {m : MethodId} {args : Array Value} {below : List Frame} {meth : Method} {c : Code} {z : Nat} {D : va_G} {dA : Nat → ClassId} {T : xT} (B : xB p s m args meth c cX10_laySale RX10 6 none D dA) {q : xS} {rec_25 : xS → Nat → Int32 → Int32 → Option (xS)} (hrec_25 : ∀ (S : xS) (H : Heap) (locs : List Loc) (ls : Array Slot) (p0 : Nat) (p2 : Int32) (p3 : Int32), xlk T p0 10 = true → rec_25 S p0 p2 p3 = some q → xRel z D dA T S H → va_S (xA z) s.heap H locs → xL ls 6 [some (.ref (z + p0)), none, some (.int p2), some (.int p3), none, none] → xGv p l e xr_X10_laySale s m args below meth c z D dA T q H locs 25 ls []) : ∀ (n : Nat), ∀ (S : xS) (H : Heap) (locs : List Loc) (ls : Array Slot) (p0 : Nat) (p2 : Int32) (p3 : Int32) (p4 : Int32) (p5 : Int32), xlk T p0 10 = true → f_X10_laySale_97 T rec_25 n S p0 p2 p3 p4 p5 = some q → xRel z D dA T S H → va_S (xA z) s.heap H locs → xL ls 6 [some (.ref (z + p0)), none, some (.int p2), some (.int p3), some (.int p4), some (.int p5)] → xGv p l e xr_X10_laySale s m args below meth c z D dA T q H locs 97 ls [] := by
  intro n
  induction n with
  | zero =>
    intro S H locs ls p0 p2 p3 p4 p5 k_p0 hf hR hS hl
    exact absurd hf (by simp [f_X10_laySale_97])
  | succ n ih =>
    intro S H locs ls p0 p2 p3 p4 p5 k_p0 hf hR hS hl
    unfold f_X10_laySale_97 at hf
    refine lv_iload B.1.1 B.1.2.1 dX10_laySale_97 (hl.at 5 rfl) ?_
    refine lv_bipush (v := 8) B.1.1 B.1.2.1 dX10_laySale_99 (by decide) ?_
    refine y_icmp_ge (tgt := 127) B hf dX10_laySale_101 (by decide) (fun hf => ?_) (fun hf => ?_)
    · refine lv_iload_n B.1.1 B.1.2.1 dX10_laySale_127 rfl (hl.at 2 rfl) ?_
      refine lv_iload B.1.1 B.1.2.1 dX10_laySale_128 (hl.at 4 rfl) ?_
      refine lv_isub B.1.1 B.1.2.1 dX10_laySale_130 ?_
      refine y_istore_n B hl hf dX10_laySale_131 rfl (by decide) rfl (fun v1 ls hf hl => ?_)
      have hl : xL ls 6 [_, _, _, _, _, _] := hl
      refine y_iinc (d := 1) B hl hf dX10_laySale_132 rfl (by decide) (by decide) rfl (fun v2 ls hf hl => ?_)
      have hl : xL ls 6 [_, _, _, _, _, _] := hl
      refine lv_goto (tgt := 25) B.1.1 B.1.2.1 dX10_laySale_135 (by decide) ?_
      exact hrec_25 _ _ _ _ _ _ _ k_p0 hf hR hS (hl.drop [true, false, true, true, false, false] rfl)
    · refine lv_aload_n B.1.1 B.1.2.1 dX10_laySale_104 rfl (hl.at 0 rfl) ?_
      refine y_getR B hR hf k_p0 fl_X10_38 dX10_laySale_105 (fun a3 k_a3 hf => ?_)
      refine lv_iload B.1.1 B.1.2.1 dX10_laySale_108 (hl.at 5 rfl) ?_
      refine lv_dup2_11 B.1.1 B.1.2.1 dX10_laySale_110 rfl rfl ?_
      refine y_iald B hR hf k_a3 dX10_laySale_111 (fun v4 hf => ?_)
      refine lv_aload_n B.1.1 B.1.2.1 dX10_laySale_112 rfl (hl.at 0 rfl) ?_
      refine y_getR B hR hf k_p0 fl_X10_35 dX10_laySale_113 (fun a5 k_a5 hf => ?_)
      refine lv_iload B.1.1 B.1.2.1 dX10_laySale_116 (hl.at 5 rfl) ?_
      refine y_iald B hR hf k_a5 dX10_laySale_118 (fun v6 hf => ?_)
      refine lv_iadd B.1.1 B.1.2.1 dX10_laySale_119 ?_
      refine y_iast B hR hS hf k_a3 dX10_laySale_120 (fun S7 H locs hf hR hS => ?_)
      refine y_iinc (d := 1) B hl hf dX10_laySale_121 rfl (by decide) (by decide) rfl (fun v8 ls hf hl => ?_)
      have hl : xL ls 6 [_, _, _, _, _, _] := hl
      refine lv_goto (tgt := 97) B.1.1 B.1.2.1 dX10_laySale_124 (by decide) ?_
      exact ih _ _ _ _ _ _ _ _ _ k_p0 hf hR hS hl
def f_X10_laySale_173 (T : xT) : Nat → xS → Nat → Int32 → Int32 → Option (xS)
  | 0, _, _, _, _ => none
  | n + 1, S, p0, p2, p3 => if (8 : Int32) ≤ p3 then some S else xgr T S p0 17 20 (fun a1 => xai T S a1 p3 (fun v2 => if (0 : Int32) ≤ p2 then xgr T S p0 16 20 (fun a3 => xai T S a3 p3 (fun v4 => xst T S a1 p3 ((v2 + v4)) (fun S5 => xl (p3 + (1 : Int32)) (fun v6 => f_X10_laySale_173 T n S5 p0 p2 v6)))) else xgr T S p0 16 20 (fun a7 => xai T S a7 p3 (fun v8 => xst T S a1 p3 ((v2 + (-v8))) (fun S9 => xl (p3 + (1 : Int32)) (fun v10 => f_X10_laySale_173 T n S9 p0 p2 v10))))))
set_option maxRecDepth 100000 in
set_option maxHeartbeats 4000000 in
theorem w_X10_laySale_173 {p : Program} {l : Launch} {e : Env} {s : State} {m : MethodId} {args : Array Value} {below : List Frame} {meth : Method} {c : Code} {z : Nat} {D : va_G} {dA : Nat → ClassId} {T : xT} (B : xB p s m args meth c cX10_laySale RX10 6 none D dA) {q : xS} : ∀ (n : Nat), ∀ (S : xS) (H : Heap) (locs : List Loc) (ls : Array Slot) (p0 : Nat) (p2 : Int32) (p3 : Int32), xlk T p0 10 = true → f_X10_laySale_173 T n S p0 p2 p3 = some q → xRel z D dA T S H → va_S (xA z) s.heap H locs → xL ls 6 [some (.ref (z + p0)), none, some (.int p2), some (.int p3), none, none] → xGv p l e xr_X10_laySale s m args below meth c z D dA T q H locs 173 ls [] := by
  intro n
  induction n with
  | zero =>
    intro S H locs ls p0 p2 p3 k_p0 hf hR hS hl
    exact absurd hf (by simp [f_X10_laySale_173])
  | succ n ih =>
    intro S H locs ls p0 p2 p3 k_p0 hf hR hS hl
    unfold f_X10_laySale_173 at hf
    refine lv_iload_n B.1.1 B.1.2.1 dX10_laySale_173 rfl (hl.at 3 rfl) ?_
    refine lv_bipush (v := 8) B.1.1 B.1.2.1 dX10_laySale_174 (by decide) ?_
    refine y_icmp_ge (tgt := 214) B hf dX10_laySale_176 (by decide) (fun hf => ?_) (fun hf => ?_)
    · exact y_vret B hR hS hf dX10_laySale_214
    · refine lv_aload_n B.1.1 B.1.2.1 dX10_laySale_179 rfl (hl.at 0 rfl) ?_
      refine y_getR B hR hf k_p0 fl_X10_38 dX10_laySale_180 (fun a1 k_a1 hf => ?_)
      refine lv_iload_n B.1.1 B.1.2.1 dX10_laySale_183 rfl (hl.at 3 rfl) ?_
      refine lv_dup2_11 B.1.1 B.1.2.1 dX10_laySale_184 rfl rfl ?_
      refine y_iald B hR hf k_a1 dX10_laySale_185 (fun v2 hf => ?_)
      refine lv_iload_n B.1.1 B.1.2.1 dX10_laySale_186 rfl (hl.at 2 rfl) ?_
      refine y_if_ge (tgt := 200) B hf dX10_laySale_187 (by decide) (fun hf => ?_) (fun hf => ?_)
      · refine lv_aload_n B.1.1 B.1.2.1 dX10_laySale_200 rfl (hl.at 0 rfl) ?_
        refine y_getR B hR hf k_p0 fl_X10_35 dX10_laySale_201 (fun a3 k_a3 hf => ?_)
        refine lv_iload_n B.1.1 B.1.2.1 dX10_laySale_204 rfl (hl.at 3 rfl) ?_
        refine y_iald B hR hf k_a3 dX10_laySale_205 (fun v4 hf => ?_)
        refine lv_iadd B.1.1 B.1.2.1 dX10_laySale_206 ?_
        refine y_iast B hR hS hf k_a1 dX10_laySale_207 (fun S5 H locs hf hR hS => ?_)
        refine y_iinc (d := 1) B hl hf dX10_laySale_208 rfl (by decide) (by decide) rfl (fun v6 ls hf hl => ?_)
        have hl : xL ls 6 [_, _, _, _, _, _] := hl
        refine lv_goto (tgt := 173) B.1.1 B.1.2.1 dX10_laySale_211 (by decide) ?_
        exact ih _ _ _ _ _ _ _ k_p0 hf hR hS hl
      · refine lv_aload_n B.1.1 B.1.2.1 dX10_laySale_190 rfl (hl.at 0 rfl) ?_
        refine y_getR B hR hf k_p0 fl_X10_35 dX10_laySale_191 (fun a7 k_a7 hf => ?_)
        refine lv_iload_n B.1.1 B.1.2.1 dX10_laySale_194 rfl (hl.at 3 rfl) ?_
        refine y_iald B hR hf k_a7 dX10_laySale_195 (fun v8 hf => ?_)
        refine lv_ineg B.1.1 B.1.2.1 dX10_laySale_196 ?_
        refine lv_goto (tgt := 206) B.1.1 B.1.2.1 dX10_laySale_197 (by decide) ?_
        refine lv_iadd B.1.1 B.1.2.1 dX10_laySale_206 ?_
        refine y_iast B hR hS hf k_a1 dX10_laySale_207 (fun S9 H locs hf hR hS => ?_)
        refine y_iinc (d := 1) B hl hf dX10_laySale_208 rfl (by decide) (by decide) rfl (fun v10 ls hf hl => ?_)
        have hl : xL ls 6 [_, _, _, _, _, _] := hl
        refine lv_goto (tgt := 173) B.1.1 B.1.2.1 dX10_laySale_211 (by decide) ?_
        exact ih _ _ _ _ _ _ _ k_p0 hf hR hS hl
def f_X10_laySale_138 (T : xT) (S : xS) (p0 : Nat) (p2 : Int32) : Option (xS) := xc (f_X10_get T S p0 ((77 : Int32))) (fun r2 S1 => xcv (f_X10_weighTier T S1 p0 r2) (fun S3 => xc (f_X10_get T S3 p0 ((0 : Int32))) (fun r5 S4 => xcv (f_X10_weighAlike T S4 p0 r5) (fun S6 => if (0 : Int32) ≤ p2 then xcv (f_X10_dealOut T S6 p0 p2) (fun S7 => xl ((0 : Int32)) (fun v8 => f_X10_laySale_173 T xfu S7 p0 p2 v8)) else xcv (f_X10_dealOut T S6 p0 ((-p2))) (fun S9 => xl ((0 : Int32)) (fun v10 => f_X10_laySale_173 T xfu S9 p0 p2 v10))))))
set_option maxRecDepth 100000 in
set_option maxHeartbeats 4000000 in
theorem w_X10_laySale_138 {p : Program} {l : Launch} {e : Env} {s : State} {m : MethodId} {args : Array Value} {below : List Frame} {meth : Method} {c : Code} {z : Nat} {D : va_G} {dA : Nat → ClassId} {T : xT} (B : xB p s m args meth c cX10_laySale RX10 6 none D dA) {q : xS} : ∀ (S : xS) (H : Heap) (locs : List Loc) (ls : Array Slot) (p0 : Nat) (p2 : Int32), xlk T p0 10 = true → f_X10_laySale_138 T S p0 p2 = some q → xRel z D dA T S H → va_S (xA z) s.heap H locs → xL ls 6 [some (.ref (z + p0)), none, some (.int p2), none, none, none] → xGv p l e xr_X10_laySale s m args below meth c z D dA T q H locs 138 ls [] := by
  intro S H locs ls p0 p2 k_p0 hf hR hS hl
  unfold f_X10_laySale_138 at hf
  refine lv_aload_n B.1.1 B.1.2.1 dX10_laySale_138 rfl (hl.at 0 rfl) ?_
  refine lv_aload_n B.1.1 B.1.2.1 dX10_laySale_139 rfl (hl.at 0 rfl) ?_
  refine lv_bipush (v := 77) B.1.1 B.1.2.1 dX10_laySale_140 (by decide) ?_
  refine y_ci hf (fun q hq => x_runV (ci := 10) (C := RX10) B.1 B.2.2.2 hl hR hS cm_X10_193 ⟨rfl, rfl, Nat.le_of_ble_eq_true rfl, Nat.le_of_ble_eq_true rfl⟩ (by decide) rfl k_p0 (c_X10_get k_p0 hq) rfl rfl (Nat.le_of_ble_eq_true rfl) dX10_laySale_142 ⟨Nat.le_of_ble_eq_true rfl, Nat.le_of_ble_eq_true rfl⟩) hS (fun r2 S1 H locs hf hR hS => ?_)
  refine y_cv hf (fun q hq => x_runV (ci := 10) (C := RX10) B.1 B.2.2.2 hl hR hS cm_X10_206 ⟨rfl, rfl, Nat.le_of_ble_eq_true rfl, Nat.le_of_ble_eq_true rfl⟩ (by decide) rfl k_p0 (c_X10_weighTier k_p0 hq) rfl rfl (Nat.le_of_ble_eq_true rfl) dX10_laySale_145 ⟨Nat.le_of_ble_eq_true rfl, Nat.le_of_ble_eq_true rfl⟩) hS (fun S3 H locs hf hR hS => ?_)
  refine lv_aload_n B.1.1 B.1.2.1 dX10_laySale_148 rfl (hl.at 0 rfl) ?_
  refine lv_aload_n B.1.1 B.1.2.1 dX10_laySale_149 rfl (hl.at 0 rfl) ?_
  refine lv_iconst (v := 0) B.1.1 B.1.2.1 dX10_laySale_150 (by decide) ?_
  refine y_ci hf (fun q hq => x_runV (ci := 10) (C := RX10) B.1 B.2.2.2 hl hR hS cm_X10_193 ⟨rfl, rfl, Nat.le_of_ble_eq_true rfl, Nat.le_of_ble_eq_true rfl⟩ (by decide) rfl k_p0 (c_X10_get k_p0 hq) rfl rfl (Nat.le_of_ble_eq_true rfl) dX10_laySale_151 ⟨Nat.le_of_ble_eq_true rfl, Nat.le_of_ble_eq_true rfl⟩) hS (fun r5 S4 H locs hf hR hS => ?_)
  refine y_cv hf (fun q hq => x_runV (ci := 10) (C := RX10) B.1 B.2.2.2 hl hR hS cm_X10_200 ⟨rfl, rfl, Nat.le_of_ble_eq_true rfl, Nat.le_of_ble_eq_true rfl⟩ (by decide) rfl k_p0 (c_X10_weighAlike k_p0 hq) rfl rfl (Nat.le_of_ble_eq_true rfl) dX10_laySale_154 ⟨Nat.le_of_ble_eq_true rfl, Nat.le_of_ble_eq_true rfl⟩) hS (fun S6 H locs hf hR hS => ?_)
  refine lv_aload_n B.1.1 B.1.2.1 dX10_laySale_157 rfl (hl.at 0 rfl) ?_
  refine lv_iload_n B.1.1 B.1.2.1 dX10_laySale_158 rfl (hl.at 2 rfl) ?_
  refine y_if_ge (tgt := 167) B hf dX10_laySale_159 (by decide) (fun hf => ?_) (fun hf => ?_)
  · refine lv_iload_n B.1.1 B.1.2.1 dX10_laySale_167 rfl (hl.at 2 rfl) ?_
    refine y_cv hf (fun q hq => x_runV (ci := 10) (C := RX10) B.1 B.2.2.2 hl hR hS cm_X10_209 ⟨rfl, rfl, Nat.le_of_ble_eq_true rfl, Nat.le_of_ble_eq_true rfl⟩ (by decide) rfl k_p0 (c_X10_dealOut k_p0 hq) rfl rfl (Nat.le_of_ble_eq_true rfl) dX10_laySale_168 ⟨Nat.le_of_ble_eq_true rfl, Nat.le_of_ble_eq_true rfl⟩) hS (fun S7 H locs hf hR hS => ?_)
    refine lv_iconst (v := 0) B.1.1 B.1.2.1 dX10_laySale_171 (by decide) ?_
    refine y_istore_n B hl hf dX10_laySale_172 rfl (by decide) rfl (fun v8 ls hf hl => ?_)
    have hl : xL ls 6 [_, _, _, _, _, _] := hl
    exact w_X10_laySale_173 B xfu _ _ _ _ _ _ _ k_p0 hf hR hS hl
  · refine lv_iload_n B.1.1 B.1.2.1 dX10_laySale_162 rfl (hl.at 2 rfl) ?_
    refine lv_ineg B.1.1 B.1.2.1 dX10_laySale_163 ?_
    refine lv_goto (tgt := 168) B.1.1 B.1.2.1 dX10_laySale_164 (by decide) ?_
    refine y_cv hf (fun q hq => x_runV (ci := 10) (C := RX10) B.1 B.2.2.2 hl hR hS cm_X10_209 ⟨rfl, rfl, Nat.le_of_ble_eq_true rfl, Nat.le_of_ble_eq_true rfl⟩ (by decide) rfl k_p0 (c_X10_dealOut k_p0 hq) rfl rfl (Nat.le_of_ble_eq_true rfl) dX10_laySale_168 ⟨Nat.le_of_ble_eq_true rfl, Nat.le_of_ble_eq_true rfl⟩) hS (fun S9 H locs hf hR hS => ?_)
    refine lv_iconst (v := 0) B.1.1 B.1.2.1 dX10_laySale_171 (by decide) ?_
    refine y_istore_n B hl hf dX10_laySale_172 rfl (by decide) rfl (fun v10 ls hf hl => ?_)
    have hl : xL ls 6 [_, _, _, _, _, _] := hl
    exact w_X10_laySale_173 B xfu _ _ _ _ _ _ _ k_p0 hf hR hS hl
def f_X10_laySale_25 (T : xT) : Nat → xS → Nat → Int32 → Int32 → Option (xS)
  | 0, _, _, _, _ => none
  | n + 1, S, p0, p2, p3 => xc (f_X10_get T S p0 ((77 : Int32))) (fun r2 S1 => if r2 ≤ p3 then f_X10_laySale_138 T S1 p0 p2 else if p2 ≤ (0 : Int32) then f_X10_laySale_138 T S1 p0 p2 else xcv (f_X10_weighTier T S1 p0 p3) (fun S3 => xc (f_X10_sumWeights T S3 p0) (fun r5 S4 => if (lg_cmp r5 ((0 : Int64))) = (0 : Int32) then xl (p3 + (1 : Int32)) (fun v16 => f_X10_laySale_25 T n S4 p0 p2 v16) else xc (f_X10_get T S4 p0 (((78 : Int32) + ((9 : Int32) * p3)))) (fun r7 S6 => if r7 ≤ p2 then xc (f_X10_get T S6 p0 (((78 : Int32) + ((9 : Int32) * p3)))) (fun r9 S8 => xl r9 (fun v10 => xcv (f_X10_dealOut T S8 p0 v10) (fun S11 => xl ((0 : Int32)) (fun v12 => f_X10_laySale_97 T (f_X10_laySale_25 T n) xfu S11 p0 p2 p3 v10 v12)))) else xl p2 (fun v13 => xcv (f_X10_dealOut T S6 p0 v13) (fun S14 => xl ((0 : Int32)) (fun v15 => f_X10_laySale_97 T (f_X10_laySale_25 T n) xfu S14 p0 p2 p3 v13 v15)))))))
set_option maxRecDepth 100000 in
set_option maxHeartbeats 4000000 in
theorem w_X10_laySale_25 {p : Program} {l : Launch} {e : Env} {s : State} {m : MethodId} {args : Array Value} {below : List Frame} {meth : Method} {c : Code} {z : Nat} {D : va_G} {dA : Nat → ClassId} {T : xT} (B : xB p s m args meth c cX10_laySale RX10 6 none D dA) {q : xS} : ∀ (n : Nat), ∀ (S : xS) (H : Heap) (locs : List Loc) (ls : Array Slot) (p0 : Nat) (p2 : Int32) (p3 : Int32), xlk T p0 10 = true → f_X10_laySale_25 T n S p0 p2 p3 = some q → xRel z D dA T S H → va_S (xA z) s.heap H locs → xL ls 6 [some (.ref (z + p0)), none, some (.int p2), some (.int p3), none, none] → xGv p l e xr_X10_laySale s m args below meth c z D dA T q H locs 25 ls [] := by
  intro n
  induction n with
  | zero =>
    intro S H locs ls p0 p2 p3 k_p0 hf hR hS hl
    exact absurd hf (by simp [f_X10_laySale_25])
  | succ n ih =>
    intro S H locs ls p0 p2 p3 k_p0 hf hR hS hl
    unfold f_X10_laySale_25 at hf
    refine lv_iload_n B.1.1 B.1.2.1 dX10_laySale_25 rfl (hl.at 3 rfl) ?_
    refine lv_aload_n B.1.1 B.1.2.1 dX10_laySale_26 rfl (hl.at 0 rfl) ?_
    refine lv_bipush (v := 77) B.1.1 B.1.2.1 dX10_laySale_27 (by decide) ?_
    refine y_ci hf (fun q hq => x_runV (ci := 10) (C := RX10) B.1 B.2.2.2 hl hR hS cm_X10_193 ⟨rfl, rfl, Nat.le_of_ble_eq_true rfl, Nat.le_of_ble_eq_true rfl⟩ (by decide) rfl k_p0 (c_X10_get k_p0 hq) rfl rfl (Nat.le_of_ble_eq_true rfl) dX10_laySale_29 ⟨Nat.le_of_ble_eq_true rfl, Nat.le_of_ble_eq_true rfl⟩) hS (fun r2 S1 H locs hf hR hS => ?_)
    refine y_icmp_ge (tgt := 138) B hf dX10_laySale_32 (by decide) (fun hf => ?_) (fun hf => ?_)
    · exact w_X10_laySale_138 B _ _ _ _ _ _ k_p0 hf hR hS (hl.drop [true, false, true, false, false, false] rfl)
    · refine lv_iload_n B.1.1 B.1.2.1 dX10_laySale_35 rfl (hl.at 2 rfl) ?_
      refine y_if_le (tgt := 138) B hf dX10_laySale_36 (by decide) (fun hf => ?_) (fun hf => ?_)
      · exact w_X10_laySale_138 B _ _ _ _ _ _ k_p0 hf hR hS (hl.drop [true, false, true, false, false, false] rfl)
      · refine lv_aload_n B.1.1 B.1.2.1 dX10_laySale_39 rfl (hl.at 0 rfl) ?_
        refine lv_iload_n B.1.1 B.1.2.1 dX10_laySale_40 rfl (hl.at 3 rfl) ?_
        refine y_cv hf (fun q hq => x_runV (ci := 10) (C := RX10) B.1 B.2.2.2 hl hR hS cm_X10_206 ⟨rfl, rfl, Nat.le_of_ble_eq_true rfl, Nat.le_of_ble_eq_true rfl⟩ (by decide) rfl k_p0 (c_X10_weighTier k_p0 hq) rfl rfl (Nat.le_of_ble_eq_true rfl) dX10_laySale_41 ⟨Nat.le_of_ble_eq_true rfl, Nat.le_of_ble_eq_true rfl⟩) hS (fun S3 H locs hf hR hS => ?_)
        refine lv_aload_n B.1.1 B.1.2.1 dX10_laySale_44 rfl (hl.at 0 rfl) ?_
        refine y_cl hf (fun q hq => x_runV (ci := 10) (C := RX10) B.1 B.2.2.2 hl hR hS cm_X10_197 ⟨rfl, rfl, Nat.le_of_ble_eq_true rfl, Nat.le_of_ble_eq_true rfl⟩ (by decide) rfl k_p0 (c_X10_sumWeights k_p0 hq) rfl rfl (Nat.le_of_ble_eq_true rfl) dX10_laySale_45 ⟨Nat.le_of_ble_eq_true rfl, Nat.le_of_ble_eq_true rfl⟩) hS (fun r5 S4 H locs hf hR hS => ?_)
        refine lv_lconst (v := 0) B.1.1 B.1.2.1 dX10_laySale_48 (by decide) ?_
        refine W.lcmp B.1.1 B.1.2.1 dX10_laySale_49 ?_
        refine y_if_ne (tgt := 56) B hf dX10_laySale_50 (by decide) (fun hf => ?_) (fun hf => ?_)
        · refine lv_iload_n B.1.1 B.1.2.1 dX10_laySale_56 rfl (hl.at 2 rfl) ?_
          refine lv_aload_n B.1.1 B.1.2.1 dX10_laySale_57 rfl (hl.at 0 rfl) ?_
          refine lv_bipush (v := 78) B.1.1 B.1.2.1 dX10_laySale_58 (by decide) ?_
          refine lv_bipush (v := 9) B.1.1 B.1.2.1 dX10_laySale_60 (by decide) ?_
          refine lv_iload_n B.1.1 B.1.2.1 dX10_laySale_62 rfl (hl.at 3 rfl) ?_
          refine lv_imul B.1.1 B.1.2.1 dX10_laySale_63 ?_
          refine lv_iadd B.1.1 B.1.2.1 dX10_laySale_64 ?_
          refine y_ci hf (fun q hq => x_runV (ci := 10) (C := RX10) B.1 B.2.2.2 hl hR hS cm_X10_193 ⟨rfl, rfl, Nat.le_of_ble_eq_true rfl, Nat.le_of_ble_eq_true rfl⟩ (by decide) rfl k_p0 (c_X10_get k_p0 hq) rfl rfl (Nat.le_of_ble_eq_true rfl) dX10_laySale_65 ⟨Nat.le_of_ble_eq_true rfl, Nat.le_of_ble_eq_true rfl⟩) hS (fun r7 S6 H locs hf hR hS => ?_)
          refine y_icmp_ge (tgt := 75) B hf dX10_laySale_68 (by decide) (fun hf => ?_) (fun hf => ?_)
          · refine lv_aload_n B.1.1 B.1.2.1 dX10_laySale_75 rfl (hl.at 0 rfl) ?_
            refine lv_bipush (v := 78) B.1.1 B.1.2.1 dX10_laySale_76 (by decide) ?_
            refine lv_bipush (v := 9) B.1.1 B.1.2.1 dX10_laySale_78 (by decide) ?_
            refine lv_iload_n B.1.1 B.1.2.1 dX10_laySale_80 rfl (hl.at 3 rfl) ?_
            refine lv_imul B.1.1 B.1.2.1 dX10_laySale_81 ?_
            refine lv_iadd B.1.1 B.1.2.1 dX10_laySale_82 ?_
            refine y_ci hf (fun q hq => x_runV (ci := 10) (C := RX10) B.1 B.2.2.2 hl hR hS cm_X10_193 ⟨rfl, rfl, Nat.le_of_ble_eq_true rfl, Nat.le_of_ble_eq_true rfl⟩ (by decide) rfl k_p0 (c_X10_get k_p0 hq) rfl rfl (Nat.le_of_ble_eq_true rfl) dX10_laySale_83 ⟨Nat.le_of_ble_eq_true rfl, Nat.le_of_ble_eq_true rfl⟩) hS (fun r9 S8 H locs hf hR hS => ?_)
            refine y_istore B hl hf dX10_laySale_86 (by decide) rfl (fun v10 ls hf hl => ?_)
            have hl : xL ls 6 [_, _, _, _, _, _] := hl
            refine lv_aload_n B.1.1 B.1.2.1 dX10_laySale_88 rfl (hl.at 0 rfl) ?_
            refine lv_iload B.1.1 B.1.2.1 dX10_laySale_89 (hl.at 4 rfl) ?_
            refine y_cv hf (fun q hq => x_runV (ci := 10) (C := RX10) B.1 B.2.2.2 hl hR hS cm_X10_209 ⟨rfl, rfl, Nat.le_of_ble_eq_true rfl, Nat.le_of_ble_eq_true rfl⟩ (by decide) rfl k_p0 (c_X10_dealOut k_p0 hq) rfl rfl (Nat.le_of_ble_eq_true rfl) dX10_laySale_91 ⟨Nat.le_of_ble_eq_true rfl, Nat.le_of_ble_eq_true rfl⟩) hS (fun S11 H locs hf hR hS => ?_)
            refine lv_iconst (v := 0) B.1.1 B.1.2.1 dX10_laySale_94 (by decide) ?_
            refine y_istore B hl hf dX10_laySale_95 (by decide) rfl (fun v12 ls hf hl => ?_)
            have hl : xL ls 6 [_, _, _, _, _, _] := hl
            exact w_X10_laySale_97 B ih xfu _ _ _ _ _ _ _ _ _ k_p0 hf hR hS hl
          · refine lv_iload_n B.1.1 B.1.2.1 dX10_laySale_71 rfl (hl.at 2 rfl) ?_
            refine lv_goto (tgt := 86) B.1.1 B.1.2.1 dX10_laySale_72 (by decide) ?_
            refine y_istore B hl hf dX10_laySale_86 (by decide) rfl (fun v13 ls hf hl => ?_)
            have hl : xL ls 6 [_, _, _, _, _, _] := hl
            refine lv_aload_n B.1.1 B.1.2.1 dX10_laySale_88 rfl (hl.at 0 rfl) ?_
            refine lv_iload B.1.1 B.1.2.1 dX10_laySale_89 (hl.at 4 rfl) ?_
            refine y_cv hf (fun q hq => x_runV (ci := 10) (C := RX10) B.1 B.2.2.2 hl hR hS cm_X10_209 ⟨rfl, rfl, Nat.le_of_ble_eq_true rfl, Nat.le_of_ble_eq_true rfl⟩ (by decide) rfl k_p0 (c_X10_dealOut k_p0 hq) rfl rfl (Nat.le_of_ble_eq_true rfl) dX10_laySale_91 ⟨Nat.le_of_ble_eq_true rfl, Nat.le_of_ble_eq_true rfl⟩) hS (fun S14 H locs hf hR hS => ?_)
            refine lv_iconst (v := 0) B.1.1 B.1.2.1 dX10_laySale_94 (by decide) ?_
            refine y_istore B hl hf dX10_laySale_95 (by decide) rfl (fun v15 ls hf hl => ?_)
            have hl : xL ls 6 [_, _, _, _, _, _] := hl
            exact w_X10_laySale_97 B ih xfu _ _ _ _ _ _ _ _ _ k_p0 hf hR hS hl
        · refine lv_goto (tgt := 132) B.1.1 B.1.2.1 dX10_laySale_53 (by decide) ?_
          refine y_iinc (d := 1) B hl hf dX10_laySale_132 rfl (by decide) (by decide) rfl (fun v16 ls hf hl => ?_)
          have hl : xL ls 6 [_, _, _, _, _, _] := hl
          refine lv_goto (tgt := 25) B.1.1 B.1.2.1 dX10_laySale_135 (by decide) ?_
          exact ih _ _ _ _ _ _ _ k_p0 hf hR hS hl
def f_X10_laySale_2 (T : xT) : Nat → xS → Nat → Int32 → Int32 → Option (xS)
  | 0, _, _, _, _ => none
  | n + 1, S, p0, p1, p2 => if (8 : Int32) ≤ p2 then xl p1 (fun v1 => xl ((0 : Int32)) (fun v2 => f_X10_laySale_25 T xfu S p0 v1 v2)) else xgr T S p0 17 20 (fun a3 => xst T S a3 p2 ((0 : Int32)) (fun S4 => xl (p2 + (1 : Int32)) (fun v5 => f_X10_laySale_2 T n S4 p0 p1 v5)))
set_option maxRecDepth 100000 in
set_option maxHeartbeats 4000000 in
theorem w_X10_laySale_2 {p : Program} {l : Launch} {e : Env} {s : State} {m : MethodId} {args : Array Value} {below : List Frame} {meth : Method} {c : Code} {z : Nat} {D : va_G} {dA : Nat → ClassId} {T : xT} (B : xB p s m args meth c cX10_laySale RX10 6 none D dA) {q : xS} : ∀ (n : Nat), ∀ (S : xS) (H : Heap) (locs : List Loc) (ls : Array Slot) (p0 : Nat) (p1 : Int32) (p2 : Int32), xlk T p0 10 = true → f_X10_laySale_2 T n S p0 p1 p2 = some q → xRel z D dA T S H → va_S (xA z) s.heap H locs → xL ls 6 [some (.ref (z + p0)), some (.int p1), some (.int p2), none, none, none] → xGv p l e xr_X10_laySale s m args below meth c z D dA T q H locs 2 ls [] := by
  intro n
  induction n with
  | zero =>
    intro S H locs ls p0 p1 p2 k_p0 hf hR hS hl
    exact absurd hf (by simp [f_X10_laySale_2])
  | succ n ih =>
    intro S H locs ls p0 p1 p2 k_p0 hf hR hS hl
    unfold f_X10_laySale_2 at hf
    refine lv_iload_n B.1.1 B.1.2.1 dX10_laySale_2 rfl (hl.at 2 rfl) ?_
    refine lv_bipush (v := 8) B.1.1 B.1.2.1 dX10_laySale_3 (by decide) ?_
    refine y_icmp_ge (tgt := 21) B hf dX10_laySale_5 (by decide) (fun hf => ?_) (fun hf => ?_)
    · refine lv_iload_n B.1.1 B.1.2.1 dX10_laySale_21 rfl (hl.at 1 rfl) ?_
      refine y_istore_n B hl hf dX10_laySale_22 rfl (by decide) rfl (fun v1 ls hf hl => ?_)
      have hl : xL ls 6 [_, _, _, _, _, _] := hl
      refine lv_iconst (v := 0) B.1.1 B.1.2.1 dX10_laySale_23 (by decide) ?_
      refine y_istore_n B hl hf dX10_laySale_24 rfl (by decide) rfl (fun v2 ls hf hl => ?_)
      have hl : xL ls 6 [_, _, _, _, _, _] := hl
      exact w_X10_laySale_25 B xfu _ _ _ _ _ _ _ k_p0 hf hR hS (hl.drop [true, false, true, true, false, false] rfl)
    · refine lv_aload_n B.1.1 B.1.2.1 dX10_laySale_8 rfl (hl.at 0 rfl) ?_
      refine y_getR B hR hf k_p0 fl_X10_38 dX10_laySale_9 (fun a3 k_a3 hf => ?_)
      refine lv_iload_n B.1.1 B.1.2.1 dX10_laySale_12 rfl (hl.at 2 rfl) ?_
      refine lv_iconst (v := 0) B.1.1 B.1.2.1 dX10_laySale_13 (by decide) ?_
      refine y_iast B hR hS hf k_a3 dX10_laySale_14 (fun S4 H locs hf hR hS => ?_)
      refine y_iinc (d := 1) B hl hf dX10_laySale_15 rfl (by decide) (by decide) rfl (fun v5 ls hf hl => ?_)
      have hl : xL ls 6 [_, _, _, _, _, _] := hl
      refine lv_goto (tgt := 2) B.1.1 B.1.2.1 dX10_laySale_18 (by decide) ?_
      exact ih _ _ _ _ _ _ _ k_p0 hf hR hS hl
def f_X10_laySale (T : xT) (S : xS) (p0 : Nat) (p1 : Int32) : Option (xS) := xl ((0 : Int32)) (fun v1 => f_X10_laySale_2 T xfu S p0 p1 v1)
set_option maxRecDepth 100000 in
set_option maxHeartbeats 4000000 in
theorem c_X10_laySale {l : Launch} {z : Nat} {D : va_G} {dA : Nat → ClassId} {T : xT} {S : xS} {p0 : Nat} {p1 : Int32} (k_p0 : xlk T p0 10 = true) {q : xS} (hf : f_X10_laySale T S p0 p1 = some q) : Met l yX10_laySale (xws yX10_laySale cX10_laySale 6 none) xr_X10_laySale (xPc z D dA T S [.ref (z + p0), .int p1]) (xQv z D dA T q) 0 0 (xA z) := by
  refine x_met RX10 (by decide) rfl (Nat.le_of_ble_eq_true rfl) ?_
  intro p e s m below meth c ls _ X hr hlk hml _ hR hS hl
  have B : xB p s m _ meth c cX10_laySale RX10 6 none D dA := ⟨X, hr, hlk, hml⟩
  have hl : xL ls 6 [_, _, _, _, _, _] := hl
  unfold f_X10_laySale at hf
  refine lv_iconst (v := 0) B.1.1 B.1.2.1 dX10_laySale_0 (by decide) ?_
  refine y_istore_n B hl hf dX10_laySale_1 rfl (by decide) rfl (fun v1 ls hf hl => ?_)
  have hl : xL ls 6 [_, _, _, _, _, _] := hl
  exact w_X10_laySale_2 B xfu _ _ _ _ _ _ _ k_p0 hf hR hS hl
abbrev xr_X10_sale : Room := { frames := 5, cells := 0, slots := 0, locals := 102 }
def f_X10_sale (T : xT) (S : xS) (p0 : Nat) (p1 : Int32) (p2 : Int32) : Option (Int32 × xS) := xc (f_X10_isIn T S p1 ((-100000000 : Int32)) ((100000000 : Int32))) (fun r2 S1 => if r2 = (0 : Int32) then some ((-1000000000 : Int32), S1) else xc (f_X10_isThere T S1 p0 p2) (fun r4 S3 => if r4 = (0 : Int32) then some ((-1000000000 : Int32), S3) else xcv (f_X10_laySale T S3 p0 p1) (fun S5 => xgr T S5 p0 17 20 (fun a6 => xai T S5 a6 p2 (fun v7 => some (v7, S5))))))
set_option maxRecDepth 100000 in
set_option maxHeartbeats 4000000 in
theorem c_X10_sale {l : Launch} {z : Nat} {D : va_G} {dA : Nat → ClassId} {T : xT} {S : xS} {p0 : Nat} {p1 : Int32} {p2 : Int32} (k_p0 : xlk T p0 10 = true) {q : Int32 × xS} (hf : f_X10_sale T S p0 p1 p2 = some q) : Met l yX10_sale (xws yX10_sale cX10_sale 3 (some .int)) xr_X10_sale (xPc z D dA T S [.ref (z + p0), .int p1, .int p2]) (xQi z D dA T q) 0 0 (xA z) := by
  refine x_met RX10 (by decide) rfl (Nat.le_of_ble_eq_true rfl) ?_
  intro p e s m below meth c ls _ X hr hlk hml _ hR hS hl
  have B : xB p s m _ meth c cX10_sale RX10 3 (some .int) D dA := ⟨X, hr, hlk, hml⟩
  have hl : xL ls 3 [_, _, _] := hl
  unfold f_X10_sale at hf
  refine lv_iload_n B.1.1 B.1.2.1 dX10_sale_0 rfl (hl.at 1 rfl) ?_
  refine lv_ldc (v := -100000000) B.1.1 B.1.2.1 B.1.2.2.1 (B.1.2.2.2.1 _ tw_1295) dX10_sale_1 ?_
  refine lv_ldc (v := 100000000) B.1.1 B.1.2.1 B.1.2.2.1 (B.1.2.2.2.1 _ tw_1296) dX10_sale_3 ?_
  refine y_ci hf (fun q hq => y_runS B.1 B.2.2.2 hl hR hS cm_X10_81 ⟨rfl, rfl, Nat.le_of_ble_eq_true rfl, Nat.le_of_ble_eq_true rfl⟩ (c_X10_isIn hq) rfl rfl (Nat.le_of_ble_eq_true rfl) dX10_sale_5 ⟨Nat.le_of_ble_eq_true rfl, Nat.le_of_ble_eq_true rfl⟩) hS (fun r2 S1 H locs hf hR hS => ?_)
  refine y_if_eq (tgt := 19) B hf dX10_sale_8 (by decide) (fun hf => ?_) (fun hf => ?_)
  · refine lv_ldc (v := -1000000000) B.1.1 B.1.2.1 B.1.2.2.1 (B.1.2.2.2.1 _ tw_1301) dX10_sale_19 ?_
    exact y_iret B hR hS hf dX10_sale_21
  · refine lv_aload_n B.1.1 B.1.2.1 dX10_sale_11 rfl (hl.at 0 rfl) ?_
    refine lv_iload_n B.1.1 B.1.2.1 dX10_sale_12 rfl (hl.at 2 rfl) ?_
    refine y_ci hf (fun q hq => x_runV (ci := 10) (C := RX10) B.1 B.2.2.2 hl hR hS cm_X10_203 ⟨rfl, rfl, Nat.le_of_ble_eq_true rfl, Nat.le_of_ble_eq_true rfl⟩ (by decide) rfl k_p0 (c_X10_isThere k_p0 hq) rfl rfl (Nat.le_of_ble_eq_true rfl) dX10_sale_13 ⟨Nat.le_of_ble_eq_true rfl, Nat.le_of_ble_eq_true rfl⟩) hS (fun r4 S3 H locs hf hR hS => ?_)
    refine y_if_ne (tgt := 22) B hf dX10_sale_16 (by decide) (fun hf => ?_) (fun hf => ?_)
    · refine lv_aload_n B.1.1 B.1.2.1 dX10_sale_22 rfl (hl.at 0 rfl) ?_
      refine lv_iload_n B.1.1 B.1.2.1 dX10_sale_23 rfl (hl.at 1 rfl) ?_
      refine y_cv hf (fun q hq => x_runV (ci := 10) (C := RX10) B.1 B.2.2.2 hl hR hS cm_X10_215 ⟨rfl, rfl, Nat.le_of_ble_eq_true rfl, Nat.le_of_ble_eq_true rfl⟩ (by decide) rfl k_p0 (c_X10_laySale k_p0 hq) rfl rfl (Nat.le_of_ble_eq_true rfl) dX10_sale_24 ⟨Nat.le_of_ble_eq_true rfl, Nat.le_of_ble_eq_true rfl⟩) hS (fun S5 H locs hf hR hS => ?_)
      refine lv_aload_n B.1.1 B.1.2.1 dX10_sale_27 rfl (hl.at 0 rfl) ?_
      refine y_getR B hR hf k_p0 fl_X10_38 dX10_sale_28 (fun a6 k_a6 hf => ?_)
      refine lv_iload_n B.1.1 B.1.2.1 dX10_sale_31 rfl (hl.at 2 rfl) ?_
      refine y_iald B hR hf k_a6 dX10_sale_32 (fun v7 hf => ?_)
      exact y_iret B hR hS hf dX10_sale_33
    · refine lv_ldc (v := -1000000000) B.1.1 B.1.2.1 B.1.2.2.1 (B.1.2.2.2.1 _ tw_1301) dX10_sale_19 ?_
      exact y_iret B hR hS hf dX10_sale_21
