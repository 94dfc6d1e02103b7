abbrev xr_X1_changeDebt : Room := { frames := 1, cells := 0, slots := 0, locals := 12 }
def f_X1_changeDebt (T : xT) (S : xS) (p0 : Nat) (p1 : Int32) (p2 : Int32) : Option (Int32 × xS) := xgr T S p0 13 20 (fun a1 => xai T S a1 p1 (fun v2 => xst T S a1 p1 ((v2 + p2)) (fun S3 => xpi S3 p0 2 (((S3.1 p0 2) + p2)) (fun S4 => xgr T S4 p0 13 20 (fun a5 => xai T S4 a5 p1 (fun v6 => some (v6, S4)))))))
set_option maxRecDepth 100000 in
set_option maxHeartbeats 4000000 in
theorem c_X1_changeDebt {l : Launch} {z : Nat} {D : va_G} {dA : Nat → ClassId} {T : xT} {S : xS} {p0 : Nat} {p1 : Int32} {p2 : Int32} (k_p0 : xlk T p0 1 = true) {q : Int32 × xS} (hf : f_X1_changeDebt T S p0 p1 p2 = some q) : Met l yX1_changeDebt (xws yX1_changeDebt cX1_changeDebt 3 (some .int)) xr_X1_changeDebt (xPc z D dA T S [.ref (z + p0), .int p1, .int p2]) (xQi z D dA T q) 0 0 (xA z) := by
  refine x_met RX1 (by decide) rfl (Nat.le_of_ble_eq_true rfl) ?_
  intro p e s m below meth c ls _ X hr hlk hml _ hR hS hl
  have B : xB p s m _ meth c cX1_changeDebt RX1 3 (some .int) D dA := ⟨X, hr, hlk, hml⟩
  have hl : xL ls 3 [_, _, _] := hl
  unfold f_X1_changeDebt at hf
  refine lv_aload_n B.1.1 B.1.2.1 dX1_changeDebt_0 rfl (hl.at 0 rfl) ?_
  refine y_getR B hR hf k_p0 fl_X1_33 dX1_changeDebt_1 (fun a1 k_a1 hf => ?_)
  refine lv_iload_n B.1.1 B.1.2.1 dX1_changeDebt_4 rfl (hl.at 1 rfl) ?_
  refine lv_dup2_11 B.1.1 B.1.2.1 dX1_changeDebt_5 rfl rfl ?_
  refine y_iald B hR hf k_a1 dX1_changeDebt_6 (fun v2 hf => ?_)
  refine lv_iload_n B.1.1 B.1.2.1 dX1_changeDebt_7 rfl (hl.at 2 rfl) ?_
  refine lv_iadd B.1.1 B.1.2.1 dX1_changeDebt_8 ?_
  refine y_iast B hR hS hf k_a1 dX1_changeDebt_9 (fun S3 H locs hf hR hS => ?_)
  refine lv_aload_n B.1.1 B.1.2.1 dX1_changeDebt_10 rfl (hl.at 0 rfl) ?_
  refine lv_dup B.1.1 B.1.2.1 dX1_changeDebt_11 rfl ?_
  refine y_getI B hR k_p0 fl_X1_43 dX1_changeDebt_12 ?_
  refine lv_iload_n B.1.1 B.1.2.1 dX1_changeDebt_15 rfl (hl.at 2 rfl) ?_
  refine lv_iadd B.1.1 B.1.2.1 dX1_changeDebt_16 ?_
  refine y_putI B hR hS hf k_p0 fp_X1_43 dX1_changeDebt_17 (fun S4 H locs hf hR hS => ?_)
  refine lv_aload_n B.1.1 B.1.2.1 dX1_changeDebt_20 rfl (hl.at 0 rfl) ?_
  refine y_getR B hR hf k_p0 fl_X1_33 dX1_changeDebt_21 (fun a5 k_a5 hf => ?_)
  refine lv_iload_n B.1.1 B.1.2.1 dX1_changeDebt_24 rfl (hl.at 1 rfl) ?_
  refine y_iald B hR hf k_a5 dX1_changeDebt_25 (fun v6 hf => ?_)
  exact y_iret B hR hS hf dX1_changeDebt_26
abbrev xr_X1_earnMore : Room := { frames := 1, cells := 0, slots := 0, locals := 12 }
def f_X1_earnMore (T : xT) (S : xS) (p0 : Nat) (p1 : Int32) : Option (Int32 × xS) := xpi S p0 3 (((S.1 p0 3) + p1)) (fun S1 => xpi S1 p0 2 (((S1.1 p0 2) + p1)) (fun S2 => some ((S2.1 p0 3), S2)))
set_option maxRecDepth 100000 in
set_option maxHeartbeats 4000000 in
theorem c_X1_earnMore {l : Launch} {z : Nat} {D : va_G} {dA : Nat → ClassId} {T : xT} {S : xS} {p0 : Nat} {p1 : Int32} (k_p0 : xlk T p0 1 = true) {q : Int32 × xS} (hf : f_X1_earnMore T S p0 p1 = some q) : Met l yX1_earnMore (xws yX1_earnMore cX1_earnMore 2 (some .int)) xr_X1_earnMore (xPc z D dA T S [.ref (z + p0), .int p1]) (xQi z D dA T q) 0 0 (xA z) := by
  refine x_met RX1 (by decide) rfl (Nat.le_of_ble_eq_true rfl) ?_
  intro p e s m below meth c ls _ X hr hlk hml _ hR hS hl
  have B : xB p s m _ meth c cX1_earnMore RX1 2 (some .int) D dA := ⟨X, hr, hlk, hml⟩
  have hl : xL ls 2 [_, _] := hl
  unfold f_X1_earnMore at hf
  refine lv_aload_n B.1.1 B.1.2.1 dX1_earnMore_0 rfl (hl.at 0 rfl) ?_
  refine lv_dup B.1.1 B.1.2.1 dX1_earnMore_1 rfl ?_
  refine y_getI B hR k_p0 fl_X1_46 dX1_earnMore_2 ?_
  refine lv_iload_n B.1.1 B.1.2.1 dX1_earnMore_5 rfl (hl.at 1 rfl) ?_
  refine lv_iadd B.1.1 B.1.2.1 dX1_earnMore_6 ?_
  refine y_putI B hR hS hf k_p0 fp_X1_46 dX1_earnMore_7 (fun S1 H locs hf hR hS => ?_)
  refine lv_aload_n B.1.1 B.1.2.1 dX1_earnMore_10 rfl (hl.at 0 rfl) ?_
  refine lv_dup B.1.1 B.1.2.1 dX1_earnMore_11 rfl ?_
  refine y_getI B hR k_p0 fl_X1_43 dX1_earnMore_12 ?_
  refine lv_iload_n B.1.1 B.1.2.1 dX1_earnMore_15 rfl (hl.at 1 rfl) ?_
  refine lv_iadd B.1.1 B.1.2.1 dX1_earnMore_16 ?_
  refine y_putI B hR hS hf k_p0 fp_X1_43 dX1_earnMore_17 (fun S2 H locs hf hR hS => ?_)
  refine lv_aload_n B.1.1 B.1.2.1 dX1_earnMore_20 rfl (hl.at 0 rfl) ?_
  refine y_getI B hR k_p0 fl_X1_46 dX1_earnMore_21 ?_
  exact y_iret B hR hS hf dX1_earnMore_24
abbrev xr_X2_deal : Room := { frames := 2, cells := 0, slots := 0, locals := 37 }
def f_X2_deal_105 (T : xT) : Nat → xS → Nat → Nat → Int32 → Int32 → Option (xS)
  | 0, _, _, _, _, _ => none
  | n + 1, S, p0, p2, p5, p6 => if (8 : Int32) ≤ p6 then some S else if p5 ≤ (0 : Int32) then some S else xai T S p2 p6 (fun v1 => if v1 ≤ (0 : Int32) then xl (p6 + (1 : Int32)) (fun v2 => f_X2_deal_105 T n S p0 p2 p5 v2) else xgr T S p0 5 20 (fun a3 => xai T S a3 p6 (fun v4 => xst T S a3 p6 ((v4 + (1 : Int32))) (fun S5 => xl (p5 + (-1 : Int32)) (fun v6 => xl (p6 + (1 : Int32)) (fun v7 => f_X2_deal_105 T n S5 p0 p2 v6 v7))))))
set_option maxRecDepth 100000 in
set_option maxHeartbeats 4000000 in
theorem w_X2_deal_105 {p : Program} {l : Launch} {e : Env} {s : State} {m : MethodId} {args : Array Value} {below : List Frame} {meth : Method} {c : Code} {z : Nat} {D : va_G} {dA : Nat → ClassId} {T : xT} (B : xB p s m args meth c cX2_deal RX2 7 none D dA) {q : xS} : ∀ (n : Nat), ∀ (S : xS) (H : Heap) (locs : List Loc) (ls : Array Slot) (p0 : Nat) (p2 : Nat) (p5 : Int32) (p6 : Int32), xlk T p0 2 = true → xlk T p2 20 = true → f_X2_deal_105 T n S p0 p2 p5 p6 = some q → xRel z D dA T S H → va_S (xA z) s.heap H locs → xL ls 7 [some (.ref (z + p0)), none, some (.ref (z + p2)), none, none, some (.int p5), some (.int p6)] → xGv p l e xr_X2_deal s m args below meth c z D dA T q H locs 105 ls [] := by
  intro n
  induction n with
  | zero =>
    intro S H locs ls p0 p2 p5 p6 k_p0 k_p2 hf hR hS hl
    exact absurd hf (by simp [f_X2_deal_105])
  | succ n ih =>
    intro S H locs ls p0 p2 p5 p6 k_p0 k_p2 hf hR hS hl
    unfold f_X2_deal_105 at hf
    refine lv_iload B.1.1 B.1.2.1 dX2_deal_105 (hl.at 6 rfl) ?_
    refine lv_bipush (v := 8) B.1.1 B.1.2.1 dX2_deal_107 (by decide) ?_
    refine y_icmp_ge (tgt := 144) B hf dX2_deal_109 (by decide) (fun hf => ?_) (fun hf => ?_)
    · exact y_vret B hR hS hf dX2_deal_144
    · refine lv_iload B.1.1 B.1.2.1 dX2_deal_112 (hl.at 5 rfl) ?_
      refine y_if_le (tgt := 144) B hf dX2_deal_114 (by decide) (fun hf => ?_) (fun hf => ?_)
      · exact y_vret B hR hS hf dX2_deal_144
      · refine lv_aload_n B.1.1 B.1.2.1 dX2_deal_117 rfl (hl.at 2 rfl) ?_
        refine lv_iload B.1.1 B.1.2.1 dX2_deal_118 (hl.at 6 rfl) ?_
        refine y_iald B hR hf k_p2 dX2_deal_120 (fun v1 hf => ?_)
        refine y_if_le (tgt := 138) B hf dX2_deal_121 (by decide) (fun hf => ?_) (fun hf => ?_)
        · refine y_iinc (d := 1) B hl hf dX2_deal_138 rfl (by decide) (by decide) rfl (fun v2 ls hf hl => ?_)
          have hl : xL ls 7 [_, _, _, _, _, _, _] := hl
          refine lv_goto (tgt := 105) B.1.1 B.1.2.1 dX2_deal_141 (by decide) ?_
          exact ih _ _ _ _ _ _ _ _ k_p0 k_p2 hf hR hS hl
        · refine lv_aload_n B.1.1 B.1.2.1 dX2_deal_124 rfl (hl.at 0 rfl) ?_
          refine y_getR B hR hf k_p0 fl_X2_21 dX2_deal_125 (fun a3 k_a3 hf => ?_)
          refine lv_iload B.1.1 B.1.2.1 dX2_deal_128 (hl.at 6 rfl) ?_
          refine lv_dup2_11 B.1.1 B.1.2.1 dX2_deal_130 rfl rfl ?_
          refine y_iald B hR hf k_a3 dX2_deal_131 (fun v4 hf => ?_)
          refine lv_iconst (v := 1) B.1.1 B.1.2.1 dX2_deal_132 (by decide) ?_
          refine lv_iadd B.1.1 B.1.2.1 dX2_deal_133 ?_
          refine y_iast B hR hS hf k_a3 dX2_deal_134 (fun S5 H locs hf hR hS => ?_)
          refine y_iinc (d := -1) B hl hf dX2_deal_135 rfl (by decide) (by decide) rfl (fun v6 ls hf hl => ?_)
          have hl : xL ls 7 [_, _, _, _, _, _, _] := hl
          refine y_iinc (d := 1) B hl hf dX2_deal_138 rfl (by decide) (by decide) rfl (fun v7 ls hf hl => ?_)
          have hl : xL ls 7 [_, _, _, _, _, _, _] := hl
          refine lv_goto (tgt := 105) B.1.1 B.1.2.1 dX2_deal_141 (by decide) ?_
          exact ih _ _ _ _ _ _ _ _ k_p0 k_p2 hf hR hS hl
def f_X2_deal_55 (T : xT) : Nat → xS → Nat → Int32 → Nat → Int64 → Int32 → Int32 → Option (xS)
  | 0, _, _, _, _, _, _, _ => none
  | n + 1, S, p0, p1, p2, p3, p5, p6 => if (8 : Int32) ≤ p6 then xl ((0 : Int32)) (fun v1 => f_X2_deal_105 T xfu S p0 p2 p5 v1) else xgr T S p0 5 20 (fun a2 => xai T S p2 p6 (fun v3 => xgd (xm0 p3) (xst T S a2 p6 (((((p1).toInt64 * ((xmax ((0 : Int32)) v3)).toInt64) / p3)).toInt32) (fun S4 => xgr T S4 p0 5 20 (fun a5 => xai T S4 a5 p6 (fun v6 => xl ((p5 - v6)) (fun v7 => xl (p6 + (1 : Int32)) (fun v8 => f_X2_deal_55 T n S4 p0 p1 p2 p3 v7 v8))))))))
set_option maxRecDepth 100000 in
set_option maxHeartbeats 4000000 in
theorem w_X2_deal_55 {p : Program} {l : Launch} {e : Env} {s : State} {m : MethodId} {args : Array Value} {below : List Frame} {meth : Method} {c : Code} {z : Nat} {D : va_G} {dA : Nat → ClassId} {T : xT} (B : xB p s m args meth c cX2_deal RX2 7 none D dA) {q : xS} : ∀ (n : Nat), ∀ (S : xS) (H : Heap) (locs : List Loc) (ls : Array Slot) (p0 : Nat) (p1 : Int32) (p2 : Nat) (p3 : Int64) (p5 : Int32) (p6 : Int32), xlk T p0 2 = true → xlk T p2 20 = true → f_X2_deal_55 T n S p0 p1 p2 p3 p5 p6 = some q → xRel z D dA T S H → va_S (xA z) s.heap H locs → xL ls 7 [some (.ref (z + p0)), some (.int p1), some (.ref (z + p2)), some (.long p3), none, some (.int p5), some (.int p6)] → xGv p l e xr_X2_deal s m args below meth c z D dA T q H locs 55 ls [] := by
  intro n
  induction n with
  | zero =>
    intro S H locs ls p0 p1 p2 p3 p5 p6 k_p0 k_p2 hf hR hS hl
    exact absurd hf (by simp [f_X2_deal_55])
  | succ n ih =>
    intro S H locs ls p0 p1 p2 p3 p5 p6 k_p0 k_p2 hf hR hS hl
    unfold f_X2_deal_55 at hf
    refine lv_iload B.1.1 B.1.2.1 dX2_deal_55 (hl.at 6 rfl) ?_
    refine lv_bipush (v := 8) B.1.1 B.1.2.1 dX2_deal_57 (by decide) ?_
    refine y_icmp_ge (tgt := 102) B hf dX2_deal_59 (by decide) (fun hf => ?_) (fun hf => ?_)
    · refine lv_iconst (v := 0) B.1.1 B.1.2.1 dX2_deal_102 (by decide) ?_
      refine y_istore B hl hf dX2_deal_103 (by decide) rfl (fun v1 ls hf hl => ?_)
      have hl : xL ls 7 [_, _, _, _, _, _, _] := hl
      exact w_X2_deal_105 B xfu _ _ _ _ _ _ _ _ k_p0 k_p2 hf hR hS (hl.drop [true, false, true, false, false, true, true] rfl)
    · refine lv_aload_n B.1.1 B.1.2.1 dX2_deal_62 rfl (hl.at 0 rfl) ?_
      refine y_getR B hR hf k_p0 fl_X2_21 dX2_deal_63 (fun a2 k_a2 hf => ?_)
      refine lv_iload B.1.1 B.1.2.1 dX2_deal_66 (hl.at 6 rfl) ?_
      refine lv_iload_n B.1.1 B.1.2.1 dX2_deal_68 rfl (hl.at 1 rfl) ?_
      refine lv_i2l B.1.1 B.1.2.1 dX2_deal_69 rfl ?_
      refine lv_iconst (v := 0) B.1.1 B.1.2.1 dX2_deal_70 (by decide) ?_
      refine lv_aload_n B.1.1 B.1.2.1 dX2_deal_71 rfl (hl.at 2 rfl) ?_
      refine lv_iload B.1.1 B.1.2.1 dX2_deal_72 (hl.at 6 rfl) ?_
      refine y_iald B hR hf k_p2 dX2_deal_74 (fun v3 hf => ?_)
      refine y_mmax B hl ma_X2_36 ⟨Nat.le_of_ble_eq_true rfl, Nat.le_of_ble_eq_true rfl⟩ ⟨Nat.le_of_ble_eq_true rfl, Nat.le_of_ble_eq_true rfl⟩ dX2_deal_75 ?_
      refine lv_i2l B.1.1 B.1.2.1 dX2_deal_78 rfl ?_
      refine lv_lmul B.1.1 B.1.2.1 dX2_deal_79 ?_
      refine lv_lload_n B.1.1 B.1.2.1 dX2_deal_80 rfl (hl.at 3 rfl) ?_
      refine y_ldiv B hf dX2_deal_81 (fun hf => ?_)
      refine lv_l2i B.1.1 B.1.2.1 dX2_deal_82 rfl ?_
      refine y_iast B hR hS hf k_a2 dX2_deal_83 (fun S4 H locs hf hR hS => ?_)
      refine lv_iload B.1.1 B.1.2.1 dX2_deal_84 (hl.at 5 rfl) ?_
      refine lv_aload_n B.1.1 B.1.2.1 dX2_deal_86 rfl (hl.at 0 rfl) ?_
      refine y_getR B hR hf k_p0 fl_X2_21 dX2_deal_87 (fun a5 k_a5 hf => ?_)
      refine lv_iload B.1.1 B.1.2.1 dX2_deal_90 (hl.at 6 rfl) ?_
      refine y_iald B hR hf k_a5 dX2_deal_92 (fun v6 hf => ?_)
      refine lv_isub B.1.1 B.1.2.1 dX2_deal_93 ?_
      refine y_istore B hl hf dX2_deal_94 (by decide) rfl (fun v7 ls hf hl => ?_)
      have hl : xL ls 7 [_, _, _, _, _, _, _] := hl
      refine y_iinc (d := 1) B hl hf dX2_deal_96 rfl (by decide) (by decide) rfl (fun v8 ls hf hl => ?_)
      have hl : xL ls 7 [_, _, _, _, _, _, _] := hl
      refine lv_goto (tgt := 55) B.1.1 B.1.2.1 dX2_deal_99 (by decide) ?_
      exact ih _ _ _ _ _ _ _ _ _ _ k_p0 k_p2 hf hR hS hl
def f_X2_deal_13 (T : xT) : Nat → xS → Nat → Int32 → Nat → Int64 → Int32 → Option (xS)
  | 0, _, _, _, _, _, _ => none
  | n + 1, S, p0, p1, p2, p3, p5 => if (8 : Int32) ≤ p5 then if (0 : Int32) < (lg_cmp p3 ((0 : Int64))) then xl p1 (fun v1 => xl ((0 : Int32)) (fun v2 => f_X2_deal_55 T xfu S p0 p1 p2 p3 v1 v2)) else some S else if p1 ≤ (0 : Int32) then if (0 : Int32) < (lg_cmp p3 ((0 : Int64))) then xl p1 (fun v3 => xl ((0 : Int32)) (fun v4 => f_X2_deal_55 T xfu S p0 p1 p2 p3 v3 v4)) else some S else xai T S p2 p5 (fun v5 => xl ((p3 + ((xmax ((0 : Int32)) v5)).toInt64)) (fun v6 => xl (p5 + (1 : Int32)) (fun v7 => f_X2_deal_13 T n S p0 p1 p2 v6 v7)))
set_option maxRecDepth 100000 in
set_option maxHeartbeats 4000000 in
theorem w_X2_deal_13 {p : Program} {l : Launch} {e : Env} {s : State} {m : MethodId} {args : Array Value} {below : List Frame} {meth : Method} {c : Code} {z : Nat} {D : va_G} {dA : Nat → ClassId} {T : xT} (B : xB p s m args meth c cX2_deal RX2 7 none D dA) {q : xS} : ∀ (n : Nat), ∀ (S : xS) (H : Heap) (locs : List Loc) (ls : Array Slot) (p0 : Nat) (p1 : Int32) (p2 : Nat) (p3 : Int64) (p5 : Int32), xlk T p0 2 = true → xlk T p2 20 = true → f_X2_deal_13 T n S p0 p1 p2 p3 p5 = some q → xRel z D dA T S H → va_S (xA z) s.heap H locs → xL ls 7 [some (.ref (z + p0)), some (.int p1), some (.ref (z + p2)), some (.long p3), none, some (.int p5), none] → xGv p l e xr_X2_deal s m args below meth c z D dA T q H locs 13 ls [] := by
  intro n
  induction n with
  | zero =>
    intro S H locs ls p0 p1 p2 p3 p5 k_p0 k_p2 hf hR hS hl
    exact absurd hf (by simp [f_X2_deal_13])
  | succ n ih =>
    intro S H locs ls p0 p1 p2 p3 p5 k_p0 k_p2 hf hR hS hl
    unfold f_X2_deal_13 at hf
    refine lv_iload B.1.1 B.1.2.1 dX2_deal_13 (hl.at 5 rfl) ?_
    refine lv_bipush (v := 8) B.1.1 B.1.2.1 dX2_deal_15 (by decide) ?_
    refine y_icmp_ge (tgt := 42) B hf dX2_deal_17 (by decide) (fun hf => ?_) (fun hf => ?_)
    · refine lv_lload_n B.1.1 B.1.2.1 dX2_deal_42 rfl (hl.at 3 rfl) ?_
      refine lv_lconst (v := 0) B.1.1 B.1.2.1 dX2_deal_43 (by decide) ?_
      refine W.lcmp B.1.1 B.1.2.1 dX2_deal_44 ?_
      refine y_if_gt (tgt := 49) B hf dX2_deal_45 (by decide) (fun hf => ?_) (fun hf => ?_)
      · refine lv_iload_n B.1.1 B.1.2.1 dX2_deal_49 rfl (hl.at 1 rfl) ?_
        refine y_istore B hl hf dX2_deal_50 (by decide) rfl (fun v1 ls hf hl => ?_)
        have hl : xL ls 7 [_, _, _, _, _, _, _] := hl
        refine lv_iconst (v := 0) B.1.1 B.1.2.1 dX2_deal_52 (by decide) ?_
        refine y_istore B hl hf dX2_deal_53 (by decide) rfl (fun v2 ls hf hl => ?_)
        have hl : xL ls 7 [_, _, _, _, _, _, _] := hl
        exact w_X2_deal_55 B xfu _ _ _ _ _ _ _ _ _ _ k_p0 k_p2 hf hR hS hl
      · exact y_vret B hR hS hf dX2_deal_48
    · refine lv_iload_n B.1.1 B.1.2.1 dX2_deal_20 rfl (hl.at 1 rfl) ?_
      refine y_if_le (tgt := 42) B hf dX2_deal_21 (by decide) (fun hf => ?_) (fun hf => ?_)
      · refine lv_lload_n B.1.1 B.1.2.1 dX2_deal_42 rfl (hl.at 3 rfl) ?_
        refine lv_lconst (v := 0) B.1.1 B.1.2.1 dX2_deal_43 (by decide) ?_
        refine W.lcmp B.1.1 B.1.2.1 dX2_deal_44 ?_
        refine y_if_gt (tgt := 49) B hf dX2_deal_45 (by decide) (fun hf => ?_) (fun hf => ?_)
        · refine lv_iload_n B.1.1 B.1.2.1 dX2_deal_49 rfl (hl.at 1 rfl) ?_
          refine y_istore B hl hf dX2_deal_50 (by decide) rfl (fun v3 ls hf hl => ?_)
          have hl : xL ls 7 [_, _, _, _, _, _, _] := hl
          refine lv_iconst (v := 0) B.1.1 B.1.2.1 dX2_deal_52 (by decide) ?_
          refine y_istore B hl hf dX2_deal_53 (by decide) rfl (fun v4 ls hf hl => ?_)
          have hl : xL ls 7 [_, _, _, _, _, _, _] := hl
          exact w_X2_deal_55 B xfu _ _ _ _ _ _ _ _ _ _ k_p0 k_p2 hf hR hS hl
        · exact y_vret B hR hS hf dX2_deal_48
      · refine lv_lload_n B.1.1 B.1.2.1 dX2_deal_24 rfl (hl.at 3 rfl) ?_
        refine lv_iconst (v := 0) B.1.1 B.1.2.1 dX2_deal_25 (by decide) ?_
        refine lv_aload_n B.1.1 B.1.2.1 dX2_deal_26 rfl (hl.at 2 rfl) ?_
        refine lv_iload B.1.1 B.1.2.1 dX2_deal_27 (hl.at 5 rfl) ?_
        refine y_iald B hR hf k_p2 dX2_deal_29 (fun v5 hf => ?_)
        refine y_mmax B hl ma_X2_36 ⟨Nat.le_of_ble_eq_true rfl, Nat.le_of_ble_eq_true rfl⟩ ⟨Nat.le_of_ble_eq_true rfl, Nat.le_of_ble_eq_true rfl⟩ dX2_deal_30 ?_
        refine lv_i2l B.1.1 B.1.2.1 dX2_deal_33 rfl ?_
        refine lv_ladd B.1.1 B.1.2.1 dX2_deal_34 ?_
        refine y_lstore_n B hl hf dX2_deal_35 rfl (by decide) rfl (fun v6 ls hf hl => ?_)
        have hl : xL ls 7 [_, _, _, _, _, _, _] := hl
        refine y_iinc (d := 1) B hl hf dX2_deal_36 rfl (by decide) (by decide) rfl (fun v7 ls hf hl => ?_)
        have hl : xL ls 7 [_, _, _, _, _, _, _] := hl
        refine lv_goto (tgt := 13) B.1.1 B.1.2.1 dX2_deal_39 (by decide) ?_
        exact ih _ _ _ _ _ _ _ _ _ k_p0 k_p2 hf hR hS hl
def f_X2_deal (T : xT) (S : xS) (p0 : Nat) (p1 : Int32) (p2 : Nat) : Option (xS) := xgr T S p0 5 20 (fun a1 => xcv (f_J7_fill_53178 T S a1 ((0 : Int32))) (fun S2 => xl ((0 : Int64)) (fun v3 => xl ((0 : Int32)) (fun v4 => f_X2_deal_13 T xfu S2 p0 p1 p2 v3 v4))))
set_option maxRecDepth 100000 in
set_option maxHeartbeats 4000000 in
theorem c_X2_deal {l : Launch} {z : Nat} {D : va_G} {dA : Nat → ClassId} {T : xT} {S : xS} {p0 : Nat} {p1 : Int32} {p2 : Nat} (k_p0 : xlk T p0 2 = true) (k_p2 : xlk T p2 20 = true) {q : xS} (hf : f_X2_deal T S p0 p1 p2 = some q) : Met l yX2_deal (xws yX2_deal cX2_deal 7 none) xr_X2_deal (xPc z D dA T S [.ref (z + p0), .int p1, .ref (z + p2)]) (xQv z D dA T q) 0 0 (xA z) := by
  refine x_met RX2 (by decide) rfl (Nat.le_of_ble_eq_true rfl) ?_
  intro p e s m below meth c ls _ X hr hlk hml _ hR hS hl
  have B : xB p s m _ meth c cX2_deal RX2 7 none D dA := ⟨X, hr, hlk, hml⟩
  have hl : xL ls 7 [_, _, _, _, _, _, _] := hl
  unfold f_X2_deal at hf
  refine lv_aload_n B.1.1 B.1.2.1 dX2_deal_0 rfl (hl.at 0 rfl) ?_
  refine y_getR B hR hf k_p0 fl_X2_21 dX2_deal_1 (fun a1 k_a1 hf => ?_)
  refine lv_iconst (v := 0) B.1.1 B.1.2.1 dX2_deal_4 (by decide) ?_
  refine y_cv hf (fun q hq => y_runS B.1 B.2.2.2 hl hR hS cm_X2_30 ⟨rfl, rfl, Nat.le_of_ble_eq_true rfl, Nat.le_of_ble_eq_true rfl⟩ (c_J7_fill_53178 k_a1 hq) rfl rfl (Nat.le_of_ble_eq_true rfl) dX2_deal_5 ⟨Nat.le_of_ble_eq_true rfl, Nat.le_of_ble_eq_true rfl⟩) hS (fun S2 H locs hf hR hS => ?_)
  refine lv_lconst (v := 0) B.1.1 B.1.2.1 dX2_deal_8 (by decide) ?_
  refine y_lstore_n B hl hf dX2_deal_9 rfl (by decide) rfl (fun v3 ls hf hl => ?_)
  have hl : xL ls 7 [_, _, _, _, _, _, _] := hl
  refine lv_iconst (v := 0) B.1.1 B.1.2.1 dX2_deal_10 (by decide) ?_
  refine y_istore B hl hf dX2_deal_11 (by decide) rfl (fun v4 ls hf hl => ?_)
  have hl : xL ls 7 [_, _, _, _, _, _, _] := hl
  exact w_X2_deal_13 B xfu _ _ _ _ _ _ _ _ _ k_p0 k_p2 hf hR hS hl
abbrev xr_X2_weighEvenly : Room := { frames := 1, cells := 0, slots := 0, locals := 12 }
def f_X2_weighEvenly_2 (T : xT) : Nat → xS → Nat → Int32 → Int32 → Option (xS)
  | 0, _, _, _, _ => none
  | n + 1, S, p0, p1, p2 => if (8 : Int32) ≤ p2 then some S else xgr T S p0 4 20 (fun a1 => xst T S a1 p2 (((p1 >>> (p2 &&& 31)) &&& (1 : Int32))) (fun S2 => xl (p2 + (1 : Int32)) (fun v3 => f_X2_weighEvenly_2 T n S2 p0 p1 v3)))
set_option maxRecDepth 100000 in
set_option maxHeartbeats 4000000 in
theorem w_X2_weighEvenly_2 {p : Program} {l : Launch} {e : Env} {s : State} {m : MethodId} {args : Array Value} {below : List Frame} {meth : Method} {c : Code} {z : Nat} {D : va_G} {dA : Nat → ClassId} {T : xT} (B : xB p s m args meth c cX2_weighEvenly RX2 3 none D dA) {q : xS} : ∀ (n : Nat), ∀ (S : xS) (H : Heap) (locs : List Loc) (ls : Array Slot) (p0 : Nat) (p1 : Int32) (p2 : Int32), xlk T p0 2 = true → f_X2_weighEvenly_2 T n S p0 p1 p2 = some q → xRel z D dA T S H → va_S (xA z) s.heap H locs → xL ls 3 [some (.ref (z + p0)), some (.int p1), some (.int p2)] → xGv p l e xr_X2_weighEvenly s m args below meth c z D dA T q H locs 2 ls [] := by
  intro n
  induction n with
  | zero =>
    intro S H locs ls p0 p1 p2 k_p0 hf hR hS hl
    exact absurd hf (by simp [f_X2_weighEvenly_2])
  | succ n ih =>
    intro S H locs ls p0 p1 p2 k_p0 hf hR hS hl
    unfold f_X2_weighEvenly_2 at hf
    refine lv_iload_n B.1.1 B.1.2.1 dX2_weighEvenly_2 rfl (hl.at 2 rfl) ?_
    refine lv_bipush (v := 8) B.1.1 B.1.2.1 dX2_weighEvenly_3 (by decide) ?_
    refine y_icmp_ge (tgt := 25) B hf dX2_weighEvenly_5 (by decide) (fun hf => ?_) (fun hf => ?_)
    · exact y_vret B hR hS hf dX2_weighEvenly_25
    · refine lv_aload_n B.1.1 B.1.2.1 dX2_weighEvenly_8 rfl (hl.at 0 rfl) ?_
      refine y_getR B hR hf k_p0 fl_X2_18 dX2_weighEvenly_9 (fun a1 k_a1 hf => ?_)
      refine lv_iload_n B.1.1 B.1.2.1 dX2_weighEvenly_12 rfl (hl.at 2 rfl) ?_
      refine lv_iload_n B.1.1 B.1.2.1 dX2_weighEvenly_13 rfl (hl.at 1 rfl) ?_
      refine lv_iload_n B.1.1 B.1.2.1 dX2_weighEvenly_14 rfl (hl.at 2 rfl) ?_
      refine lv_ishr B.1.1 B.1.2.1 dX2_weighEvenly_15 ?_
      refine lv_iconst (v := 1) B.1.1 B.1.2.1 dX2_weighEvenly_16 (by decide) ?_
      refine lv_iand B.1.1 B.1.2.1 dX2_weighEvenly_17 ?_
      refine y_iast B hR hS hf k_a1 dX2_weighEvenly_18 (fun S2 H locs hf hR hS => ?_)
      refine y_iinc (d := 1) B hl hf dX2_weighEvenly_19 rfl (by decide) (by decide) rfl (fun v3 ls hf hl => ?_)
      have hl : xL ls 3 [_, _, _] := hl
      refine lv_goto (tgt := 2) B.1.1 B.1.2.1 dX2_weighEvenly_22 (by decide) ?_
      exact ih _ _ _ _ _ _ _ k_p0 hf hR hS hl
def f_X2_weighEvenly (T : xT) (S : xS) (p0 : Nat) (p1 : Int32) : Option (xS) := xl ((0 : Int32)) (fun v1 => f_X2_weighEvenly_2 T xfu S p0 p1 v1)
set_option maxRecDepth 100000 in
set_option maxHeartbeats 4000000 in
theorem c_X2_weighEvenly {l : Launch} {z : Nat} {D : va_G} {dA : Nat → ClassId} {T : xT} {S : xS} {p0 : Nat} {p1 : Int32} (k_p0 : xlk T p0 2 = true) {q : xS} (hf : f_X2_weighEvenly T S p0 p1 = some q) : Met l yX2_weighEvenly (xws yX2_weighEvenly cX2_weighEvenly 3 none) xr_X2_weighEvenly (xPc z D dA T S [.ref (z + p0), .int p1]) (xQv z D dA T q) 0 0 (xA z) := by
  refine x_met RX2 (by decide) rfl (Nat.le_of_ble_eq_true rfl) ?_
  intro p e s m below meth c ls _ X hr hlk hml _ hR hS hl
  have B : xB p s m _ meth c cX2_weighEvenly RX2 3 none D dA := ⟨X, hr, hlk, hml⟩
  have hl : xL ls 3 [_, _, _] := hl
  unfold f_X2_weighEvenly at hf
  refine lv_iconst (v := 0) B.1.1 B.1.2.1 dX2_weighEvenly_0 (by decide) ?_
  refine y_istore_n B hl hf dX2_weighEvenly_1 rfl (by decide) rfl (fun v1 ls hf hl => ?_)
  have hl : xL ls 3 [_, _, _] := hl
  exact w_X2_weighEvenly_2 B xfu _ _ _ _ _ _ _ k_p0 hf hR hS hl
abbrev xr_X2_dealByRatio : Room := { frames := 3, cells := 0, slots := 0, locals := 63 }
def f_X2_dealByRatio_36 (T : xT) (rec_6 : xS → Nat → Int32 → Nat → Int32 → Int32 → Int32 → Option (xS)) (S : xS) (p0 : Nat) (p1 : Int32) (p2 : Nat) (p3 : Int32) (p4 : Int32) (p5 : Int32) (ps0 : Nat) (ps1 : Int32) (ps2 : Int32) : Option (xS) := xst T S ps0 ps1 ps2 (fun S1 => xgr T S1 p0 4 20 (fun a2 => xai T S1 a2 p5 (fun v3 => if v3 ≤ (0 : Int32) then xl ((p4 ||| (0 : Int32))) (fun v4 => xl (p5 + (1 : Int32)) (fun v5 => rec_6 S1 p0 p1 p2 p3 v4 v5)) else xl ((p4 ||| (1 : Int32))) (fun v6 => xl (p5 + (1 : Int32)) (fun v7 => rec_6 S1 p0 p1 p2 p3 v6 v7)))))
set_option maxRecDepth 100000 in
set_option maxHeartbeats 4000000 in
theorem w_X2_dealByRatio_36 {p : Program} {l : Launch} {e : Env} {s : State} {m : MethodId} {args : Array Value} {below : List Frame} {meth : Method} {c : Code} {z : Nat} {D : va_G} {dA : Nat → ClassId} {T : xT} (B : xB p s m args meth c cX2_dealByRatio RX2 6 none D dA) {q : xS} {rec_6 : xS → Nat → Int32 → Nat → Int32 → Int32 → Int32 → Option (xS)} (hrec_6 : ∀ (S : xS) (H : Heap) (locs : List Loc) (ls : Array Slot) (p0 : Nat) (p1 : Int32) (p2 : Nat) (p3 : Int32) (p4 : Int32) (p5 : Int32), xlk T p0 2 = true → xlk T p2 20 = true → rec_6 S p0 p1 p2 p3 p4 p5 = some q → xRel z D dA T S H → va_S (xA z) s.heap H locs → xL ls 6 [some (.ref (z + p0)), some (.int p1), some (.ref (z + p2)), some (.int p3), some (.int p4), some (.int p5)] → xGv p l e xr_X2_dealByRatio s m args below meth c z D dA T q H locs 6 ls []) : ∀ (S : xS) (H : Heap) (locs : List Loc) (ls : Array Slot) (p0 : Nat) (p1 : Int32) (p2 : Nat) (p3 : Int32) (p4 : Int32) (p5 : Int32) (ps0 : Nat) (ps1 : Int32) (ps2 : Int32), xlk T p0 2 = true → xlk T p2 20 = true → xlk T ps0 20 = true → f_X2_dealByRatio_36 T rec_6 S p0 p1 p2 p3 p4 p5 ps0 ps1 ps2 = some q → xRel z D dA T S H → va_S (xA z) s.heap H locs → xL ls 6 [some (.ref (z + p0)), some (.int p1), some (.ref (z + p2)), some (.int p3), some (.int p4), some (.int p5)] → xGv p l e xr_X2_dealByRatio s m args below meth c z D dA T q H locs 36 ls [.int ps2, .int ps1, .ref (z + ps0)] := by
  intro S H locs ls p0 p1 p2 p3 p4 p5 ps0 ps1 ps2 k_p0 k_p2 k_ps0 hf hR hS hl
  unfold f_X2_dealByRatio_36 at hf
  refine y_iast B hR hS hf k_ps0 dX2_dealByRatio_36 (fun S1 H locs hf hR hS => ?_)
  refine lv_iload B.1.1 B.1.2.1 dX2_dealByRatio_37 (hl.at 4 rfl) ?_
  refine lv_aload_n B.1.1 B.1.2.1 dX2_dealByRatio_39 rfl (hl.at 0 rfl) ?_
  refine y_getR B hR hf k_p0 fl_X2_18 dX2_dealByRatio_40 (fun a2 k_a2 hf => ?_)
  refine lv_iload B.1.1 B.1.2.1 dX2_dealByRatio_43 (hl.at 5 rfl) ?_
  refine y_iald B hR hf k_a2 dX2_dealByRatio_45 (fun v3 hf => ?_)
  refine y_if_le (tgt := 53) B hf dX2_dealByRatio_46 (by decide) (fun hf => ?_) (fun hf => ?_)
  · refine lv_iconst (v := 0) B.1.1 B.1.2.1 dX2_dealByRatio_53 (by decide) ?_
    refine lv_ior B.1.1 B.1.2.1 dX2_dealByRatio_54 ?_
    refine y_istore B hl hf dX2_dealByRatio_55 (by decide) rfl (fun v4 ls hf hl => ?_)
    have hl : xL ls 6 [_, _, _, _, _, _] := hl
    refine y_iinc (d := 1) B hl hf dX2_dealByRatio_57 rfl (by decide) (by decide) rfl (fun v5 ls hf hl => ?_)
    have hl : xL ls 6 [_, _, _, _, _, _] := hl
    refine lv_goto (tgt := 6) B.1.1 B.1.2.1 dX2_dealByRatio_60 (by decide) ?_
    exact hrec_6 _ _ _ _ _ _ _ _ _ _ k_p0 k_p2 hf hR hS hl
  · refine lv_iconst (v := 1) B.1.1 B.1.2.1 dX2_dealByRatio_49 (by decide) ?_
    refine lv_goto (tgt := 54) B.1.1 B.1.2.1 dX2_dealByRatio_50 (by decide) ?_
    refine lv_ior B.1.1 B.1.2.1 dX2_dealByRatio_54 ?_
    refine y_istore B hl hf dX2_dealByRatio_55 (by decide) rfl (fun v6 ls hf hl => ?_)
    have hl : xL ls 6 [_, _, _, _, _, _] := hl
    refine y_iinc (d := 1) B hl hf dX2_dealByRatio_57 rfl (by decide) (by decide) rfl (fun v7 ls hf hl => ?_)
    have hl : xL ls 6 [_, _, _, _, _, _] := hl
    refine lv_goto (tgt := 6) B.1.1 B.1.2.1 dX2_dealByRatio_60 (by decide) ?_
    exact hrec_6 _ _ _ _ _ _ _ _ _ _ k_p0 k_p2 hf hR hS hl
def f_X2_dealByRatio_6 (T : xT) : Nat → xS → Nat → Int32 → Nat → Int32 → Int32 → Int32 → Option (xS)
  | 0, _, _, _, _, _, _, _ => none
  | n + 1, S, p0, p1, p2, p3, p4, p5 => if (8 : Int32) ≤ p5 then if p4 = (0 : Int32) then xcv (f_X2_weighEvenly T S p0 p3) (fun S3 => xgr T S3 p0 4 20 (fun a4 => xcv (f_X2_deal T S3 p0 p1 a4) (fun S5 => some S5))) else xgr T S p0 4 20 (fun a1 => xcv (f_X2_deal T S p0 p1 a1) (fun S2 => some S2)) else xgr T S p0 4 20 (fun a6 => if ((p3 >>> (p5 &&& 31)) &&& (1 : Int32)) = (0 : Int32) then f_X2_dealByRatio_36 T (f_X2_dealByRatio_6 T n) S p0 p1 p2 p3 p4 p5 a6 p5 ((0 : Int32)) else xai T S p2 p5 (fun v7 => f_X2_dealByRatio_36 T (f_X2_dealByRatio_6 T n) S p0 p1 p2 p3 p4 p5 a6 p5 v7))
set_option maxRecDepth 100000 in
set_option maxHeartbeats 4000000 in
theorem w_X2_dealByRatio_6 {p : Program} {l : Launch} {e : Env} {s : State} {m : MethodId} {args : Array Value} {below : List Frame} {meth : Method} {c : Code} {z : Nat} {D : va_G} {dA : Nat → ClassId} {T : xT} (B : xB p s m args meth c cX2_dealByRatio RX2 6 none D dA) {q : xS} : ∀ (n : Nat), ∀ (S : xS) (H : Heap) (locs : List Loc) (ls : Array Slot) (p0 : Nat) (p1 : Int32) (p2 : Nat) (p3 : Int32) (p4 : Int32) (p5 : Int32), xlk T p0 2 = true → xlk T p2 20 = true → f_X2_dealByRatio_6 T n S p0 p1 p2 p3 p4 p5 = some q → xRel z D dA T S H → va_S (xA z) s.heap H locs → xL ls 6 [some (.ref (z + p0)), some (.int p1), some (.ref (z + p2)), some (.int p3), some (.int p4), some (.int p5)] → xGv p l e xr_X2_dealByRatio s m args below meth c z D dA T q H locs 6 ls [] := by
  intro n
  induction n with
  | zero =>
    intro S H locs ls p0 p1 p2 p3 p4 p5 k_p0 k_p2 hf hR hS hl
    exact absurd hf (by simp [f_X2_dealByRatio_6])
  | succ n ih =>
    intro S H locs ls p0 p1 p2 p3 p4 p5 k_p0 k_p2 hf hR hS hl
    unfold f_X2_dealByRatio_6 at hf
    refine lv_iload B.1.1 B.1.2.1 dX2_dealByRatio_6 (hl.at 5 rfl) ?_
    refine lv_bipush (v := 8) B.1.1 B.1.2.1 dX2_dealByRatio_8 (by decide) ?_
    refine y_icmp_ge (tgt := 63) B hf dX2_dealByRatio_10 (by decide) (fun hf => ?_) (fun hf => ?_)
    · refine lv_iload B.1.1 B.1.2.1 dX2_dealByRatio_63 (hl.at 4 rfl) ?_
      refine y_if_ne (tgt := 73) B hf dX2_dealByRatio_65 (by decide) (fun hf => ?_) (fun hf => ?_)
      · refine lv_aload_n B.1.1 B.1.2.1 dX2_dealByRatio_73 rfl (hl.at 0 rfl) ?_
        refine lv_iload_n B.1.1 B.1.2.1 dX2_dealByRatio_74 rfl (hl.at 1 rfl) ?_
        refine lv_aload_n B.1.1 B.1.2.1 dX2_dealByRatio_75 rfl (hl.at 0 rfl) ?_
        refine y_getR B hR hf k_p0 fl_X2_18 dX2_dealByRatio_76 (fun a1 k_a1 hf => ?_)
        refine y_cv hf (fun q hq => x_runV (ci := 2) (C := RX2) B.1 B.2.2.2 hl hR hS cm_X2_46 ⟨rfl, rfl, Nat.le_of_ble_eq_true rfl, Nat.le_of_ble_eq_true rfl⟩ (by decide) rfl k_p0 (c_X2_deal k_p0 k_a1 hq) rfl rfl (Nat.le_of_ble_eq_true rfl) dX2_dealByRatio_79 ⟨Nat.le_of_ble_eq_true rfl, Nat.le_of_ble_eq_true rfl⟩) hS (fun S2 H locs hf hR hS => ?_)
        exact y_vret B hR hS hf dX2_dealByRatio_82
      · refine lv_aload_n B.1.1 B.1.2.1 dX2_dealByRatio_68 rfl (hl.at 0 rfl) ?_
        refine lv_iload_n B.1.1 B.1.2.1 dX2_dealByRatio_69 rfl (hl.at 3 rfl) ?_
        refine y_cv hf (fun q hq => x_runV (ci := 2) (C := RX2) B.1 B.2.2.2 hl hR hS cm_X2_42 ⟨rfl, rfl, Nat.le_of_ble_eq_true rfl, Nat.le_of_ble_eq_true rfl⟩ (by decide) rfl k_p0 (c_X2_weighEvenly k_p0 hq) rfl rfl (Nat.le_of_ble_eq_true rfl) dX2_dealByRatio_70 ⟨Nat.le_of_ble_eq_true rfl, Nat.le_of_ble_eq_true rfl⟩) hS (fun S3 H locs hf hR hS => ?_)
        refine lv_aload_n B.1.1 B.1.2.1 dX2_dealByRatio_73 rfl (hl.at 0 rfl) ?_
        refine lv_iload_n B.1.1 B.1.2.1 dX2_dealByRatio_74 rfl (hl.at 1 rfl) ?_
        refine lv_aload_n B.1.1 B.1.2.1 dX2_dealByRatio_75 rfl (hl.at 0 rfl) ?_
        refine y_getR B hR hf k_p0 fl_X2_18 dX2_dealByRatio_76 (fun a4 k_a4 hf => ?_)
        refine y_cv hf (fun q hq => x_runV (ci := 2) (C := RX2) B.1 B.2.2.2 hl hR hS cm_X2_46 ⟨rfl, rfl, Nat.le_of_ble_eq_true rfl, Nat.le_of_ble_eq_true rfl⟩ (by decide) rfl k_p0 (c_X2_deal k_p0 k_a4 hq) rfl rfl (Nat.le_of_ble_eq_true rfl) dX2_dealByRatio_79 ⟨Nat.le_of_ble_eq_true rfl, Nat.le_of_ble_eq_true rfl⟩) hS (fun S5 H locs hf hR hS => ?_)
        exact y_vret B hR hS hf dX2_dealByRatio_82
    · refine lv_aload_n B.1.1 B.1.2.1 dX2_dealByRatio_13 rfl (hl.at 0 rfl) ?_
      refine y_getR B hR hf k_p0 fl_X2_18 dX2_dealByRatio_14 (fun a6 k_a6 hf => ?_)
      refine lv_iload B.1.1 B.1.2.1 dX2_dealByRatio_17 (hl.at 5 rfl) ?_
      refine lv_iload_n B.1.1 B.1.2.1 dX2_dealByRatio_19 rfl (hl.at 3 rfl) ?_
      refine lv_iload B.1.1 B.1.2.1 dX2_dealByRatio_20 (hl.at 5 rfl) ?_
      refine lv_ishr B.1.1 B.1.2.1 dX2_dealByRatio_22 ?_
      refine lv_iconst (v := 1) B.1.1 B.1.2.1 dX2_dealByRatio_23 (by decide) ?_
      refine lv_iand B.1.1 B.1.2.1 dX2_dealByRatio_24 ?_
      refine y_if_ne (tgt := 32) B hf dX2_dealByRatio_25 (by decide) (fun hf => ?_) (fun hf => ?_)
      · refine lv_aload_n B.1.1 B.1.2.1 dX2_dealByRatio_32 rfl (hl.at 2 rfl) ?_
        refine lv_iload B.1.1 B.1.2.1 dX2_dealByRatio_33 (hl.at 5 rfl) ?_
        refine y_iald B hR hf k_p2 dX2_dealByRatio_35 (fun v7 hf => ?_)
        exact w_X2_dealByRatio_36 B ih _ _ _ _ _ _ _ _ _ _ _ _ _ k_p0 k_p2 k_a6 hf hR hS hl
      · refine lv_iconst (v := 0) B.1.1 B.1.2.1 dX2_dealByRatio_28 (by decide) ?_
        refine lv_goto (tgt := 36) B.1.1 B.1.2.1 dX2_dealByRatio_29 (by decide) ?_
        exact w_X2_dealByRatio_36 B ih _ _ _ _ _ _ _ _ _ _ _ _ _ k_p0 k_p2 k_a6 hf hR hS hl
def f_X2_dealByRatio (T : xT) (S : xS) (p0 : Nat) (p1 : Int32) (p2 : Nat) (p3 : Int32) : Option (xS) := xl ((0 : Int32)) (fun v1 => xl ((0 : Int32)) (fun v2 => f_X2_dealByRatio_6 T xfu S p0 p1 p2 p3 v1 v2))
set_option maxRecDepth 100000 in
set_option maxHeartbeats 4000000 in
theorem c_X2_dealByRatio {l : Launch} {z : Nat} {D : va_G} {dA : Nat → ClassId} {T : xT} {S : xS} {p0 : Nat} {p1 : Int32} {p2 : Nat} {p3 : Int32} (k_p0 : xlk T p0 2 = true) (k_p2 : xlk T p2 20 = true) {q : xS} (hf : f_X2_dealByRatio T S p0 p1 p2 p3 = some q) : Met l yX2_dealByRatio (xws yX2_dealByRatio cX2_dealByRatio 6 none) xr_X2_dealByRatio (xPc z D dA T S [.ref (z + p0), .int p1, .ref (z + p2), .int p3]) (xQv z D dA T q) 0 0 (xA z) := by
  refine x_met RX2 (by decide) rfl (Nat.le_of_ble_eq_true rfl) ?_
  intro p e s m below meth c ls _ X hr hlk hml _ hR hS hl
  have B : xB p s m _ meth c cX2_dealByRatio RX2 6 none D dA := ⟨X, hr, hlk, hml⟩
  have hl : xL ls 6 [_, _, _, _, _, _] := hl
  unfold f_X2_dealByRatio at hf
  refine lv_iconst (v := 0) B.1.1 B.1.2.1 dX2_dealByRatio_0 (by decide) ?_
  refine y_istore B hl hf dX2_dealByRatio_1 (by decide) rfl (fun v1 ls hf hl => ?_)
  have hl : xL ls 6 [_, _, _, _, _, _] := hl
  refine lv_iconst (v := 0) B.1.1 B.1.2.1 dX2_dealByRatio_3 (by decide) ?_
  refine y_istore B hl hf dX2_dealByRatio_4 (by decide) rfl (fun v2 ls hf hl => ?_)
  have hl : xL ls 6 [_, _, _, _, _, _] := hl
  exact w_X2_dealByRatio_6 B xfu _ _ _ _ _ _ _ _ _ _ k_p0 k_p2 hf hR hS hl
abbrev xr_X2_weighByTier : Room := { frames := 1, cells := 0, slots := 0, locals := 12 }
def f_X2_weighByTier_44 (T : xT) (rec_6 : xS → Nat → Nat → Int32 → Int32 → Int32 → Int32 → Option (Int32 × xS)) (S : xS) (p0 : Nat) (p1 : Nat) (p2 : Int32) (p3 : Int32) (p4 : Int32) (p5 : Int32) (ps0 : Nat) (ps1 : Int32) (ps2 : Int32) : Option (Int32 × xS) := xst T S ps0 ps1 ps2 (fun S1 => xgr T S1 p0 4 20 (fun a2 => xai T S1 a2 p5 (fun v3 => if v3 ≤ (0 : Int32) then xl ((p4 ||| (0 : Int32))) (fun v4 => xl (p5 + (1 : Int32)) (fun v5 => rec_6 S1 p0 p1 p2 p3 v4 v5)) else xl ((p4 ||| (1 : Int32))) (fun v6 => xl (p5 + (1 : Int32)) (fun v7 => rec_6 S1 p0 p1 p2 p3 v6 v7)))))
set_option maxRecDepth 100000 in
set_option maxHeartbeats 4000000 in
theorem w_X2_weighByTier_44 {p : Program} {l : Launch} {e : Env} {s : State} {m : MethodId} {args : Array Value} {below : List Frame} {meth : Method} {c : Code} {z : Nat} {D : va_G} {dA : Nat → ClassId} {T : xT} (B : xB p s m args meth c cX2_weighByTier RX2 6 (some .boolean) D dA) {q : Int32 × xS} {rec_6 : xS → Nat → Nat → Int32 → Int32 → Int32 → Int32 → Option (Int32 × xS)} (hrec_6 : ∀ (S : xS) (H : Heap) (locs : List Loc) (ls : Array Slot) (p0 : Nat) (p1 : Nat) (p2 : Int32) (p3 : Int32) (p4 : Int32) (p5 : Int32), xlk T p0 2 = true → xlk T p1 8 = true → rec_6 S p0 p1 p2 p3 p4 p5 = some q → xRel z D dA T S H → va_S (xA z) s.heap H locs → xL ls 6 [some (.ref (z + p0)), some (.ref (z + p1)), some (.int p2), some (.int p3), some (.int p4), some (.int p5)] → xGi p l e xr_X2_weighByTier s m args below meth c z D dA T q H locs 6 ls []) : ∀ (S : xS) (H : Heap) (locs : List Loc) (ls : Array Slot) (p0 : Nat) (p1 : Nat) (p2 : Int32) (p3 : Int32) (p4 : Int32) (p5 : Int32) (ps0 : Nat) (ps1 : Int32) (ps2 : Int32), xlk T p0 2 = true → xlk T p1 8 = true → xlk T ps0 20 = true → f_X2_weighByTier_44 T rec_6 S p0 p1 p2 p3 p4 p5 ps0 ps1 ps2 = some q → xRel z D dA T S H → va_S (xA z) s.heap H locs → xL ls 6 [some (.ref (z + p0)), some (.ref (z + p1)), some (.int p2), some (.int p3), some (.int p4), some (.int p5)] → xGi p l e xr_X2_weighByTier s m args below meth c z D dA T q H locs 44 ls [.int ps2, .int ps1, .ref (z + ps0)] := by
  intro S H locs ls p0 p1 p2 p3 p4 p5 ps0 ps1 ps2 k_p0 k_p1 k_ps0 hf hR hS hl
  unfold f_X2_weighByTier_44 at hf
  refine y_iast B hR hS hf k_ps0 dX2_weighByTier_44 (fun S1 H locs hf hR hS => ?_)
  refine lv_iload B.1.1 B.1.2.1 dX2_weighByTier_45 (hl.at 4 rfl) ?_
  refine lv_aload_n B.1.1 B.1.2.1 dX2_weighByTier_47 rfl (hl.at 0 rfl) ?_
  refine y_getR B hR hf k_p0 fl_X2_18 dX2_weighByTier_48 (fun a2 k_a2 hf => ?_)
  refine lv_iload B.1.1 B.1.2.1 dX2_weighByTier_51 (hl.at 5 rfl) ?_
  refine y_iald B hR hf k_a2 dX2_weighByTier_53 (fun v3 hf => ?_)
  refine y_if_le (tgt := 61) B hf dX2_weighByTier_54 (by decide) (fun hf => ?_) (fun hf => ?_)
  · refine lv_iconst (v := 0) B.1.1 B.1.2.1 dX2_weighByTier_61 (by decide) ?_
    refine lv_ior B.1.1 B.1.2.1 dX2_weighByTier_62 ?_
    refine y_istore B hl hf dX2_weighByTier_63 (by decide) rfl (fun v4 ls hf hl => ?_)
    have hl : xL ls 6 [_, _, _, _, _, _] := hl
    refine y_iinc (d := 1) B hl hf dX2_weighByTier_65 rfl (by decide) (by decide) rfl (fun v5 ls hf hl => ?_)
    have hl : xL ls 6 [_, _, _, _, _, _] := hl
    refine lv_goto (tgt := 6) B.1.1 B.1.2.1 dX2_weighByTier_68 (by decide) ?_
    exact hrec_6 _ _ _ _ _ _ _ _ _ _ k_p0 k_p1 hf hR hS hl
  · refine lv_iconst (v := 1) B.1.1 B.1.2.1 dX2_weighByTier_57 (by decide) ?_
    refine lv_goto (tgt := 62) B.1.1 B.1.2.1 dX2_weighByTier_58 (by decide) ?_
    refine lv_ior B.1.1 B.1.2.1 dX2_weighByTier_62 ?_
    refine y_istore B hl hf dX2_weighByTier_63 (by decide) rfl (fun v6 ls hf hl => ?_)
    have hl : xL ls 6 [_, _, _, _, _, _] := hl
    refine y_iinc (d := 1) B hl hf dX2_weighByTier_65 rfl (by decide) (by decide) rfl (fun v7 ls hf hl => ?_)
    have hl : xL ls 6 [_, _, _, _, _, _] := hl
    refine lv_goto (tgt := 6) B.1.1 B.1.2.1 dX2_weighByTier_68 (by decide) ?_
    exact hrec_6 _ _ _ _ _ _ _ _ _ _ k_p0 k_p1 hf hR hS hl
def f_X2_weighByTier_6 (T : xT) : Nat → xS → Nat → Nat → Int32 → Int32 → Int32 → Int32 → Option (Int32 × xS)
  | 0, _, _, _, _, _, _, _ => none
  | n + 1, S, p0, p1, p2, p3, p4, p5 => if (8 : Int32) ≤ p5 then xgd (xnz p4) (some (p4, S)) else xgr T S p0 4 20 (fun a1 => if ((p3 >>> (p5 &&& 31)) &&& (1 : Int32)) = (0 : Int32) then f_X2_weighByTier_44 T (f_X2_weighByTier_6 T n) S p0 p1 p2 p3 p4 p5 a1 p5 ((0 : Int32)) else xgr T S p1 2 20 (fun a2 => xai T S a2 (((p2 * (8 : Int32)) + p5)) (fun v3 => f_X2_weighByTier_44 T (f_X2_weighByTier_6 T n) S p0 p1 p2 p3 p4 p5 a1 p5 v3)))
set_option maxRecDepth 100000 in
set_option maxHeartbeats 4000000 in
theorem w_X2_weighByTier_6 {p : Program} {l : Launch} {e : Env} {s : State} {m : MethodId} {args : Array Value} {below : List Frame} {meth : Method} {c : Code} {z : Nat} {D : va_G} {dA : Nat → ClassId} {T : xT} (B : xB p s m args meth c cX2_weighByTier RX2 6 (some .boolean) D dA) {q : Int32 × xS} : ∀ (n : Nat), ∀ (S : xS) (H : Heap) (locs : List Loc) (ls : Array Slot) (p0 : Nat) (p1 : Nat) (p2 : Int32) (p3 : Int32) (p4 : Int32) (p5 : Int32), xlk T p0 2 = true → xlk T p1 8 = true → f_X2_weighByTier_6 T n S p0 p1 p2 p3 p4 p5 = some q → xRel z D dA T S H → va_S (xA z) s.heap H locs → xL ls 6 [some (.ref (z + p0)), some (.ref (z + p1)), some (.int p2), some (.int p3), some (.int p4), some (.int p5)] → xGi p l e xr_X2_weighByTier s m args below meth c z D dA T q H locs 6 ls [] := by
  intro n
  induction n with
  | zero =>
    intro S H locs ls p0 p1 p2 p3 p4 p5 k_p0 k_p1 hf hR hS hl
    exact absurd hf (by simp [f_X2_weighByTier_6])
  | succ n ih =>
    intro S H locs ls p0 p1 p2 p3 p4 p5 k_p0 k_p1 hf hR hS hl
    unfold f_X2_weighByTier_6 at hf
    refine lv_iload B.1.1 B.1.2.1 dX2_weighByTier_6 (hl.at 5 rfl) ?_
    refine lv_bipush (v := 8) B.1.1 B.1.2.1 dX2_weighByTier_8 (by decide) ?_
    refine y_icmp_ge (tgt := 71) B hf dX2_weighByTier_10 (by decide) (fun hf => ?_) (fun hf => ?_)
    · refine lv_iload B.1.1 B.1.2.1 dX2_weighByTier_71 (hl.at 4 rfl) ?_
      exact y_zret B hR hS hf dX2_weighByTier_73
    · refine lv_aload_n B.1.1 B.1.2.1 dX2_weighByTier_13 rfl (hl.at 0 rfl) ?_
      refine y_getR B hR hf k_p0 fl_X2_18 dX2_weighByTier_14 (fun a1 k_a1 hf => ?_)
      refine lv_iload B.1.1 B.1.2.1 dX2_weighByTier_17 (hl.at 5 rfl) ?_
      refine lv_iload_n B.1.1 B.1.2.1 dX2_weighByTier_19 rfl (hl.at 3 rfl) ?_
      refine lv_iload B.1.1 B.1.2.1 dX2_weighByTier_20 (hl.at 5 rfl) ?_
      refine lv_ishr B.1.1 B.1.2.1 dX2_weighByTier_22 ?_
      refine lv_iconst (v := 1) B.1.1 B.1.2.1 dX2_weighByTier_23 (by decide) ?_
      refine lv_iand B.1.1 B.1.2.1 dX2_weighByTier_24 ?_
      refine y_if_ne (tgt := 32) B hf dX2_weighByTier_25 (by decide) (fun hf => ?_) (fun hf => ?_)
      · refine lv_aload_n B.1.1 B.1.2.1 dX2_weighByTier_32 rfl (hl.at 1 rfl) ?_
        refine y_getR B hR hf k_p1 fl_X2_50 dX2_weighByTier_33 (fun a2 k_a2 hf => ?_)
        refine lv_iload_n B.1.1 B.1.2.1 dX2_weighByTier_36 rfl (hl.at 2 rfl) ?_
        refine lv_bipush (v := 8) B.1.1 B.1.2.1 dX2_weighByTier_37 (by decide) ?_
        refine lv_imul B.1.1 B.1.2.1 dX2_weighByTier_39 ?_
        refine lv_iload B.1.1 B.1.2.1 dX2_weighByTier_40 (hl.at 5 rfl) ?_
        refine lv_iadd B.1.1 B.1.2.1 dX2_weighByTier_42 ?_
        refine y_iald B hR hf k_a2 dX2_weighByTier_43 (fun v3 hf => ?_)
        exact w_X2_weighByTier_44 B ih _ _ _ _ _ _ _ _ _ _ _ _ _ k_p0 k_p1 k_a1 hf hR hS hl
      · refine lv_iconst (v := 0) B.1.1 B.1.2.1 dX2_weighByTier_28 (by decide) ?_
        refine lv_goto (tgt := 44) B.1.1 B.1.2.1 dX2_weighByTier_29 (by decide) ?_
        exact w_X2_weighByTier_44 B ih _ _ _ _ _ _ _ _ _ _ _ _ _ k_p0 k_p1 k_a1 hf hR hS hl
def f_X2_weighByTier (T : xT) (S : xS) (p0 : Nat) (p1 : Nat) (p2 : Int32) (p3 : Int32) : Option (Int32 × xS) := xl ((0 : Int32)) (fun v1 => xl ((0 : Int32)) (fun v2 => f_X2_weighByTier_6 T xfu S p0 p1 p2 p3 v1 v2))
set_option maxRecDepth 100000 in
set_option maxHeartbeats 4000000 in
theorem c_X2_weighByTier {l : Launch} {z : Nat} {D : va_G} {dA : Nat → ClassId} {T : xT} {S : xS} {p0 : Nat} {p1 : Nat} {p2 : Int32} {p3 : Int32} (k_p0 : xlk T p0 2 = true) (k_p1 : xlk T p1 8 = true) {q : Int32 × xS} (hf : f_X2_weighByTier T S p0 p1 p2 p3 = some q) : Met l yX2_weighByTier (xws yX2_weighByTier cX2_weighByTier 6 (some .boolean)) xr_X2_weighByTier (xPc z D dA T S [.ref (z + p0), .ref (z + p1), .int p2, .int p3]) (xQi z D dA T q) 0 0 (xA z) := by
  refine x_met RX2 (by decide) rfl (Nat.le_of_ble_eq_true rfl) ?_
  intro p e s m below meth c ls _ X hr hlk hml _ hR hS hl
  have B : xB p s m _ meth c cX2_weighByTier RX2 6 (some .boolean) D dA := ⟨X, hr, hlk, hml⟩
  have hl : xL ls 6 [_, _, _, _, _, _] := hl
  unfold f_X2_weighByTier at hf
  refine lv_iconst (v := 0) B.1.1 B.1.2.1 dX2_weighByTier_0 (by decide) ?_
  refine y_istore B hl hf dX2_weighByTier_1 (by decide) rfl (fun v1 ls hf hl => ?_)
  have hl : xL ls 6 [_, _, _, _, _, _] := hl
  refine lv_iconst (v := 0) B.1.1 B.1.2.1 dX2_weighByTier_3 (by decide) ?_
  refine y_istore B hl hf dX2_weighByTier_4 (by decide) rfl (fun v2 ls hf hl => ?_)
  have hl : xL ls 6 [_, _, _, _, _, _] := hl
  exact w_X2_weighByTier_6 B xfu _ _ _ _ _ _ _ _ _ _ k_p0 k_p1 hf hR hS hl
abbrev xr_X9_addAll : Room := { frames := 1, cells := 0, slots := 0, locals := 12 }
def f_X9_addAll_2 (T : xT) : Nat → xS → Nat → Nat → Int32 → Option (xS)
  | 0, _, _, _, _ => none
  | n + 1, S, p0, p1, p2 => if (8 : Int32) ≤ p2 then some S else xai T S p0 p2 (fun v1 => xai T S p1 p2 (fun v2 => xst T S p0 p2 ((v1 + v2)) (fun S3 => xl (p2 + (1 : Int32)) (fun v4 => f_X9_addAll_2 T n S3 p0 p1 v4))))
set_option maxRecDepth 100000 in
set_option maxHeartbeats 4000000 in
theorem w_X9_addAll_2 {p : Program} {l : Launch} {e : Env} {s : State} {m : MethodId} {args : Array Value} {below : List Frame} {meth : Method} {c : Code} {z : Nat} {D : va_G} {dA : Nat → ClassId} {T : xT} (B : xB p s m args meth c cX9_addAll RX9 3 none D dA) {q : xS} : ∀ (n : Nat), ∀ (S : xS) (H : Heap) (locs : List Loc) (ls : Array Slot) (p0 : Nat) (p1 : Nat) (p2 : Int32), xlk T p0 20 = true → xlk T p1 20 = true → f_X9_addAll_2 T n S p0 p1 p2 = some q → xRel z D dA T S H → va_S (xA z) s.heap H locs → xL ls 3 [some (.ref (z + p0)), some (.ref (z + p1)), some (.int p2)] → xGv p l e xr_X9_addAll s m args below meth c z D dA T q H locs 2 ls [] := by
  intro n
  induction n with
  | zero =>
    intro S H locs ls p0 p1 p2 k_p0 k_p1 hf hR hS hl
    exact absurd hf (by simp [f_X9_addAll_2])
  | succ n ih =>
    intro S H locs ls p0 p1 p2 k_p0 k_p1 hf hR hS hl
    unfold f_X9_addAll_2 at hf
    refine lv_iload_n B.1.1 B.1.2.1 dX9_addAll_2 rfl (hl.at 2 rfl) ?_
    refine lv_bipush (v := 8) B.1.1 B.1.2.1 dX9_addAll_3 (by decide) ?_
    refine y_icmp_ge (tgt := 23) B hf dX9_addAll_5 (by decide) (fun hf => ?_) (fun hf => ?_)
    · exact y_vret B hR hS hf dX9_addAll_23
    · refine lv_aload_n B.1.1 B.1.2.1 dX9_addAll_8 rfl (hl.at 0 rfl) ?_
      refine lv_iload_n B.1.1 B.1.2.1 dX9_addAll_9 rfl (hl.at 2 rfl) ?_
      refine lv_dup2_11 B.1.1 B.1.2.1 dX9_addAll_10 rfl rfl ?_
      refine y_iald B hR hf k_p0 dX9_addAll_11 (fun v1 hf => ?_)
      refine lv_aload_n B.1.1 B.1.2.1 dX9_addAll_12 rfl (hl.at 1 rfl) ?_
      refine lv_iload_n B.1.1 B.1.2.1 dX9_addAll_13 rfl (hl.at 2 rfl) ?_
      refine y_iald B hR hf k_p1 dX9_addAll_14 (fun v2 hf => ?_)
      refine lv_iadd B.1.1 B.1.2.1 dX9_addAll_15 ?_
      refine y_iast B hR hS hf k_p0 dX9_addAll_16 (fun S3 H locs hf hR hS => ?_)
      refine y_iinc (d := 1) B hl hf dX9_addAll_17 rfl (by decide) (by decide) rfl (fun v4 ls hf hl => ?_)
      have hl : xL ls 3 [_, _, _] := hl
      refine lv_goto (tgt := 2) B.1.1 B.1.2.1 dX9_addAll_20 (by decide) ?_
      exact ih _ _ _ _ _ _ _ k_p0 k_p1 hf hR hS hl
def f_X9_addAll (T : xT) (S : xS) (p0 : Nat) (p1 : Nat) : Option (xS) := xl ((0 : Int32)) (fun v1 => f_X9_addAll_2 T xfu S p0 p1 v1)
set_option maxRecDepth 100000 in
set_option maxHeartbeats 4000000 in
theorem c_X9_addAll {l : Launch} {z : Nat} {D : va_G} {dA : Nat → ClassId} {T : xT} {S : xS} {p0 : Nat} {p1 : Nat} (k_p0 : xlk T p0 20 = true) (k_p1 : xlk T p1 20 = true) {q : xS} (hf : f_X9_addAll T S p0 p1 = some q) : Met l yX9_addAll (xws yX9_addAll cX9_addAll 3 none) xr_X9_addAll (xPc z D dA T S [.ref (z + p0), .ref (z + p1)]) (xQv z D dA T q) 0 0 (xA z) := by
  refine x_met RX9 (by decide) rfl (Nat.le_of_ble_eq_true rfl) ?_
  intro p e s m below meth c ls _ X hr hlk hml _ hR hS hl
  have B : xB p s m _ meth c cX9_addAll RX9 3 none D dA := ⟨X, hr, hlk, hml⟩
  have hl : xL ls 3 [_, _, _] := hl
  unfold f_X9_addAll at hf
  refine lv_iconst (v := 0) B.1.1 B.1.2.1 dX9_addAll_0 (by decide) ?_
  refine y_istore_n B hl hf dX9_addAll_1 rfl (by decide) rfl (fun v1 ls hf hl => ?_)
  have hl : xL ls 3 [_, _, _] := hl
  exact w_X9_addAll_2 B xfu _ _ _ _ _ _ _ k_p0 k_p1 hf hR hS hl
abbrev xr_X9_takeAll : Room := { frames := 1, cells := 0, slots := 0, locals := 12 }
def f_X9_takeAll_2 (T : xT) : Nat → xS → Nat → Nat → Int32 → Option (xS)
  | 0, _, _, _, _ => none
  | n + 1, S, p0, p1, p2 => if (8 : Int32) ≤ p2 then some S else xai T S p0 p2 (fun v1 => xai T S p1 p2 (fun v2 => xst T S p0 p2 ((v1 - v2)) (fun S3 => xl (p2 + (1 : Int32)) (fun v4 => f_X9_takeAll_2 T n S3 p0 p1 v4))))
set_option maxRecDepth 100000 in
set_option maxHeartbeats 4000000 in
theorem w_X9_takeAll_2 {p : Program} {l : Launch} {e : Env} {s : State} {m : MethodId} {args : Array Value} {below : List Frame} {meth : Method} {c : Code} {z : Nat} {D : va_G} {dA : Nat → ClassId} {T : xT} (B : xB p s m args meth c cX9_takeAll RX9 3 none D dA) {q : xS} : ∀ (n : Nat), ∀ (S : xS) (H : Heap) (locs : List Loc) (ls : Array Slot) (p0 : Nat) (p1 : Nat) (p2 : Int32), xlk T p0 20 = true → xlk T p1 20 = true → f_X9_takeAll_2 T n S p0 p1 p2 = some q → xRel z D dA T S H → va_S (xA z) s.heap H locs → xL ls 3 [some (.ref (z + p0)), some (.ref (z + p1)), some (.int p2)] → xGv p l e xr_X9_takeAll s m args below meth c z D dA T q H locs 2 ls [] := by
  intro n
  induction n with
  | zero =>
    intro S H locs ls p0 p1 p2 k_p0 k_p1 hf hR hS hl
    exact absurd hf (by simp [f_X9_takeAll_2])
  | succ n ih =>
    intro S H locs ls p0 p1 p2 k_p0 k_p1 hf hR hS hl
    unfold f_X9_takeAll_2 at hf
    refine lv_iload_n B.1.1 B.1.2.1 dX9_takeAll_2 rfl (hl.at 2 rfl) ?_
    refine lv_bipush (v := 8) B.1.1 B.1.2.1 dX9_takeAll_3 (by decide) ?_
    refine y_icmp_ge (tgt := 23) B hf dX9_takeAll_5 (by decide) (fun hf => ?_) (fun hf => ?_)
    · exact y_vret B hR hS hf dX9_takeAll_23
    · refine lv_aload_n B.1.1 B.1.2.1 dX9_takeAll_8 rfl (hl.at 0 rfl) ?_
      refine lv_iload_n B.1.1 B.1.2.1 dX9_takeAll_9 rfl (hl.at 2 rfl) ?_
      refine lv_dup2_11 B.1.1 B.1.2.1 dX9_takeAll_10 rfl rfl ?_
      refine y_iald B hR hf k_p0 dX9_takeAll_11 (fun v1 hf => ?_)
      refine lv_aload_n B.1.1 B.1.2.1 dX9_takeAll_12 rfl (hl.at 1 rfl) ?_
      refine lv_iload_n B.1.1 B.1.2.1 dX9_takeAll_13 rfl (hl.at 2 rfl) ?_
      refine y_iald B hR hf k_p1 dX9_takeAll_14 (fun v2 hf => ?_)
      refine lv_isub B.1.1 B.1.2.1 dX9_takeAll_15 ?_
      refine y_iast B hR hS hf k_p0 dX9_takeAll_16 (fun S3 H locs hf hR hS => ?_)
      refine y_iinc (d := 1) B hl hf dX9_takeAll_17 rfl (by decide) (by decide) rfl (fun v4 ls hf hl => ?_)
      have hl : xL ls 3 [_, _, _] := hl
      refine lv_goto (tgt := 2) B.1.1 B.1.2.1 dX9_takeAll_20 (by decide) ?_
      exact ih _ _ _ _ _ _ _ k_p0 k_p1 hf hR hS hl
def f_X9_takeAll (T : xT) (S : xS) (p0 : Nat) (p1 : Nat) : Option (xS) := xl ((0 : Int32)) (fun v1 => f_X9_takeAll_2 T xfu S p0 p1 v1)
set_option maxRecDepth 100000 in
set_option maxHeartbeats 4000000 in
theorem c_X9_takeAll {l : Launch} {z : Nat} {D : va_G} {dA : Nat → ClassId} {T : xT} {S : xS} {p0 : Nat} {p1 : Nat} (k_p0 : xlk T p0 20 = true) (k_p1 : xlk T p1 20 = true) {q : xS} (hf : f_X9_takeAll T S p0 p1 = some q) : Met l yX9_takeAll (xws yX9_takeAll cX9_takeAll 3 none) xr_X9_takeAll (xPc z D dA T S [.ref (z + p0), .ref (z + p1)]) (xQv z D dA T q) 0 0 (xA z) := by
  refine x_met RX9 (by decide) rfl (Nat.le_of_ble_eq_true rfl) ?_
  intro p e s m below meth c ls _ X hr hlk hml _ hR hS hl
  have B : xB p s m _ meth c cX9_takeAll RX9 3 none D dA := ⟨X, hr, hlk, hml⟩
  have hl : xL ls 3 [_, _, _] := hl
  unfold f_X9_takeAll at hf
  refine lv_iconst (v := 0) B.1.1 B.1.2.1 dX9_takeAll_0 (by decide) ?_
  refine y_istore_n B hl hf dX9_takeAll_1 rfl (by decide) rfl (fun v1 ls hf hl => ?_)
  have hl : xL ls 3 [_, _, _] := hl
  exact w_X9_takeAll_2 B xfu _ _ _ _ _ _ _ k_p0 k_p1 hf hR hS hl
